def o_pass (σ : AS) (k i : Int) : Int × AS := σ.on k fun q => (if 0 ≤ i ∧ i < 2 * (σ.now.2.2 q).1 then ((σ.now.2.2 q).2.2 i.toNat : Int) else -1, σ)
theorem c_pass {B : Nat} {σ : AS} {h : HH} (hW : WA B σ) (hC : CR σ h) (k i : Int) : Sp mX10_pass [vr 0 0, vi k, vi i] h (OP (o_pass σ k i) h) := by
  rcases kcase k σ.now.1 with hk | ⟨q, rfl, hk⟩
  · rw [show o_pass σ k i = _ from on_no hk]
    refine Sp.of rfl kX10_pass (Nat.le_of_ble_eq_true rfl) ?_
    refine u_aloadn (k := 0) rfl rfl ?_
    refine a_getr (k := 1) rfl fRX10_26 rfl rfl rfl ?_
    refine u_iloadn (k := 2) rfl rfl ?_
    refine r_virt1 (M' := mX9_ropeOf) (k := 3) rfl lRX10_141 oX9_ropeOf vX9_ropeOf ⟨Nat.le_of_ble_eq_true rfl, Nat.le_of_ble_eq_true rfl⟩ rfl rfl (Nat.le_of_ble_eq_true rfl) (x_ropeNo 1 k h (hC.no hk)) ?_
    refine a_astorenN (k := 4) (lv' := [(3, _), (0, _), (1, _), (2, _)]) rfl (Nat.le_of_ble_eq_true rfl) rfl ?_
    refine u_aloadnN (k := 5) rfl rfl ?_
    refine a_nonnullN (k := 6) rfl ?_
    refine a_ldc (k := 7) rfl nRX10_145 ⟨by decide, by decide⟩ ?_
    refine a_goto (k := 8) rfl ?_
    refine a_ireturn (k := 12) rfl rfl ?_
    exact ⟨rfl, hC, FC.rf⟩
  · have h5 : q < 5 := by have := hW.now.1; omega
    have hR := hC.RP hW hk
    rw [show o_pass σ (q : Int) i = _ from on_yes hk]
    refine Sp.of rfl kX10_pass (Nat.le_of_ble_eq_true rfl) ?_
    refine u_aloadn (k := 0) rfl rfl ?_
    refine a_getr (k := 1) rfl fRX10_26 rfl rfl rfl ?_
    refine u_iloadn (k := 2) rfl rfl ?_
    refine r_virt1 (M' := mX9_ropeOf) (k := 3) rfl lRX10_141 oX9_ropeOf vX9_ropeOf ⟨Nat.le_of_ble_eq_true rfl, Nat.le_of_ble_eq_true rfl⟩ rfl rfl (Nat.le_of_ble_eq_true rfl) (x_ropeOf 1 q h (hC.yes hk) h5) ?_
    refine a_astoren (k := 4) (lv' := [(3, _), (0, _), (1, _), (2, _)]) rfl (Nat.le_of_ble_eq_true rfl) rfl ?_
    refine u_aloadn (k := 5) rfl rfl ?_
    refine a_nonnullR (k := 6) rfl ?_
    refine u_aloadn (k := 9) rfl rfl ?_
    refine u_iloadn (k := 10) rfl rfl ?_
    refine i_virt1 (M' := mX6_passAt) (k := 11) rfl lRX10_168 oX6_passAt vX6_passAt ⟨Nat.le_of_ble_eq_true rfl, Nat.le_of_ble_eq_true rfl⟩ rfl rfl (Nat.le_of_ble_eq_true rfl) (x_passAt (5 + q) _ i h hR.1 hR.2.1) ?_
    refine a_ireturn (k := 12) rfl rfl ?_
    refine ⟨?_, hC, FC.rf⟩
    dsimp only
    by_cases hi : 0 ≤ i ∧ i < 2 * ((σ.now.2.2 q).1 : Int)
    · rw [if_pos hi, if_pos hi, hR.2.2.2.2.1 i.toNat (by omega)]
    · rw [if_neg hi, if_neg hi]
def r_mls (r : Rp) : List Nat := mls r.2.2 r.1 (2 ^ r.1 - 1) 0 r.2.1
theorem FC_tml {h g : HH} (hF : Fr tml [] h g) : FC h g := FC.rf.fr hF (by simp [tml]) (by simp)
theorem CR.tml {B : Nat} {σ : AS} {h g : HH} (hW : WA B σ) (hC : CR σ h) (hF : Fr tml [] h g) : CR σ g := hC.scr hW hF (by simp [Jvm.Pilot.CPretzelProofLaw_law_r5939_cc273b.tml, rel]) (by simp)
def o_moves (σ : AS) (k i : Int) : Int × AS := σ.on k fun q => (if i = -1 then ((r_mls (σ.now.2.2 q)).length : Int) else if 0 ≤ i ∧ i < ((r_mls (σ.now.2.2 q)).length : Int) then (fn (r_mls (σ.now.2.2 q)) i.toNat : Int) else -1, σ)
theorem c_moves {B : Nat} {σ : AS} {h : HH} (hW : WA B σ) (hC : CR σ h) (k i : Int) : Sp mX10_moves [vr 0 0, vi k, vi i] h (OP (o_moves σ k i) h) := by
  rcases kcase k σ.now.1 with hk | ⟨q, rfl, hk⟩
  · rw [show o_moves σ k i = _ from on_no hk]
    refine Sp.of rfl kX10_moves (Nat.le_of_ble_eq_true rfl) ?_
    refine u_aloadn (k := 0) rfl rfl ?_
    refine a_getr (k := 1) rfl fRX10_26 rfl rfl rfl ?_
    refine u_iloadn (k := 2) rfl rfl ?_
    refine r_virt1 (M' := mX9_ropeOf) (k := 3) rfl lRX10_141 oX9_ropeOf vX9_ropeOf ⟨Nat.le_of_ble_eq_true rfl, Nat.le_of_ble_eq_true rfl⟩ rfl rfl (Nat.le_of_ble_eq_true rfl) (x_ropeNo 1 k h (hC.no hk)) ?_
    refine a_astorenN (k := 4) (lv' := [(3, _), (0, _), (1, _), (2, _)]) rfl (Nat.le_of_ble_eq_true rfl) rfl ?_
    refine u_aloadnN (k := 5) rfl rfl ?_
    refine a_nonnullN (k := 6) rfl ?_
    refine a_ldc (k := 7) rfl nRX10_145 ⟨by decide, by decide⟩ ?_
    refine a_ireturn (k := 8) rfl rfl ?_
    exact ⟨rfl, hC, FC.rf⟩
  · have h5 : q < 5 := by have := hW.now.1; omega
    have hR := hC.RP hW hk
    rw [show o_moves σ (q : Int) i = _ from on_yes hk]
    refine Sp.of rfl kX10_moves (Nat.le_of_ble_eq_true rfl) ?_
    refine u_aloadn (k := 0) rfl rfl ?_
    refine a_getr (k := 1) rfl fRX10_26 rfl rfl rfl ?_
    refine u_iloadn (k := 2) rfl rfl ?_
    refine r_virt1 (M' := mX9_ropeOf) (k := 3) rfl lRX10_141 oX9_ropeOf vX9_ropeOf ⟨Nat.le_of_ble_eq_true rfl, Nat.le_of_ble_eq_true rfl⟩ rfl rfl (Nat.le_of_ble_eq_true rfl) (x_ropeOf 1 q h (hC.yes hk) h5) ?_
    refine a_astoren (k := 4) (lv' := [(3, _), (0, _), (1, _), (2, _)]) rfl (Nat.le_of_ble_eq_true rfl) rfl ?_
    refine u_aloadn (k := 5) rfl rfl ?_
    refine a_nonnullR (k := 6) rfl ?_
    refine u_aloadn (k := 9) rfl rfl ?_
    refine a_getr (k := 10) rfl fRX10_55 rfl rfl rfl ?_
    refine u_aloadn (k := 11) rfl rfl ?_
    refine uv_virt1 (M' := mX3_lookNow) (k := 12) rfl lRX10_172 oX3_lookNow vX3_lookNow ⟨Nat.le_of_ble_eq_true rfl, Nat.le_of_ble_eq_true rfl⟩ rfl rfl (Nat.le_of_ble_eq_true rfl) (x_lookNow (5 + q) _ _ _ h hR) (by intro r g hp; exact hp.1) (fun g hg => ?_)
    obtain ⟨-, hL, hF⟩ := hg
    refine u_iloadn (k := 13) rfl rfl ?_
    refine a_iconst (k := 14) rfl ?_
    refine a_icmp_ne (k := 15) rfl (fun c_26 => ?_) (fun c_26 => ?_)
    · refine u_aloadn (k := 20) rfl rfl ?_
      refine a_getr (k := 21) rfl fRX10_55 rfl rfl rfl ?_
      refine u_iloadn (k := 22) rfl rfl ?_
      refine i_virt1 (M' := mX3_moveAt) (k := 23) rfl lRX10_177 oX3_moveAt vX3_moveAt ⟨Nat.le_of_ble_eq_true rfl, Nat.le_of_ble_eq_true rfl⟩ rfl rfl (Nat.le_of_ble_eq_true rfl) (x_moveAt _ i g hL.1 (mls_len _ _ _ _ _)) ?_
      refine a_ireturn (k := 24) rfl rfl ?_
      first
        | (refine ⟨?_, hC.tml hW hF, FC_tml hF⟩; dsimp only; rw [if_pos c_26]; rfl)
        | (refine ⟨?_, hC.tml hW hF, FC_tml hF⟩; dsimp only; rw [if_neg c_26]; rfl)
    · refine u_aloadn (k := 16) rfl rfl ?_
      refine a_getr (k := 17) rfl fRX10_55 rfl rfl rfl ?_
      refine a_geti (k := 18) rfl fRX10_176 rfl rfl ?_
      rw [hL.1.1]
      refine a_goto (k := 19) rfl ?_
      refine a_ireturn (k := 24) rfl rfl ?_
      first
        | (refine ⟨?_, hC.tml hW hF, FC_tml hF⟩; dsimp only; rw [if_pos c_26]; rfl)
        | (refine ⟨?_, hC.tml hW hF, FC_tml hF⟩; dsimp only; rw [if_neg c_26]; rfl)
def o_within (σ : AS) (k d : Int) : Int × AS := σ.on k fun q => if 0 ≤ d ∧ d < ((σ.now.2.2 q).1 : Int) then ((lys (σ.now.2.2 q).2.2 d.toNat (2 * (σ.now.2.2 q).1) : Int), σ) else (UNK, σ)
theorem c_within {B : Nat} {σ : AS} {h : HH} (hW : WA B σ) (hC : CR σ h) (k d : Int) : Sp mX10_within [vr 0 0, vi k, vi d] h (OP (o_within σ k d) h) := by
  rcases kcase k σ.now.1 with hk | ⟨q, rfl, hk⟩
  · rw [show o_within σ k d = _ from on_no hk]
    refine Sp.of rfl kX10_within (Nat.le_of_ble_eq_true rfl) ?_
    refine u_aloadn (k := 0) rfl rfl ?_
    refine a_getr (k := 1) rfl fRX10_26 rfl rfl rfl ?_
    refine u_iloadn (k := 2) rfl rfl ?_
    refine r_virt1 (M' := mX9_ropeOf) (k := 3) rfl lRX10_141 oX9_ropeOf vX9_ropeOf ⟨Nat.le_of_ble_eq_true rfl, Nat.le_of_ble_eq_true rfl⟩ rfl rfl (Nat.le_of_ble_eq_true rfl) (x_ropeNo 1 k h (hC.no hk)) ?_
    refine a_astorenN (k := 4) (lv' := [(3, _), (0, _), (1, _), (2, _)]) rfl (Nat.le_of_ble_eq_true rfl) rfl ?_
    refine u_aloadnN (k := 5) rfl rfl ?_
    refine a_nullN (k := 6) rfl ?_
    refine a_ldc (k := 11) rfl nRX10_145 ⟨by decide, by decide⟩ ?_
    refine a_goto (k := 12) rfl ?_
    refine a_ireturn (k := 16) rfl rfl ?_
    exact ⟨rfl, hC, FC.rf⟩
  · have h5 : q < 5 := by have := hW.now.1; omega
    have hR := hC.RP hW hk
    rw [show o_within σ (q : Int) d = _ from on_yes hk]
    by_cases hd : 0 ≤ d ∧ d < ((σ.now.2.2 q).1 : Int)
    · obtain ⟨e, rfl⟩ : ∃ e : Nat, d = (e : Int) := ⟨d.toNat, by omega⟩
      rw [if_pos hd, Int.toNat_natCast]
      refine Sp.of rfl kX10_within (Nat.le_of_ble_eq_true rfl) ?_
      refine u_aloadn (k := 0) rfl rfl ?_
      refine a_getr (k := 1) rfl fRX10_26 rfl rfl rfl ?_
      refine u_iloadn (k := 2) rfl rfl ?_
      refine r_virt1 (M' := mX9_ropeOf) (k := 3) rfl lRX10_141 oX9_ropeOf vX9_ropeOf ⟨Nat.le_of_ble_eq_true rfl, Nat.le_of_ble_eq_true rfl⟩ rfl rfl (Nat.le_of_ble_eq_true rfl) (x_ropeOf 1 q h (hC.yes hk) h5) ?_
      refine a_astoren (k := 4) (lv' := [(3, _), (0, _), (1, _), (2, _)]) rfl (Nat.le_of_ble_eq_true rfl) rfl ?_
      refine u_aloadn (k := 5) rfl rfl ?_
      refine a_nullR (k := 6) rfl ?_
      refine u_aloadn (k := 7) rfl rfl ?_
      refine u_iloadn (k := 8) rfl rfl ?_
      refine i_virt1 (M' := mX6_has) (k := 9) rfl lRX10_180 oX6_has vX6_has ⟨Nat.le_of_ble_eq_true rfl, Nat.le_of_ble_eq_true rfl⟩ rfl rfl (Nat.le_of_ble_eq_true rfl) (x_has (5 + q) _ e h hR.1) ?_
      refine a_if_ne (k := 10) rfl (fun c_18 => ?_) (fun c_18 => ?_)
      · refine u_aloadn (k := 13) rfl rfl ?_
        refine u_iloadn (k := 14) rfl rfl ?_
        refine i_virt1 (M' := mX6_lyingIn) (k := 15) rfl lRX10_255 oX6_lyingIn vX6_lyingIn ⟨Nat.le_of_ble_eq_true rfl, Nat.le_of_ble_eq_true rfl⟩ rfl rfl (Nat.le_of_ble_eq_true rfl) (x_lyingIn (5 + q) _ e _ h hR.1 hR.2.1 hR.2.2.2.2.1 hR.2.2.2.2.2) ?_
        refine a_ireturn (k := 16) rfl rfl ?_
        exact ⟨rfl, hC, FC.rf⟩
      · rw [if_pos hd] at c_18; omega
    · rw [if_neg hd]
      refine Sp.of rfl kX10_within (Nat.le_of_ble_eq_true rfl) ?_
      refine u_aloadn (k := 0) rfl rfl ?_
      refine a_getr (k := 1) rfl fRX10_26 rfl rfl rfl ?_
      refine u_iloadn (k := 2) rfl rfl ?_
      refine r_virt1 (M' := mX9_ropeOf) (k := 3) rfl lRX10_141 oX9_ropeOf vX9_ropeOf ⟨Nat.le_of_ble_eq_true rfl, Nat.le_of_ble_eq_true rfl⟩ rfl rfl (Nat.le_of_ble_eq_true rfl) (x_ropeOf 1 q h (hC.yes hk) h5) ?_
      refine a_astoren (k := 4) (lv' := [(3, _), (0, _), (1, _), (2, _)]) rfl (Nat.le_of_ble_eq_true rfl) rfl ?_
      refine u_aloadn (k := 5) rfl rfl ?_
      refine a_nullR (k := 6) rfl ?_
      refine u_aloadn (k := 7) rfl rfl ?_
      refine u_iloadn (k := 8) rfl rfl ?_
      refine i_virt1 (M' := mX6_has) (k := 9) rfl lRX10_180 oX6_has vX6_has ⟨Nat.le_of_ble_eq_true rfl, Nat.le_of_ble_eq_true rfl⟩ rfl rfl (Nat.le_of_ble_eq_true rfl) (x_has (5 + q) _ d h hR.1) ?_
      refine a_if_ne (k := 10) rfl (fun c_18 => ?_) (fun c_18 => ?_)
      · rw [if_neg hd] at c_18; omega
      · refine a_ldc (k := 11) rfl nRX10_145 ⟨by decide, by decide⟩ ?_
        refine a_goto (k := 12) rfl ?_
        refine a_ireturn (k := 16) rfl rfl ?_
        exact ⟨rfl, hC, FC.rf⟩
def o_words (σ : AS) (k d : Int) : Int × AS := σ.on k fun q => (if 0 ≤ d ∧ d < 2 * ((σ.now.2.2 q).1 : Int) then (lwd (σ.now.2.2 q).2.2 (2 * (σ.now.2.2 q).1) (2 * (σ.now.2.2 q).1) d.toNat : Int) else -1, σ)
theorem c_words {B : Nat} {σ : AS} {h : HH} (hW : WA B σ) (hC : CR σ h) (k d : Int) : Sp mX10_words [vr 0 0, vi k, vi d] h (OP (o_words σ k d) h) := by
  rcases kcase k σ.now.1 with hk | ⟨q, rfl, hk⟩
  · rw [show o_words σ k d = _ from on_no hk]
    refine Sp.of rfl kX10_words (Nat.le_of_ble_eq_true rfl) ?_
    refine u_aloadn (k := 0) rfl rfl ?_
    refine a_getr (k := 1) rfl fRX10_26 rfl rfl rfl ?_
    refine u_iloadn (k := 2) rfl rfl ?_
    refine r_virt1 (M' := mX9_ropeOf) (k := 3) rfl lRX10_141 oX9_ropeOf vX9_ropeOf ⟨Nat.le_of_ble_eq_true rfl, Nat.le_of_ble_eq_true rfl⟩ rfl rfl (Nat.le_of_ble_eq_true rfl) (x_ropeNo 1 k h (hC.no hk)) ?_
    refine a_astorenN (k := 4) (lv' := [(3, _), (0, _), (1, _), (2, _)]) rfl (Nat.le_of_ble_eq_true rfl) rfl ?_
    refine u_aloadnN (k := 5) rfl rfl ?_
    refine a_nonnullN (k := 6) rfl ?_
    refine a_ldc (k := 7) rfl nRX10_145 ⟨by decide, by decide⟩ ?_
    refine a_goto (k := 8) rfl ?_
    refine a_ireturn (k := 14) rfl rfl ?_
    exact ⟨rfl, hC, FC.rf⟩
  · have h5 : q < 5 := by have := hW.now.1; omega
    have hR := hC.RP hW hk
    rw [show o_words σ (q : Int) d = _ from on_yes hk]
    refine Sp.of rfl kX10_words (Nat.le_of_ble_eq_true rfl) ?_
    refine u_aloadn (k := 0) rfl rfl ?_
    refine a_getr (k := 1) rfl fRX10_26 rfl rfl rfl ?_
    refine u_iloadn (k := 2) rfl rfl ?_
    refine r_virt1 (M' := mX9_ropeOf) (k := 3) rfl lRX10_141 oX9_ropeOf vX9_ropeOf ⟨Nat.le_of_ble_eq_true rfl, Nat.le_of_ble_eq_true rfl⟩ rfl rfl (Nat.le_of_ble_eq_true rfl) (x_ropeOf 1 q h (hC.yes hk) h5) ?_
    refine a_astoren (k := 4) (lv' := [(3, _), (0, _), (1, _), (2, _)]) rfl (Nat.le_of_ble_eq_true rfl) rfl ?_
    refine u_aloadn (k := 5) rfl rfl ?_
    refine a_nonnullR (k := 6) rfl ?_
    refine u_aloadn (k := 9) rfl rfl ?_
    refine a_getr (k := 10) rfl fRX10_76 rfl rfl rfl ?_
    refine u_aloadn (k := 11) rfl rfl ?_
    refine u_iloadn (k := 12) rfl rfl ?_
    refine ui_virt2 (M' := mX7_leastWordAt) (k := 13) rfl lRX10_265 oX7_leastWordAt vX7_leastWordAt ⟨Nat.le_of_ble_eq_true rfl, Nat.le_of_ble_eq_true rfl⟩ rfl rfl (Nat.le_of_ble_eq_true rfl) (x_leastWord (5 + q) _ _ d _ h hR) (by intro r g hp; exact ⟨_, hp.1⟩) (fun r g hg => ?_)
    obtain ⟨hr, hF⟩ := hg; cases hr
    refine a_ireturn (k := 14) rfl rfl ?_
    exact ⟨rfl, hC.scr hW hF (by simp [rel]) (by simp), FC.rf.fr hF (by simp) (by simp)⟩
def AS.two (σ : AS) (k q : Int) (F : Nat → Nat → Int × AS) : Int × AS := if (0 ≤ k ∧ k < σ.now.1) ∧ (0 ≤ q ∧ q < σ.now.1) ∧ k ≠ q then F k.toNat q.toNat else (UNK, σ)
theorem two_yes {σ : AS} {k q : Nat} {F : Nat → Nat → Int × AS} (h1 : k < σ.now.1) (h2 : q < σ.now.1) (h3 : k ≠ q) : σ.two (k : Int) (q : Int) F = F k q := by
  unfold AS.two
  rw [if_pos (by omega), Int.toNat_natCast, Int.toNat_natCast]
def o_same (σ : AS) (k q : Int) : Int × AS := σ.two k q fun a b => (if (σ.now.2.2 a).1 = (σ.now.2.2 b).1 then (wys (σ.now.2.2 a).2.2 (σ.now.2.2 b).2.2 (2 * (σ.now.2.2 a).1) 4 : Int) else 0, σ)
theorem c_same {B : Nat} {σ : AS} {h : HH} (hW : WA B σ) (hC : CR σ h) (k q : Int) : Sp mX10_same [vr 0 0, vi k, vi q] h (OP (o_same σ k q) h) := by
  rcases kcase k σ.now.1 with hk | ⟨a, rfl, hk⟩
  · rw [show o_same σ k q = (UNK, σ) from if_neg (by omega)]
    rcases kcase q σ.now.1 with hq | ⟨b, rfl, hq⟩
    · show Sp mX10_same _ h _
      refine Sp.of rfl kX10_same (Nat.le_of_ble_eq_true rfl) ?_
      refine u_aloadn (k := 0) rfl rfl ?_
      refine a_getr (k := 1) rfl fRX10_26 rfl rfl rfl ?_
      refine u_iloadn (k := 2) rfl rfl ?_
      refine r_virt1 (M' := mX9_ropeOf) (k := 3) rfl lRX10_141 oX9_ropeOf vX9_ropeOf ⟨Nat.le_of_ble_eq_true rfl, Nat.le_of_ble_eq_true rfl⟩ rfl rfl (Nat.le_of_ble_eq_true rfl) (x_ropeNo 1 k h (hC.no hk)) ?_
      refine a_astorenN (k := 4) (lv' := [(3, _), (0, _), (1, _), (2, _)]) rfl (Nat.le_of_ble_eq_true rfl) rfl ?_
      refine u_aloadn (k := 5) rfl rfl ?_
      refine a_getr (k := 6) rfl fRX10_26 rfl rfl rfl ?_
      refine u_iloadn (k := 7) rfl rfl ?_
      refine r_virt1 (M' := mX9_ropeOf) (k := 8) rfl lRX10_141 oX9_ropeOf vX9_ropeOf ⟨Nat.le_of_ble_eq_true rfl, Nat.le_of_ble_eq_true rfl⟩ rfl rfl (Nat.le_of_ble_eq_true rfl) (x_ropeNo 1 q h (hC.no hq)) ?_
      refine a_astoreNl (k := 9) (lv' := [(4, _), (3, _), (0, _), (1, _), (2, _)]) rfl (Nat.le_of_ble_eq_true rfl) rfl ?_
      refine u_aloadnN (k := 10) rfl rfl ?_
      refine a_nullN (k := 11) rfl ?_
      refine a_ldc (k := 17) rfl nRX10_145 ⟨by decide, by decide⟩ ?_
      refine a_ireturn (k := 18) rfl rfl ?_
      exact ⟨rfl, hC, FC.rf⟩
    · show Sp mX10_same _ h _
      refine Sp.of rfl kX10_same (Nat.le_of_ble_eq_true rfl) ?_
      refine u_aloadn (k := 0) rfl rfl ?_
      refine a_getr (k := 1) rfl fRX10_26 rfl rfl rfl ?_
      refine u_iloadn (k := 2) rfl rfl ?_
      refine r_virt1 (M' := mX9_ropeOf) (k := 3) rfl lRX10_141 oX9_ropeOf vX9_ropeOf ⟨Nat.le_of_ble_eq_true rfl, Nat.le_of_ble_eq_true rfl⟩ rfl rfl (Nat.le_of_ble_eq_true rfl) (x_ropeNo 1 k h (hC.no hk)) ?_
      refine a_astorenN (k := 4) (lv' := [(3, _), (0, _), (1, _), (2, _)]) rfl (Nat.le_of_ble_eq_true rfl) rfl ?_
      refine u_aloadn (k := 5) rfl rfl ?_
      refine a_getr (k := 6) rfl fRX10_26 rfl rfl rfl ?_
      refine u_iloadn (k := 7) rfl rfl ?_
      refine r_virt1 (M' := mX9_ropeOf) (k := 8) rfl lRX10_141 oX9_ropeOf vX9_ropeOf ⟨Nat.le_of_ble_eq_true rfl, Nat.le_of_ble_eq_true rfl⟩ rfl rfl (Nat.le_of_ble_eq_true rfl) (x_ropeOf 1 b h (hC.yes hq) (by have := hW.now.1; omega)) ?_
      refine a_astore (k := 9) (lv' := [(4, _), (3, _), (0, _), (1, _), (2, _)]) rfl (Nat.le_of_ble_eq_true rfl) rfl ?_
      refine u_aloadnN (k := 10) rfl rfl ?_
      refine a_nullN (k := 11) rfl ?_
      refine a_ldc (k := 17) rfl nRX10_145 ⟨by decide, by decide⟩ ?_
      refine a_ireturn (k := 18) rfl rfl ?_
      exact ⟨rfl, hC, FC.rf⟩
  · rcases kcase q σ.now.1 with hq | ⟨b, rfl, hq⟩
    · rw [show o_same σ (a : Int) q = (UNK, σ) from if_neg (by omega)]
      refine Sp.of rfl kX10_same (Nat.le_of_ble_eq_true rfl) ?_
      refine u_aloadn (k := 0) rfl rfl ?_
      refine a_getr (k := 1) rfl fRX10_26 rfl rfl rfl ?_
      refine u_iloadn (k := 2) rfl rfl ?_
      refine r_virt1 (M' := mX9_ropeOf) (k := 3) rfl lRX10_141 oX9_ropeOf vX9_ropeOf ⟨Nat.le_of_ble_eq_true rfl, Nat.le_of_ble_eq_true rfl⟩ rfl rfl (Nat.le_of_ble_eq_true rfl) (x_ropeOf 1 a h (hC.yes hk) (by have := hW.now.1; omega)) ?_
      refine a_astoren (k := 4) (lv' := [(3, _), (0, _), (1, _), (2, _)]) rfl (Nat.le_of_ble_eq_true rfl) rfl ?_
      refine u_aloadn (k := 5) rfl rfl ?_
      refine a_getr (k := 6) rfl fRX10_26 rfl rfl rfl ?_
      refine u_iloadn (k := 7) rfl rfl ?_
      refine r_virt1 (M' := mX9_ropeOf) (k := 8) rfl lRX10_141 oX9_ropeOf vX9_ropeOf ⟨Nat.le_of_ble_eq_true rfl, Nat.le_of_ble_eq_true rfl⟩ rfl rfl (Nat.le_of_ble_eq_true rfl) (x_ropeNo 1 q h (hC.no hq)) ?_
      refine a_astoreNl (k := 9) (lv' := [(4, _), (3, _), (0, _), (1, _), (2, _)]) rfl (Nat.le_of_ble_eq_true rfl) rfl ?_
      refine u_aloadn (k := 10) rfl rfl ?_
      refine a_nullR (k := 11) rfl ?_
      refine u_aloadN (k := 12) rfl rfl ?_
      refine a_nullN (k := 13) rfl ?_
      refine a_ldc (k := 17) rfl nRX10_145 ⟨by decide, by decide⟩ ?_
      refine a_ireturn (k := 18) rfl rfl ?_
      exact ⟨rfl, hC, FC.rf⟩
    · by_cases hab : a = b
      · rw [show o_same σ (a : Int) (b : Int) = (UNK, σ) from if_neg (by omega)]
        refine Sp.of rfl kX10_same (Nat.le_of_ble_eq_true rfl) ?_
        refine u_aloadn (k := 0) rfl rfl ?_
        refine a_getr (k := 1) rfl fRX10_26 rfl rfl rfl ?_
        refine u_iloadn (k := 2) rfl rfl ?_
        refine r_virt1 (M' := mX9_ropeOf) (k := 3) rfl lRX10_141 oX9_ropeOf vX9_ropeOf ⟨Nat.le_of_ble_eq_true rfl, Nat.le_of_ble_eq_true rfl⟩ rfl rfl (Nat.le_of_ble_eq_true rfl) (x_ropeOf 1 a h (hC.yes hk) (by have := hW.now.1; omega)) ?_
        refine a_astoren (k := 4) (lv' := [(3, _), (0, _), (1, _), (2, _)]) rfl (Nat.le_of_ble_eq_true rfl) rfl ?_
        refine u_aloadn (k := 5) rfl rfl ?_
        refine a_getr (k := 6) rfl fRX10_26 rfl rfl rfl ?_
        refine u_iloadn (k := 7) rfl rfl ?_
        refine r_virt1 (M' := mX9_ropeOf) (k := 8) rfl lRX10_141 oX9_ropeOf vX9_ropeOf ⟨Nat.le_of_ble_eq_true rfl, Nat.le_of_ble_eq_true rfl⟩ rfl rfl (Nat.le_of_ble_eq_true rfl) (x_ropeOf 1 b h (hC.yes hq) (by have := hW.now.1; omega)) ?_
        refine a_astore (k := 9) (lv' := [(4, _), (3, _), (0, _), (1, _), (2, _)]) rfl (Nat.le_of_ble_eq_true rfl) rfl ?_
        refine u_aloadn (k := 10) rfl rfl ?_
        refine a_nullR (k := 11) rfl ?_
        refine u_aload (k := 12) rfl rfl ?_
        refine a_nullR (k := 13) rfl ?_
        refine u_iloadn (k := 14) rfl rfl ?_
        refine u_iloadn (k := 15) rfl rfl ?_
        refine a_icmp_ne (k := 16) rfl (fun c_30 => ?_) (fun c_30 => ?_)
        · omega
        · refine a_ldc (k := 17) rfl nRX10_145 ⟨by decide, by decide⟩ ?_
          refine a_ireturn (k := 18) rfl rfl ?_
          exact ⟨rfl, hC, FC.rf⟩
      · have hR := hC.RP hW hk
        have hR2 := hC.RP hW hq
        rw [show o_same σ (a : Int) (b : Int) = _ from two_yes hk hq hab]
        by_cases hc : (σ.now.2.2 a).1 = (σ.now.2.2 b).1
        · rw [if_pos hc]
          refine Sp.of rfl kX10_same (Nat.le_of_ble_eq_true rfl) ?_
          refine u_aloadn (k := 0) rfl rfl ?_
          refine a_getr (k := 1) rfl fRX10_26 rfl rfl rfl ?_
          refine u_iloadn (k := 2) rfl rfl ?_
          refine r_virt1 (M' := mX9_ropeOf) (k := 3) rfl lRX10_141 oX9_ropeOf vX9_ropeOf ⟨Nat.le_of_ble_eq_true rfl, Nat.le_of_ble_eq_true rfl⟩ rfl rfl (Nat.le_of_ble_eq_true rfl) (x_ropeOf 1 a h (hC.yes hk) (by have := hW.now.1; omega)) ?_
          refine a_astoren (k := 4) (lv' := [(3, _), (0, _), (1, _), (2, _)]) rfl (Nat.le_of_ble_eq_true rfl) rfl ?_
          refine u_aloadn (k := 5) rfl rfl ?_
          refine a_getr (k := 6) rfl fRX10_26 rfl rfl rfl ?_
          refine u_iloadn (k := 7) rfl rfl ?_
          refine r_virt1 (M' := mX9_ropeOf) (k := 8) rfl lRX10_141 oX9_ropeOf vX9_ropeOf ⟨Nat.le_of_ble_eq_true rfl, Nat.le_of_ble_eq_true rfl⟩ rfl rfl (Nat.le_of_ble_eq_true rfl) (x_ropeOf 1 b h (hC.yes hq) (by have := hW.now.1; omega)) ?_
          refine a_astore (k := 9) (lv' := [(4, _), (3, _), (0, _), (1, _), (2, _)]) rfl (Nat.le_of_ble_eq_true rfl) rfl ?_
          refine u_aloadn (k := 10) rfl rfl ?_
          refine a_nullR (k := 11) rfl ?_
          refine u_aload (k := 12) rfl rfl ?_
          refine a_nullR (k := 13) rfl ?_
          refine u_iloadn (k := 14) rfl rfl ?_
          refine u_iloadn (k := 15) rfl rfl ?_
          refine a_icmp_ne (k := 16) rfl (fun c_30 => ?_) (fun c_30 => ?_)
          · refine u_aloadn (k := 19) rfl rfl ?_
            refine a_getr (k := 20) rfl fRX10_76 rfl rfl rfl ?_
            refine u_aloadn (k := 21) rfl rfl ?_
            refine u_aload (k := 22) rfl rfl ?_
            refine ui_virt2 (M' := mX7_waysInto) (k := 23) rfl lRX10_258 oX7_waysInto vX7_waysInto ⟨Nat.le_of_ble_eq_true rfl, Nat.le_of_ble_eq_true rfl⟩ rfl rfl (Nat.le_of_ble_eq_true rfl) (x_waysInto (5 + a) _ _ (5 + b) _ (σ.now.2.2 b).2.2 h hR (by rw [hR2.1, hc]) (fun i hi => hR2.2.2.2.2.1 i (by omega))) (by intro r g hp; exact ⟨_, hp.1⟩) (fun r g hg => ?_)
            obtain ⟨hr, hF⟩ := hg; cases hr
            refine a_ireturn (k := 24) rfl rfl ?_
            exact ⟨rfl, hC.scr hW hF (by simp [trn, rel]) (by simp), FC.rf.fr hF (by simp [trn]) (by simp)⟩
          · omega
        · rw [if_neg hc]
          refine Sp.of rfl kX10_same (Nat.le_of_ble_eq_true rfl) ?_
          refine u_aloadn (k := 0) rfl rfl ?_
          refine a_getr (k := 1) rfl fRX10_26 rfl rfl rfl ?_
          refine u_iloadn (k := 2) rfl rfl ?_
          refine r_virt1 (M' := mX9_ropeOf) (k := 3) rfl lRX10_141 oX9_ropeOf vX9_ropeOf ⟨Nat.le_of_ble_eq_true rfl, Nat.le_of_ble_eq_true rfl⟩ rfl rfl (Nat.le_of_ble_eq_true rfl) (x_ropeOf 1 a h (hC.yes hk) (by have := hW.now.1; omega)) ?_
          refine a_astoren (k := 4) (lv' := [(3, _), (0, _), (1, _), (2, _)]) rfl (Nat.le_of_ble_eq_true rfl) rfl ?_
          refine u_aloadn (k := 5) rfl rfl ?_
          refine a_getr (k := 6) rfl fRX10_26 rfl rfl rfl ?_
          refine u_iloadn (k := 7) rfl rfl ?_
          refine r_virt1 (M' := mX9_ropeOf) (k := 8) rfl lRX10_141 oX9_ropeOf vX9_ropeOf ⟨Nat.le_of_ble_eq_true rfl, Nat.le_of_ble_eq_true rfl⟩ rfl rfl (Nat.le_of_ble_eq_true rfl) (x_ropeOf 1 b h (hC.yes hq) (by have := hW.now.1; omega)) ?_
          refine a_astore (k := 9) (lv' := [(4, _), (3, _), (0, _), (1, _), (2, _)]) rfl (Nat.le_of_ble_eq_true rfl) rfl ?_
          refine u_aloadn (k := 10) rfl rfl ?_
          refine a_nullR (k := 11) rfl ?_
          refine u_aload (k := 12) rfl rfl ?_
          refine a_nullR (k := 13) rfl ?_
          refine u_iloadn (k := 14) rfl rfl ?_
          refine u_iloadn (k := 15) rfl rfl ?_
          refine a_icmp_ne (k := 16) rfl (fun c_30 => ?_) (fun c_30 => ?_)
          · refine u_aloadn (k := 19) rfl rfl ?_
            refine a_getr (k := 20) rfl fRX10_76 rfl rfl rfl ?_
            refine u_aloadn (k := 21) rfl rfl ?_
            refine u_aload (k := 22) rfl rfl ?_
            refine i_virt2 (M' := mX7_waysInto) (k := 23) rfl lRX10_258 oX7_waysInto vX7_waysInto ⟨Nat.le_of_ble_eq_true rfl, Nat.le_of_ble_eq_true rfl⟩ rfl rfl (Nat.le_of_ble_eq_true rfl) (x_waysNo (5 + a) (5 + b) h (by rw [hR.1, hR2.1]; omega)) ?_
            refine a_ireturn (k := 24) rfl rfl ?_
            exact ⟨rfl, hC, FC.rf⟩
          · omega
