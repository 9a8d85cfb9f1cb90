theorem n_turn {B : Nat} {σ : AS} {h : HH} (hW : WA B σ) (hM : MR σ h) (k d : Int) : Sp mX11_turn [vr 40 0, vi k, vi d] h (MP (o_turn σ k d) h) := by
  rcases kcase k σ.now.1 with hk | ⟨q, rfl, hk⟩
  · rw [show o_turn σ k d = _ from on_no hk]
    refine Sp.of rfl kX11_turn (Nat.le_of_ble_eq_true rfl) ?_
    refine u_aloadn (k := 0) rfl rfl ?_
    refine u_iloadn (k := 1) rfl rfl ?_
    refine i_virt1 (M' := mX11_isOne) (k := 2) rfl lRX11_206 oX11_isOne vX11_isOne ⟨Nat.le_of_ble_eq_true rfl, Nat.le_of_ble_eq_true rfl⟩ rfl rfl (Nat.le_of_ble_eq_true rfl) (hM.one hW k) ?_
    rw [one_no hk]
    refine a_if_eq (k := 3) rfl (fun c_5 => ?_) (fun c_5 => ?_)
    · refine a_ldc (k := 9) rfl nRX11_210 ⟨by decide, by decide⟩ ?_
      refine a_ireturn (k := 10) rfl rfl ?_
      exact ⟨rfl, hM, FMo.rf⟩
    · exact absurd rfl c_5
  · have h5 := hW.now.1
    have hWr := hW.now.2.2 q hk
    have h8 := hWr.1
    have hs := (p8 h8).2
    have hs2 := hWr.2.1
    rw [show o_turn σ (q : Int) d = _ from on_yes hk]
    by_cases hd : 0 ≤ d ∧ d < ((σ.now.2.2 q).1 : Int)
    · obtain ⟨e, rfl⟩ : ∃ e : Nat, d = (e : Int) := ⟨d.toNat, by omega⟩
      rw [if_pos hd, Int.toNat_natCast]
      have hWs : WR (r_sw (σ.now.2.2 q) (2 ^ e)) := WR_sw hWr
      have hp31 : 2 ^ e < 2 ^ 31 := Nat.pow_lt_pow_right (by omega) (by omega)
      rw [ways_eq hWs (Or.inl rfl)]
      refine Sp.of rfl kX11_turn (Nat.le_of_ble_eq_true rfl) ?_
      refine u_aloadn (k := 0) rfl rfl ?_
      refine u_iloadn (k := 1) rfl rfl ?_
      refine i_virt1 (M' := mX11_isOne) (k := 2) rfl lRX11_206 oX11_isOne vX11_isOne ⟨Nat.le_of_ble_eq_true rfl, Nat.le_of_ble_eq_true rfl⟩ rfl rfl (Nat.le_of_ble_eq_true rfl) (hM.one hW q) ?_
      rw [one_yes hk]
      refine a_if_eq (k := 3) rfl (fun c_5 => ?_) (fun c_5 => ?_)
      · exact absurd c_5 (by decide)
      · refine u_aloadn (k := 4) rfl rfl ?_
        refine u_iloadn (k := 5) rfl rfl ?_
        refine u_iloadn (k := 6) rfl rfl ?_
        refine i_virt2 (M' := mX11_isCrossing) (k := 7) rfl lRX11_264 oX11_isCrossing vX11_isCrossing ⟨Nat.le_of_ble_eq_true rfl, Nat.le_of_ble_eq_true rfl⟩ rfl rfl (Nat.le_of_ble_eq_true rfl) (m_isCrossing q e _ h (by omega) h8 (hM.slot hk)) ?_
        rw [decide_eq_true hd]
        refine a_if_ne (k := 8) rfl (fun c_14 => ?_) (fun c_14 => ?_)
        · refine u_aloadn (k := 11) rfl rfl ?_
          refine uv_virt0 (M' := mX11_known) (k := 12) rfl lRX11_280 oX11_known vX11_known ⟨Nat.le_of_ble_eq_true rfl, Nat.le_of_ble_eq_true rfl⟩ rfl rfl (Nat.le_of_ble_eq_true rfl) (m_known hW hM) (by intro r g hp; exact hp.1) (fun g1 hg1 => ?_)
          obtain ⟨-, hM1, hF1⟩ := hg1
          refine u_aloadn (k := 13) rfl rfl ?_
          refine u_iloadn (k := 14) rfl rfl ?_
          refine uv_virt1 (M' := mX11_loads) (k := 15) rfl lRX11_211 oX11_loads vX11_loads ⟨Nat.le_of_ble_eq_true rfl, Nat.le_of_ble_eq_true rfl⟩ rfl rfl (Nat.le_of_ble_eq_true rfl) (m_loads q _ g1 (by omega) h8 (hM1.slot hk)) (by intro r g hp; exact hp.1) (fun g2 hg2 => ?_)
          obtain ⟨-, hR2, hF2⟩ := hg2
          refine u_aloadn (k := 16) rfl rfl ?_
          refine a_iconst (k := 17) rfl ?_
          refine u_iloadn (k := 18) rfl rfl ?_
          refine a_ishl (k := 19) rfl ?_
          rw [shl1 (by omega)]
          refine uv_virt1 (M' := mX11_turns) (k := 20) rfl lRX11_239 oX11_turns vX11_turns ⟨Nat.le_of_ble_eq_true rfl, Nat.le_of_ble_eq_true rfl⟩ rfl rfl (Nat.le_of_ble_eq_true rfl) (m_turns _ _ (2 ^ e) _ g2 (by omega) hp31 hR2 (hWr.2.2.1.b h8)) (by intro r g hp; exact hp.1) (fun g3 hg3 => ?_)
          obtain ⟨-, hR3, hF3⟩ := hg3
          refine u_aloadn (k := 21) rfl rfl ?_
          refine u_iloadn (k := 22) rfl rfl ?_
          refine uv_virt1 (M' := mX11_stores) (k := 23) rfl lRX11_162 oX11_stores vX11_stores ⟨Nat.le_of_ble_eq_true rfl, Nat.le_of_ble_eq_true rfl⟩ rfl rfl (Nat.le_of_ble_eq_true rfl) (m_put (r_sw (σ.now.2.2 q) (2 ^ e)) hW.rem ((hM1.scr hW.rem (Fs_of hF2 (by simp [tms]) (by simp [kms]))).scr hW.rem (Fs_of hF3 (by simp [tms]) (by simp [kms]))) hk (by omega) (by omega) hR3 (hWs.2.2.1.b h8) rfl (rsl_WR hWs) (fun i hi => hWs.2.2.2 i hi)) (by intro r g hp; exact hp.1) (fun g4 hg4 => ?_)
          obtain ⟨-, hM4, hF4, hRM4⟩ := hg4
          refine u_aloadn (k := 24) rfl rfl ?_
          refine u_iloadn (k := 25) rfl rfl ?_
          refine uv_virt1 (M' := mX11_loads) (k := 26) rfl lRX11_211 oX11_loads vX11_loads ⟨Nat.le_of_ble_eq_true rfl, Nat.le_of_ble_eq_true rfl⟩ rfl rfl (Nat.le_of_ble_eq_true rfl) (m_loads q (r_sw (σ.now.2.2 q) (2 ^ e)) g4 (by omega) h8 hRM4) (by intro r g hp; exact hp.1) (fun g5 hg5 => ?_)
          obtain ⟨-, hR5, hF5⟩ := hg5
          refine u_aloadn (k := 27) rfl rfl ?_
          refine a_iconst (k := 28) rfl ?_
          refine ui_virt1 (M' := mX11_colours) (k := 29) rfl lRX11_252 oX11_colours vX11_colours ⟨Nat.le_of_ble_eq_true rfl, Nat.le_of_ble_eq_true rfl⟩ rfl rfl (Nat.le_of_ble_eq_true rfl) (m_colours hWs _ 3 g5 (Or.inl rfl) hR5) (by intro r g hp; exact ⟨_, hp.1⟩) (fun z g6 hg6 => ?_)
          obtain ⟨hz, hF6⟩ := hg6; cases hz
          refine a_ireturn (k := 30) rfl rfl ?_
          have hWx : WA B (σ.rem.setR q (r_sw (σ.now.2.2 q) (2 ^ e))) := hW.rem.setR hWs
          exact ⟨rfl, (hM4.scr hWx (Fs_of hF5 (by simp [tms]) (by simp [kms]))).scr hWx (Fs_of hF6 (by simp [tms, tcz]) (by simp [kms])), ((((FK.mo hF1).tr ((Fr.mo hF2 (by simp) (by simp)).tr (Fr.mo hF3 (by simp) (by simp)))).tr (Fq.mo hF4 (by simp) (by simp))).tr (Fr.mo hF5 (by simp) (by simp))).tr (Fr.mo hF6 (by simp [tcz]) (by simp))⟩
        · exact absurd c_14 (by decide)
    · rw [if_neg hd]
      refine Sp.of rfl kX11_turn (Nat.le_of_ble_eq_true rfl) ?_
      refine u_aloadn (k := 0) rfl rfl ?_
      refine u_iloadn (k := 1) rfl rfl ?_
      refine i_virt1 (M' := mX11_isOne) (k := 2) rfl lRX11_206 oX11_isOne vX11_isOne ⟨Nat.le_of_ble_eq_true rfl, Nat.le_of_ble_eq_true rfl⟩ rfl rfl (Nat.le_of_ble_eq_true rfl) (hM.one hW q) ?_
      rw [one_yes hk]
      refine a_if_eq (k := 3) rfl (fun c_5 => ?_) (fun c_5 => ?_)
      · exact absurd c_5 (by decide)
      · refine u_aloadn (k := 4) rfl rfl ?_
        refine u_iloadn (k := 5) rfl rfl ?_
        refine u_iloadn (k := 6) rfl rfl ?_
        refine i_virt2 (M' := mX11_isCrossing) (k := 7) rfl lRX11_264 oX11_isCrossing vX11_isCrossing ⟨Nat.le_of_ble_eq_true rfl, Nat.le_of_ble_eq_true rfl⟩ rfl rfl (Nat.le_of_ble_eq_true rfl) (m_isCrossing q d _ h (by omega) h8 (hM.slot hk)) ?_
        rw [decide_eq_false hd]
        refine a_if_ne (k := 8) rfl (fun c_14 => ?_) (fun c_14 => ?_)
        · exact absurd rfl c_14
        · refine a_ldc (k := 9) rfl nRX11_210 ⟨by decide, by decide⟩ ?_
          refine a_ireturn (k := 10) rfl rfl ?_
          exact ⟨rfl, hM, FMo.rf⟩
noncomputable def t_pretzel (σ : AS) (k w : Int) : Int × AS := σ.on k fun q => (if w = 0 then ((σ.now.2.2 q).1 : Int) else if w = 1 then ((σ.now.2.2 q).2.1 : Int) else if w = 2 then (r_ways (σ.now.2.2 q) 3 : Int) else if w = 3 then (r_ways (σ.now.2.2 q) 5 : Int) else if w = 4 then (setT (fun d => isu (σ.now.2.2 q).2.2 (σ.now.2.2 q).1 (2 ^ d)) (σ.now.2.2 q).1 : Int) else if w = 5 then oi (fnd (σ.now.2.2 q).2.2 (σ.now.2.2 q).1 (2 ^ (σ.now.2.2 q).1)) else if w = 6 then (r_odd (σ.now.2.2 q) : Int) else OUT, σ)
theorem m_pretzel {B : Nat} {σ : AS} {h : HH} (hW : WA B σ) (hM : MR σ h) (k w : Int) : Sp mX11_pretzel [vr 40 0, vi k, vi w] h (MP (t_pretzel σ k w) h) := by
  rcases kcase k σ.now.1 with hk | ⟨q, rfl, hk⟩
  · rw [show t_pretzel σ k w = _ from on_no hk]
    refine Sp.of rfl kX11_pretzel (Nat.le_of_ble_eq_true rfl) ?_
    refine u_aloadn (k := 0) rfl rfl ?_
    refine u_iloadn (k := 1) rfl rfl ?_
    refine i_virt1 (M' := mX11_isOne) (k := 2) rfl lRX11_206 oX11_isOne vX11_isOne ⟨Nat.le_of_ble_eq_true rfl, Nat.le_of_ble_eq_true rfl⟩ rfl rfl (Nat.le_of_ble_eq_true rfl) (hM.one hW k) ?_
    rw [one_no hk]
    refine a_if_ne (k := 3) rfl (fun c_5 => ?_) (fun c_5 => ?_)
    · exact absurd rfl c_5
    · refine a_ldc (k := 4) rfl nRX11_210 ⟨by decide, by decide⟩ ?_
      refine a_ireturn (k := 5) rfl rfl ?_
      exact ⟨rfl, hM, FMo.rf⟩
  · have h5 := hW.now.1
    have hWr := hW.now.2.2 q hk
    have h8 := hWr.1
    have hV := hWr.2.2.1
    rw [show t_pretzel σ (q : Int) w = _ from on_yes hk]
    rw [ways_eq hWr (Or.inl rfl), ways_eq hWr (Or.inr rfl)]
    have hsl := hM.slot hk
    by_cases hw : 0 ≤ w ∧ w ≤ 6
    · generalize (σ.now.2.2 q) = r at *
      have eo : setT (fun d => decide (pct (lys r.2.2 d (2 * r.1)) 8 % 2 = 1)) r.1 = r_odd r := by
        unfold r_odd
        congr 1
        refine funext fun d => ?_
        have hl : lys r.2.2 d (2 * r.1) < 2 ^ 8 := lys_lt (fun i hi => by have := hV.1 i hi; omega)
        rw [pc_8 hl]
      refine Sp.of rfl kX11_pretzel (Nat.le_of_ble_eq_true rfl) ?_
      refine u_aloadn (k := 0) rfl rfl ?_
      refine u_iloadn (k := 1) rfl rfl ?_
      refine i_virt1 (M' := mX11_isOne) (k := 2) rfl lRX11_206 oX11_isOne vX11_isOne ⟨Nat.le_of_ble_eq_true rfl, Nat.le_of_ble_eq_true rfl⟩ rfl rfl (Nat.le_of_ble_eq_true rfl) (hM.one hW q) ?_
      rw [one_yes hk]
      refine a_if_ne (k := 3) rfl (fun c_5 => ?_) (fun c_5 => ?_)
      · refine u_iloadn (k := 6) rfl rfl ?_
        refine a_i2l (k := 7) rfl ?_
        refine a_lconst (k := 8) rfl ?_
        refine a_ldc2 (k := 9) rfl nRX11_250 ⟨by decide, by decide⟩ ?_
        refine i_stat3 (M' := mX11_in) (k := 10) rfl lRX11_81 oX11_in vX11_in ⟨Nat.le_of_ble_eq_true rfl, Nat.le_of_ble_eq_true rfl⟩ rfl (Nat.le_of_ble_eq_true rfl) (m_in w 0 6 h) ?_
        rw [inb_t hw]
        refine a_if_ne (k := 11) rfl (fun c_20 => ?_) (fun c_20 => ?_)
        · refine u_aloadn (k := 14) rfl rfl ?_
          refine u_iloadn (k := 15) rfl rfl ?_
          refine uv_virt1 (M' := mX11_loads) (k := 16) rfl lRX11_211 oX11_loads vX11_loads ⟨Nat.le_of_ble_eq_true rfl, Nat.le_of_ble_eq_true rfl⟩ rfl rfl (Nat.le_of_ble_eq_true rfl) (m_loads q r h (by omega) h8 hsl) (by intro r g hp; exact hp.1) (fun g2 hg2 => ?_)
          obtain ⟨-, hR2, hF2⟩ := hg2
          have hM2 : MR σ g2 := hM.scr hW (Fs_of hF2 (by simp [tms]) (by simp [kms]))
          have hO2 : FMo h g2 := Fr.mo hF2 (by simp) (by simp)
          refine u_iloadn (k := 17) rfl rfl ?_
          refine a_if_ne (k := 18) rfl (fun c_32 => ?_) (fun c_32 => ?_)
          · refine u_iloadn (k := 24) rfl rfl ?_
            refine a_iconst (k := 25) rfl ?_
            refine a_icmp_ne (k := 26) rfl (fun c_46 => ?_) (fun c_46 => ?_)
            · refine u_iloadn (k := 30) rfl rfl ?_
              refine a_iconst (k := 31) rfl ?_
              refine a_icmp_ne (k := 32) rfl (fun c_58 => ?_) (fun c_58 => ?_)
              · refine u_iloadn (k := 37) rfl rfl ?_
                refine a_iconst (k := 38) rfl ?_
                refine a_icmp_ne (k := 39) rfl (fun c_71 => ?_) (fun c_71 => ?_)
                · refine u_iloadn (k := 44) rfl rfl ?_
                  refine a_iconst (k := 45) rfl ?_
                  refine a_icmp_ne (k := 46) rfl (fun c_84 => ?_) (fun c_84 => ?_)
                  · refine u_iloadn (k := 50) rfl rfl ?_
                    refine a_iconst (k := 51) rfl ?_
                    refine a_icmp_ne (k := 52) rfl (fun c_96 => ?_) (fun c_96 => ?_)
                    · refine u_aloadn (k := 56) rfl rfl ?_
                      refine i_virt0 (M' := mX11_odd) (k := 57) rfl lRX11_261 oX11_odd vX11_odd ⟨Nat.le_of_ble_eq_true rfl, Nat.le_of_ble_eq_true rfl⟩ rfl rfl (Nat.le_of_ble_eq_true rfl) (m_odd r.1 _ _ g2 h8 hV hR2) ?_
                      refine a_ireturn (k := 58) rfl rfl ?_
                      first
                        | (refine ⟨?_, hM2, hO2⟩; rw [if_pos (by omega), show ((2 * r.1 : Nat) : Int) / 2 = (r.1 : Int) by omega]; done)
                        | (refine ⟨?_, hM2, hO2⟩; rw [if_neg (by omega), if_pos (by omega)]; done)
                        | (refine ⟨?_, hM2.scr hW (Fs_of hF3 (by simp [tms, tcz]) (by simp [kms])), hO2.tr (Fr.mo hF3 (by simp [tcz]) (by simp))⟩; rw [if_neg (by omega), if_neg (by omega), if_pos (by omega)]; done)
                        | (refine ⟨?_, hM2.scr hW (Fs_of hF3 (by simp [tms, tcz]) (by simp [kms])), hO2.tr (Fr.mo hF3 (by simp [tcz]) (by simp))⟩; rw [if_neg (by omega), if_neg (by omega), if_neg (by omega), if_pos (by omega)]; done)
                        | (refine ⟨?_, hM2.scr hW (Fs_of hF3 (by simp [tms, tso]) (by simp [kms, ksk])), hO2.tr (Fr.mo hF3 (by simp [tso]) (by simp [ksk]))⟩; rw [if_neg (by omega), if_neg (by omega), if_neg (by omega), if_neg (by omega), if_pos (by omega)]; done)
                        | (refine ⟨?_, hM2.scr hW (Fs_of hF3 (by simp [tms, tso]) (by simp [kms, ksk])), hO2.tr (Fr.mo hF3 (by simp [tso]) (by simp [ksk]))⟩; rw [if_neg (by omega), if_neg (by omega), if_neg (by omega), if_neg (by omega), if_neg (by omega), if_pos (by omega)]; done)
                        | (refine ⟨?_, hM2, hO2⟩; rw [if_neg (by omega), if_neg (by omega), if_neg (by omega), if_neg (by omega), if_neg (by omega), if_neg (by omega), if_pos (by omega), eo])
                    · refine u_aloadn (k := 53) rfl rfl ?_
                      refine ui_virt0 (M' := mX11_switches) (k := 54) rfl lRX11_258 oX11_switches vX11_switches ⟨Nat.le_of_ble_eq_true rfl, Nat.le_of_ble_eq_true rfl⟩ rfl rfl (Nat.le_of_ble_eq_true rfl) (m_switches r.1 _ _ g2 h8 hV hR2) (by intro r g hp; exact ⟨_, hp.1⟩) (fun z g3 hg3 => ?_)
                      obtain ⟨hz, hF3⟩ := hg3; cases hz
                      refine a_goto (k := 55) rfl ?_
                      refine a_ireturn (k := 58) rfl rfl ?_
                      first
                        | (refine ⟨?_, hM2, hO2⟩; rw [if_pos (by omega), show ((2 * r.1 : Nat) : Int) / 2 = (r.1 : Int) by omega]; done)
                        | (refine ⟨?_, hM2, hO2⟩; rw [if_neg (by omega), if_pos (by omega)]; done)
                        | (refine ⟨?_, hM2.scr hW (Fs_of hF3 (by simp [tms, tcz]) (by simp [kms])), hO2.tr (Fr.mo hF3 (by simp [tcz]) (by simp))⟩; rw [if_neg (by omega), if_neg (by omega), if_pos (by omega)]; done)
                        | (refine ⟨?_, hM2.scr hW (Fs_of hF3 (by simp [tms, tcz]) (by simp [kms])), hO2.tr (Fr.mo hF3 (by simp [tcz]) (by simp))⟩; rw [if_neg (by omega), if_neg (by omega), if_neg (by omega), if_pos (by omega)]; done)
                        | (refine ⟨?_, hM2.scr hW (Fs_of hF3 (by simp [tms, tso]) (by simp [kms, ksk])), hO2.tr (Fr.mo hF3 (by simp [tso]) (by simp [ksk]))⟩; rw [if_neg (by omega), if_neg (by omega), if_neg (by omega), if_neg (by omega), if_pos (by omega)]; done)
                        | (refine ⟨?_, hM2.scr hW (Fs_of hF3 (by simp [tms, tso]) (by simp [kms, ksk])), hO2.tr (Fr.mo hF3 (by simp [tso]) (by simp [ksk]))⟩; rw [if_neg (by omega), if_neg (by omega), if_neg (by omega), if_neg (by omega), if_neg (by omega), if_pos (by omega)]; done)
                        | (refine ⟨?_, hM2, hO2⟩; rw [if_neg (by omega), if_neg (by omega), if_neg (by omega), if_neg (by omega), if_neg (by omega), if_neg (by omega), if_pos (by omega), eo])
                  · refine u_aloadn (k := 47) rfl rfl ?_
                    refine ui_virt0 (M' := mX11_weak) (k := 48) rfl lRX11_255 oX11_weak vX11_weak ⟨Nat.le_of_ble_eq_true rfl, Nat.le_of_ble_eq_true rfl⟩ rfl rfl (Nat.le_of_ble_eq_true rfl) (m_weak r.1 _ _ g2 h8 hV hR2) (by intro r g hp; exact ⟨_, hp.1⟩) (fun z g3 hg3 => ?_)
                    obtain ⟨hz, hF3⟩ := hg3; cases hz
                    refine a_goto (k := 49) rfl ?_
                    refine a_ireturn (k := 58) rfl rfl ?_
                    first
                      | (refine ⟨?_, hM2, hO2⟩; rw [if_pos (by omega), show ((2 * r.1 : Nat) : Int) / 2 = (r.1 : Int) by omega]; done)
                      | (refine ⟨?_, hM2, hO2⟩; rw [if_neg (by omega), if_pos (by omega)]; done)
                      | (refine ⟨?_, hM2.scr hW (Fs_of hF3 (by simp [tms, tcz]) (by simp [kms])), hO2.tr (Fr.mo hF3 (by simp [tcz]) (by simp))⟩; rw [if_neg (by omega), if_neg (by omega), if_pos (by omega)]; done)
                      | (refine ⟨?_, hM2.scr hW (Fs_of hF3 (by simp [tms, tcz]) (by simp [kms])), hO2.tr (Fr.mo hF3 (by simp [tcz]) (by simp))⟩; rw [if_neg (by omega), if_neg (by omega), if_neg (by omega), if_pos (by omega)]; done)
                      | (refine ⟨?_, hM2.scr hW (Fs_of hF3 (by simp [tms, tso]) (by simp [kms, ksk])), hO2.tr (Fr.mo hF3 (by simp [tso]) (by simp [ksk]))⟩; rw [if_neg (by omega), if_neg (by omega), if_neg (by omega), if_neg (by omega), if_pos (by omega)]; done)
                      | (refine ⟨?_, hM2.scr hW (Fs_of hF3 (by simp [tms, tso]) (by simp [kms, ksk])), hO2.tr (Fr.mo hF3 (by simp [tso]) (by simp [ksk]))⟩; rw [if_neg (by omega), if_neg (by omega), if_neg (by omega), if_neg (by omega), if_neg (by omega), if_pos (by omega)]; done)
                      | (refine ⟨?_, hM2, hO2⟩; rw [if_neg (by omega), if_neg (by omega), if_neg (by omega), if_neg (by omega), if_neg (by omega), if_neg (by omega), if_pos (by omega), eo])
                · refine u_aloadn (k := 40) rfl rfl ?_
                  refine a_iconst (k := 41) rfl ?_
                  refine ui_virt1 (M' := mX11_colours) (k := 42) rfl lRX11_252 oX11_colours vX11_colours ⟨Nat.le_of_ble_eq_true rfl, Nat.le_of_ble_eq_true rfl⟩ rfl rfl (Nat.le_of_ble_eq_true rfl) (m_colours hWr _ 5 g2 (Or.inr rfl) hR2) (by intro r g hp; exact ⟨_, hp.1⟩) (fun z g3 hg3 => ?_)
                  obtain ⟨hz, hF3⟩ := hg3; cases hz
                  refine a_goto (k := 43) rfl ?_
                  refine a_ireturn (k := 58) rfl rfl ?_
                  first
                    | (refine ⟨?_, hM2, hO2⟩; rw [if_pos (by omega), show ((2 * r.1 : Nat) : Int) / 2 = (r.1 : Int) by omega]; done)
                    | (refine ⟨?_, hM2, hO2⟩; rw [if_neg (by omega), if_pos (by omega)]; done)
                    | (refine ⟨?_, hM2.scr hW (Fs_of hF3 (by simp [tms, tcz]) (by simp [kms])), hO2.tr (Fr.mo hF3 (by simp [tcz]) (by simp))⟩; rw [if_neg (by omega), if_neg (by omega), if_pos (by omega)]; done)
                    | (refine ⟨?_, hM2.scr hW (Fs_of hF3 (by simp [tms, tcz]) (by simp [kms])), hO2.tr (Fr.mo hF3 (by simp [tcz]) (by simp))⟩; rw [if_neg (by omega), if_neg (by omega), if_neg (by omega), if_pos (by omega)]; done)
                    | (refine ⟨?_, hM2.scr hW (Fs_of hF3 (by simp [tms, tso]) (by simp [kms, ksk])), hO2.tr (Fr.mo hF3 (by simp [tso]) (by simp [ksk]))⟩; rw [if_neg (by omega), if_neg (by omega), if_neg (by omega), if_neg (by omega), if_pos (by omega)]; done)
                    | (refine ⟨?_, hM2.scr hW (Fs_of hF3 (by simp [tms, tso]) (by simp [kms, ksk])), hO2.tr (Fr.mo hF3 (by simp [tso]) (by simp [ksk]))⟩; rw [if_neg (by omega), if_neg (by omega), if_neg (by omega), if_neg (by omega), if_neg (by omega), if_pos (by omega)]; done)
                    | (refine ⟨?_, hM2, hO2⟩; rw [if_neg (by omega), if_neg (by omega), if_neg (by omega), if_neg (by omega), if_neg (by omega), if_neg (by omega), if_pos (by omega), eo])
              · refine u_aloadn (k := 33) rfl rfl ?_
                refine a_iconst (k := 34) rfl ?_
                refine ui_virt1 (M' := mX11_colours) (k := 35) rfl lRX11_252 oX11_colours vX11_colours ⟨Nat.le_of_ble_eq_true rfl, Nat.le_of_ble_eq_true rfl⟩ rfl rfl (Nat.le_of_ble_eq_true rfl) (m_colours hWr _ 3 g2 (Or.inl rfl) hR2) (by intro r g hp; exact ⟨_, hp.1⟩) (fun z g3 hg3 => ?_)
                obtain ⟨hz, hF3⟩ := hg3; cases hz
                refine a_goto (k := 36) rfl ?_
                refine a_ireturn (k := 58) rfl rfl ?_
                first
                  | (refine ⟨?_, hM2, hO2⟩; rw [if_pos (by omega), show ((2 * r.1 : Nat) : Int) / 2 = (r.1 : Int) by omega]; done)
                  | (refine ⟨?_, hM2, hO2⟩; rw [if_neg (by omega), if_pos (by omega)]; done)
                  | (refine ⟨?_, hM2.scr hW (Fs_of hF3 (by simp [tms, tcz]) (by simp [kms])), hO2.tr (Fr.mo hF3 (by simp [tcz]) (by simp))⟩; rw [if_neg (by omega), if_neg (by omega), if_pos (by omega)]; done)
                  | (refine ⟨?_, hM2.scr hW (Fs_of hF3 (by simp [tms, tcz]) (by simp [kms])), hO2.tr (Fr.mo hF3 (by simp [tcz]) (by simp))⟩; rw [if_neg (by omega), if_neg (by omega), if_neg (by omega), if_pos (by omega)]; done)
                  | (refine ⟨?_, hM2.scr hW (Fs_of hF3 (by simp [tms, tso]) (by simp [kms, ksk])), hO2.tr (Fr.mo hF3 (by simp [tso]) (by simp [ksk]))⟩; rw [if_neg (by omega), if_neg (by omega), if_neg (by omega), if_neg (by omega), if_pos (by omega)]; done)
                  | (refine ⟨?_, hM2.scr hW (Fs_of hF3 (by simp [tms, tso]) (by simp [kms, ksk])), hO2.tr (Fr.mo hF3 (by simp [tso]) (by simp [ksk]))⟩; rw [if_neg (by omega), if_neg (by omega), if_neg (by omega), if_neg (by omega), if_neg (by omega), if_pos (by omega)]; done)
                  | (refine ⟨?_, hM2, hO2⟩; rw [if_neg (by omega), if_neg (by omega), if_neg (by omega), if_neg (by omega), if_neg (by omega), if_neg (by omega), if_pos (by omega), eo])
            · refine u_aloadn (k := 27) rfl rfl ?_
              refine a_geti (k := 28) rfl fRX11_159 rfl rfl ?_
              rw [hR2.2.1]
              refine a_goto (k := 29) rfl ?_
              refine a_ireturn (k := 58) rfl rfl ?_
              first
                | (refine ⟨?_, hM2, hO2⟩; rw [if_pos (by omega), show ((2 * r.1 : Nat) : Int) / 2 = (r.1 : Int) by omega]; done)
                | (refine ⟨?_, hM2, hO2⟩; rw [if_neg (by omega), if_pos (by omega)]; done)
                | (refine ⟨?_, hM2.scr hW (Fs_of hF3 (by simp [tms, tcz]) (by simp [kms])), hO2.tr (Fr.mo hF3 (by simp [tcz]) (by simp))⟩; rw [if_neg (by omega), if_neg (by omega), if_pos (by omega)]; done)
                | (refine ⟨?_, hM2.scr hW (Fs_of hF3 (by simp [tms, tcz]) (by simp [kms])), hO2.tr (Fr.mo hF3 (by simp [tcz]) (by simp))⟩; rw [if_neg (by omega), if_neg (by omega), if_neg (by omega), if_pos (by omega)]; done)
                | (refine ⟨?_, hM2.scr hW (Fs_of hF3 (by simp [tms, tso]) (by simp [kms, ksk])), hO2.tr (Fr.mo hF3 (by simp [tso]) (by simp [ksk]))⟩; rw [if_neg (by omega), if_neg (by omega), if_neg (by omega), if_neg (by omega), if_pos (by omega)]; done)
                | (refine ⟨?_, hM2.scr hW (Fs_of hF3 (by simp [tms, tso]) (by simp [kms, ksk])), hO2.tr (Fr.mo hF3 (by simp [tso]) (by simp [ksk]))⟩; rw [if_neg (by omega), if_neg (by omega), if_neg (by omega), if_neg (by omega), if_neg (by omega), if_pos (by omega)]; done)
                | (refine ⟨?_, hM2, hO2⟩; rw [if_neg (by omega), if_neg (by omega), if_neg (by omega), if_neg (by omega), if_neg (by omega), if_neg (by omega), if_pos (by omega), eo])
          · refine u_aloadn (k := 19) rfl rfl ?_
            refine a_geti (k := 20) rfl fRX11_156 rfl rfl ?_
            rw [hR2.1]
            refine a_iconst (k := 21) rfl ?_
            refine u_idiv (k := 22) rfl (by omega) (by omega) ?_
            refine a_goto (k := 23) rfl ?_
            refine a_ireturn (k := 58) rfl rfl ?_
            first
              | (refine ⟨?_, hM2, hO2⟩; rw [if_pos (by omega), show ((2 * r.1 : Nat) : Int) / 2 = (r.1 : Int) by omega]; done)
              | (refine ⟨?_, hM2, hO2⟩; rw [if_neg (by omega), if_pos (by omega)]; done)
              | (refine ⟨?_, hM2.scr hW (Fs_of hF3 (by simp [tms, tcz]) (by simp [kms])), hO2.tr (Fr.mo hF3 (by simp [tcz]) (by simp))⟩; rw [if_neg (by omega), if_neg (by omega), if_pos (by omega)]; done)
              | (refine ⟨?_, hM2.scr hW (Fs_of hF3 (by simp [tms, tcz]) (by simp [kms])), hO2.tr (Fr.mo hF3 (by simp [tcz]) (by simp))⟩; rw [if_neg (by omega), if_neg (by omega), if_neg (by omega), if_pos (by omega)]; done)
              | (refine ⟨?_, hM2.scr hW (Fs_of hF3 (by simp [tms, tso]) (by simp [kms, ksk])), hO2.tr (Fr.mo hF3 (by simp [tso]) (by simp [ksk]))⟩; rw [if_neg (by omega), if_neg (by omega), if_neg (by omega), if_neg (by omega), if_pos (by omega)]; done)
              | (refine ⟨?_, hM2.scr hW (Fs_of hF3 (by simp [tms, tso]) (by simp [kms, ksk])), hO2.tr (Fr.mo hF3 (by simp [tso]) (by simp [ksk]))⟩; rw [if_neg (by omega), if_neg (by omega), if_neg (by omega), if_neg (by omega), if_neg (by omega), if_pos (by omega)]; done)
              | (refine ⟨?_, hM2, hO2⟩; rw [if_neg (by omega), if_neg (by omega), if_neg (by omega), if_neg (by omega), if_neg (by omega), if_neg (by omega), if_pos (by omega), eo])
        · exact absurd c_20 (by decide)
      · exact absurd c_5 (by decide)
    · have e : ∀ a b c d e f g : Int, (if w = 0 then a else if w = 1 then b else if w = 2 then c else if w = 3 then d else if w = 4 then e else if w = 5 then f else if w = 6 then g else OUT) = OUT := fun a b c d e f g => by
        rw [if_neg (by omega), if_neg (by omega), if_neg (by omega), if_neg (by omega), if_neg (by omega), if_neg (by omega), if_neg (by omega)]
      rw [e]
      refine Sp.of rfl kX11_pretzel (Nat.le_of_ble_eq_true rfl) ?_
      refine u_aloadn (k := 0) rfl rfl ?_
      refine u_iloadn (k := 1) rfl rfl ?_
      refine i_virt1 (M' := mX11_isOne) (k := 2) rfl lRX11_206 oX11_isOne vX11_isOne ⟨Nat.le_of_ble_eq_true rfl, Nat.le_of_ble_eq_true rfl⟩ rfl rfl (Nat.le_of_ble_eq_true rfl) (hM.one hW q) ?_
      rw [one_yes hk]
      refine a_if_ne (k := 3) rfl (fun c_5 => ?_) (fun c_5 => ?_)
      · refine u_iloadn (k := 6) rfl rfl ?_
        refine a_i2l (k := 7) rfl ?_
        refine a_lconst (k := 8) rfl ?_
        refine a_ldc2 (k := 9) rfl nRX11_250 ⟨by decide, by decide⟩ ?_
        refine i_stat3 (M' := mX11_in) (k := 10) rfl lRX11_81 oX11_in vX11_in ⟨Nat.le_of_ble_eq_true rfl, Nat.le_of_ble_eq_true rfl⟩ rfl (Nat.le_of_ble_eq_true rfl) (m_in w 0 6 h) ?_
        rw [inb_f hw]
        refine a_if_ne (k := 11) rfl (fun c_20 => ?_) (fun c_20 => ?_)
        · exact absurd rfl c_20
        · refine a_ldc (k := 12) rfl nRX11_97 ⟨by decide, by decide⟩ ?_
          refine a_ireturn (k := 13) rfl rfl ?_
          exact ⟨rfl, hM, FMo.rf⟩
      · exact absurd c_5 (by decide)
noncomputable def t_few (r : Rp) : Int := (r_try (r.1, 0, r.2.2) (fun _ => 0)).2.1
noncomputable def t_tells (σ : AS) (k q : Int) : Int × AS := σ.two k q fun a b => ((if r_ways (σ.now.2.2 a) 3 = r_ways (σ.now.2.2 b) 3 then 0 else 1) + (if r_ways (σ.now.2.2 a) 5 = r_ways (σ.now.2.2 b) 5 then 0 else 2) + (if t_few (σ.now.2.2 a) = t_few (σ.now.2.2 b) then 0 else 4), σ)
theorem m_tells {B : Nat} {σ : AS} {h : HH} (hW : WA B σ) (hM : MR σ h) (k q : Int) : Sp mX11_tells [vr 40 0, vi k, vi q] h (MP (t_tells σ k q) h) := by
  by_cases ht : (0 ≤ k ∧ k < σ.now.1) ∧ (0 ≤ q ∧ q < σ.now.1) ∧ k ≠ q
  · obtain ⟨a, rfl⟩ : ∃ a : Nat, k = (a : Int) := ⟨k.toNat, by omega⟩
    obtain ⟨b, rfl⟩ : ∃ b : Nat, q = (b : Int) := ⟨q.toNat, by omega⟩
    have hk : a < σ.now.1 := by omega
    have hq : b < σ.now.1 := by omega
    have hab : a ≠ b := by omega
    have h5 := hW.now.1
    have hWa := hW.now.2.2 a hk
    have hWb := hW.now.2.2 b hq
    have h8a := hWa.1
    have h8b := hWb.1
    have hit : istwo (a : Int) (b : Int) σ.now.1 = true := decide_eq_true ht
    rw [show t_tells σ (a : Int) (b : Int) = _ from two_yes hk hq hab]
    rw [ways_eq hWa (Or.inl rfl), ways_eq hWa (Or.inr rfl), ways_eq hWb (Or.inl rfl), ways_eq hWb (Or.inr rfl)]
    have hsla := hM.slot hk
    have hslb : ∀ g, MR σ g → RM (2 + 18 * b) (σ.now.2.2 b) g := fun g hg => hg.slot hq
    generalize (σ.now.2.2 a) = ra at *
    generalize (σ.now.2.2 b) = rb at *
    have rk1 : ∀ {n s : Nat} {F : Nat → Nat} {g g' : HH}, RW n F s g → Fr tcz [] g g' → RW n F s g' := fun hR hF => hR.keep (hF 40 0 20 (by simp [tcz]) (by simp)) (hF 40 0 24 (by simp [tcz]) (by simp)) (fun k => hF 50 0 k (by simp [tcz]) (by simp))
    have ef : ∀ r : Rp, pkw (r_try (r.1, 0, r.2.2) (fun _ => 0)) 0 = t_few r := fun r => by
      unfold pkw t_few
      rw [if_pos rfl]
    refine Sp.of rfl kX11_tells (Nat.le_of_ble_eq_true rfl) ?_
    have T89 : ∀ (g : HH) (v x3 x4 x5 : Int), MR σ g → FMo h g → v = (if r_wz ra 3 = r_wz rb 3 then 0 else 1) + (if r_wz ra 5 = r_wz rb 5 then 0 else 2) → ∀ t : Int, t = (if t_few ra = t_few rb then 0 else 4) → AW mX11_tells (MP ((if r_wz ra 3 = r_wz rb 3 then 0 else 1) + (if r_wz ra 5 = r_wz rb 5 then 0 else 2) + (if t_few ra = t_few rb then 0 else 4), σ) h) 89 [(5, vi x5), (4, vi x4), (3, vi x3), (0, vr 40 0), (1, vi a), (2, vi b)] [vi t, vi v] g := by
      intro g v x3 x4 x5 hM2 hO hv t ht
      have hv2 : v = 0 ∨ v = 1 ∨ v = 2 ∨ v = 3 := by rw [hv]; split <;> split <;> omega
      have ht2 : t = 0 ∨ t = 4 := by rw [ht]; split <;> omega
      refine u_iadd (k := 52) rfl (by omega) ?_
      refine a_ireturn (k := 53) rfl rfl ?_
      exact ⟨by rw [hv, ht], hM2, hO⟩
    have T72 : ∀ (g : HH) (v t x3 x4 : Int), MR σ g → FMo h g → RW (2 * rb.1) rb.2.2 rb.2.1 g → v = (if r_wz ra 3 = r_wz rb 3 then 0 else 1) → t = (if r_wz ra 5 = r_wz rb 5 then 0 else 2) → AW mX11_tells (MP ((if r_wz ra 3 = r_wz rb 3 then 0 else 1) + (if r_wz ra 5 = r_wz rb 5 then 0 else 2) + (if t_few ra = t_few rb then 0 else 4), σ) h) 72 [(5, vi (t_few ra)), (4, vi x4), (3, vi x3), (0, vr 40 0), (1, vi a), (2, vi b)] [vi t, vi v] g := by
      intro g v t x3 x4 hM2 hO hR hv ht
      have hv2 : v = 0 ∨ v = 1 := by rw [hv]; split <;> omega
      have ht2 : t = 0 ∨ t = 2 := by rw [ht]; split <;> omega
      refine u_iadd (k := 42) rfl (by omega) ?_
      refine u_iload (k := 43) rfl rfl ?_
      refine u_aloadn (k := 44) rfl rfl ?_
      refine a_iconst (k := 45) rfl ?_
      refine a_iconst (k := 46) rfl ?_
      refine ui_virt2 (M' := mX11_shaken) (k := 47) rfl lRX11_219 oX11_shaken vX11_shaken ⟨Nat.le_of_ble_eq_true rfl, Nat.le_of_ble_eq_true rfl⟩ rfl rfl (Nat.le_of_ble_eq_true rfl) (m_shaken rb.1 _ 0 0 _ g h8b hWb.2.2.1 hR (by omega)) (by intro r g hp; exact ⟨_, hp.1⟩) (fun z g2 hg2 => ?_)
      obtain ⟨hz, hF2⟩ := hg2; cases hz
      have hM3 : MR σ g2 := hM2.scr hW (Fs_of hF2 (by simp [tms, tsk]) (by simp [kms, ksk]))
      have hO3 : FMo h g2 := hO.tr (Fr.mo hF2 (by simp [tsk]) (by simp [ksk]))
      rw [ef]
      refine a_icmp_ne (k := 48) rfl (fun c_81 => ?_) (fun c_81 => ?_)
      · refine a_iconst (k := 51) rfl ?_
        first
          | exact T89 g2 _ _ _ _ hM3 hO3 (by rw [hv, ht]) 0 (by rw [if_pos c_81])
          | exact T89 g2 _ _ _ _ hM3 hO3 (by rw [hv, ht]) 4 (by rw [if_neg c_81])
      · refine a_iconst (k := 49) rfl ?_
        refine a_goto (k := 50) rfl ?_
        first
          | exact T89 g2 _ _ _ _ hM3 hO3 (by rw [hv, ht]) 0 (by rw [if_pos c_81])
          | exact T89 g2 _ _ _ _ hM3 hO3 (by rw [hv, ht]) 4 (by rw [if_neg c_81])
    have T57 : ∀ (g : HH) (v x3 : Int), MR σ g → FMo h g → RW (2 * rb.1) rb.2.2 rb.2.1 g → v = (if r_wz ra 3 = r_wz rb 3 then 0 else 1) → AW mX11_tells (MP ((if r_wz ra 3 = r_wz rb 3 then 0 else 1) + (if r_wz ra 5 = r_wz rb 5 then 0 else 2) + (if t_few ra = t_few rb then 0 else 4), σ) h) 57 [(5, vi (t_few ra)), (4, vi (r_wz ra 5 : Int)), (3, vi x3), (0, vr 40 0), (1, vi a), (2, vi b)] [vi v] g := by
      intro g v x3 hM2 hO hR hv
      refine u_iload (k := 34) rfl rfl ?_
      refine u_aloadn (k := 35) rfl rfl ?_
      refine a_iconst (k := 36) rfl ?_
      refine ui_virt1 (M' := mX11_colours) (k := 37) rfl lRX11_252 oX11_colours vX11_colours ⟨Nat.le_of_ble_eq_true rfl, Nat.le_of_ble_eq_true rfl⟩ rfl rfl (Nat.le_of_ble_eq_true rfl) (m_colours hWb _ 5 g (Or.inr rfl) hR) (by intro r g hp; exact ⟨_, hp.1⟩) (fun z g2 hg2 => ?_)
      obtain ⟨hz, hF2⟩ := hg2; cases hz
      have hM3 : MR σ g2 := hM2.scr hW (Fs_of hF2 (by simp [tms, tcz]) (by simp [kms]))
      have hO3 : FMo h g2 := hO.tr (Fr.mo hF2 (by simp [tcz]) (by simp))
      refine a_icmp_ne (k := 38) rfl (fun c_64 => ?_) (fun c_64 => ?_)
      · refine a_iconst (k := 41) rfl ?_
        first
          | exact T72 g2 v 0 _ _ hM3 hO3 (rk1 hR hF2) hv (by rw [if_pos (by omega)])
          | exact T72 g2 v 2 _ _ hM3 hO3 (rk1 hR hF2) hv (by rw [if_neg (by omega)])
      · refine a_iconst (k := 39) rfl ?_
        refine a_goto (k := 40) rfl ?_
        first
          | exact T72 g2 v 0 _ _ hM3 hO3 (rk1 hR hF2) hv (by rw [if_pos (by omega)])
          | exact T72 g2 v 2 _ _ hM3 hO3 (rk1 hR hF2) hv (by rw [if_neg (by omega)])
    refine u_aloadn (k := 0) rfl rfl ?_
    refine u_iloadn (k := 1) rfl rfl ?_
    refine u_iloadn (k := 2) rfl rfl ?_
    refine i_virt2 (M' := mX11_isTwo) (k := 3) rfl lRX11_267 oX11_isTwo vX11_isTwo ⟨Nat.le_of_ble_eq_true rfl, Nat.le_of_ble_eq_true rfl⟩ rfl rfl (Nat.le_of_ble_eq_true rfl) (hM.two hW a b) ?_
    rw [hit]
    refine a_if_ne (k := 4) rfl (fun c_6 => ?_) (fun c_6 => ?_)
    · refine u_aloadn (k := 7) rfl rfl ?_
      refine u_iloadn (k := 8) rfl rfl ?_
      refine uv_virt1 (M' := mX11_loads) (k := 9) rfl lRX11_211 oX11_loads vX11_loads ⟨Nat.le_of_ble_eq_true rfl, Nat.le_of_ble_eq_true rfl⟩ rfl rfl (Nat.le_of_ble_eq_true rfl) (m_loads a ra h (by omega) h8a hsla) (by intro r g hp; exact hp.1) (fun g1 hg1 => ?_)
      obtain ⟨-, hR1, hF1⟩ := hg1
      have hM1 : MR σ g1 := hM.scr hW (Fs_of hF1 (by simp [tms]) (by simp [kms]))
      have hO1 : FMo h g1 := Fr.mo hF1 (by simp) (by simp)
      refine u_aloadn (k := 10) rfl rfl ?_
      refine a_iconst (k := 11) rfl ?_
      refine ui_virt1 (M' := mX11_colours) (k := 12) rfl lRX11_252 oX11_colours vX11_colours ⟨Nat.le_of_ble_eq_true rfl, Nat.le_of_ble_eq_true rfl⟩ rfl rfl (Nat.le_of_ble_eq_true rfl) (m_colours hWa _ 3 g1 (Or.inl rfl) hR1) (by intro r g hp; exact ⟨_, hp.1⟩) (fun z g2 hg2 => ?_)
      obtain ⟨hz, hF2⟩ := hg2; cases hz
      have hM2 : MR σ g2 := hM1.scr hW (Fs_of hF2 (by simp [tms, tcz]) (by simp [kms]))
      have hO2 : FMo h g2 := hO1.tr (Fr.mo hF2 (by simp [tcz]) (by simp))
      have hR2 := rk1 hR1 hF2
      refine a_istoren (k := 13) (lv' := [(3, _), (0, _), (1, _), (2, _)]) rfl (Nat.le_of_ble_eq_true rfl) rfl ?_
      refine u_aloadn (k := 14) rfl rfl ?_
      refine a_iconst (k := 15) rfl ?_
      refine ui_virt1 (M' := mX11_colours) (k := 16) rfl lRX11_252 oX11_colours vX11_colours ⟨Nat.le_of_ble_eq_true rfl, Nat.le_of_ble_eq_true rfl⟩ rfl rfl (Nat.le_of_ble_eq_true rfl) (m_colours hWa _ 5 g2 (Or.inr rfl) hR2) (by intro r g hp; exact ⟨_, hp.1⟩) (fun z g3 hg3 => ?_)
      obtain ⟨hz, hF3⟩ := hg3; cases hz
      have hM3 : MR σ g3 := hM2.scr hW (Fs_of hF3 (by simp [tms, tcz]) (by simp [kms]))
      have hO3 : FMo h g3 := hO2.tr (Fr.mo hF3 (by simp [tcz]) (by simp))
      have hR3 := rk1 hR2 hF3
      refine a_istore (k := 17) (lv' := [(4, _), (3, _), (0, _), (1, _), (2, _)]) rfl (Nat.le_of_ble_eq_true rfl) rfl ?_
      refine u_aloadn (k := 18) rfl rfl ?_
      refine a_iconst (k := 19) rfl ?_
      refine a_iconst (k := 20) rfl ?_
      refine ui_virt2 (M' := mX11_shaken) (k := 21) rfl lRX11_219 oX11_shaken vX11_shaken ⟨Nat.le_of_ble_eq_true rfl, Nat.le_of_ble_eq_true rfl⟩ rfl rfl (Nat.le_of_ble_eq_true rfl) (m_shaken ra.1 _ 0 0 _ g3 h8a hWa.2.2.1 hR3 (by omega)) (by intro r g hp; exact ⟨_, hp.1⟩) (fun z g4 hg4 => ?_)
      obtain ⟨hz, hF4⟩ := hg4; cases hz
      have hM4 : MR σ g4 := hM3.scr hW (Fs_of hF4 (by simp [tms, tsk]) (by simp [kms, ksk]))
      have hO4 : FMo h g4 := hO3.tr (Fr.mo hF4 (by simp [tsk]) (by simp [ksk]))
      rw [ef]
      refine a_istore (k := 22) (lv' := [(5, _), (4, _), (3, _), (0, _), (1, _), (2, _)]) rfl (Nat.le_of_ble_eq_true rfl) rfl ?_
      refine u_aloadn (k := 23) rfl rfl ?_
      refine u_iloadn (k := 24) rfl rfl ?_
      refine uv_virt1 (M' := mX11_loads) (k := 25) rfl lRX11_211 oX11_loads vX11_loads ⟨Nat.le_of_ble_eq_true rfl, Nat.le_of_ble_eq_true rfl⟩ rfl rfl (Nat.le_of_ble_eq_true rfl) (m_loads b rb g4 (by omega) h8b (hslb g4 hM4)) (by intro r g hp; exact hp.1) (fun g5 hg5 => ?_)
      obtain ⟨-, hR5, hF5⟩ := hg5
      have hM5 : MR σ g5 := hM4.scr hW (Fs_of hF5 (by simp [tms]) (by simp [kms]))
      have hO5 : FMo h g5 := hO4.tr (Fr.mo hF5 (by simp) (by simp))
      refine u_iloadn (k := 26) rfl rfl ?_
      refine u_aloadn (k := 27) rfl rfl ?_
      refine a_iconst (k := 28) rfl ?_
      refine ui_virt1 (M' := mX11_colours) (k := 29) rfl lRX11_252 oX11_colours vX11_colours ⟨Nat.le_of_ble_eq_true rfl, Nat.le_of_ble_eq_true rfl⟩ rfl rfl (Nat.le_of_ble_eq_true rfl) (m_colours hWb _ 3 g5 (Or.inl rfl) hR5) (by intro r g hp; exact ⟨_, hp.1⟩) (fun z g6 hg6 => ?_)
      obtain ⟨hz, hF6⟩ := hg6; cases hz
      have hM6 : MR σ g6 := hM5.scr hW (Fs_of hF6 (by simp [tms, tcz]) (by simp [kms]))
      have hO6 : FMo h g6 := hO5.tr (Fr.mo hF6 (by simp [tcz]) (by simp))
      refine a_icmp_ne (k := 30) rfl (fun c_49 => ?_) (fun c_49 => ?_)
      · refine a_iconst (k := 33) rfl ?_
        first
          | exact T57 g6 0 _ hM6 hO6 (rk1 hR5 hF6) (by rw [if_pos (by omega)])
          | exact T57 g6 1 _ hM6 hO6 (rk1 hR5 hF6) (by rw [if_neg (by omega)])
      · refine a_iconst (k := 31) rfl ?_
        refine a_goto (k := 32) rfl ?_
        first
          | exact T57 g6 0 _ hM6 hO6 (rk1 hR5 hF6) (by rw [if_pos (by omega)])
          | exact T57 g6 1 _ hM6 hO6 (rk1 hR5 hF6) (by rw [if_neg (by omega)])
    · exact absurd c_6 (by decide)
  · have hit : istwo k q σ.now.1 = false := decide_eq_false ht
    rw [show t_tells σ k q = (UNK, σ) from if_neg ht]
    refine Sp.of rfl kX11_tells (Nat.le_of_ble_eq_true rfl) ?_
    refine u_aloadn (k := 0) rfl rfl ?_
    refine u_iloadn (k := 1) rfl rfl ?_
    refine u_iloadn (k := 2) rfl rfl ?_
    refine i_virt2 (M' := mX11_isTwo) (k := 3) rfl lRX11_267 oX11_isTwo vX11_isTwo ⟨Nat.le_of_ble_eq_true rfl, Nat.le_of_ble_eq_true rfl⟩ rfl rfl (Nat.le_of_ble_eq_true rfl) (hM.two hW k q) ?_
    rw [hit]
    refine a_if_ne (k := 4) rfl (fun c_6 => ?_) (fun c_6 => ?_)
    · exact absurd rfl c_6
    · refine a_ldc (k := 5) rfl nRX11_210 ⟨by decide, by decide⟩ ?_
      refine a_ireturn (k := 6) rfl rfl ?_
      exact ⟨rfl, hM, FMo.rf⟩
