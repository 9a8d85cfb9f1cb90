theorem WA.shake {B : Nat} {σ : AS} (hW : WA B σ) {k : Nat} (hk : k < σ.now.1) : WA B (d_shake σ k) := by
  unfold d_shake
  split
  · exact hW
  · exact hW.setR (WR_take (hW.now.2.2 k hk))
theorem WA.curl {B : Nat} {σ : AS} (hW : WA B σ) {k : Nat} (hk : k < σ.now.1) : WA B (d_curl σ k) := by
  unfold d_curl
  split
  · rename_i hc
    exact (hW.wdr (nxt_lt _)).setR (WR_curl (hW.now.2.2 k hk) hc (Nat.le_of_lt_succ (Nat.mod_lt _ (by omega))) (Nat.mod_lt _ (by omega)))
  · exact hW
theorem WA.go {B : Nat} {σ : AS} (hW : WA B σ) {w k : Nat} (hk : k < σ.now.1) : WA B (d_go σ w k) := by
  unfold d_go
  split
  · exact hW.shake hk
  · split
    · exact hW.curl hk
    · split
      · split
        · exact (hW.wdr (nxt_lt _)).setR (WR_sw (hW.now.2.2 k hk))
        · exact hW
      · split
        · exact hW.setR (WR_rev (hW.now.2.2 k hk))
        · exact hW.setR (WR_roll (hW.now.2.2 k hk))
theorem go_n (σ : AS) (w k : Nat) : (d_go σ w k).now.1 = σ.now.1 := by
  unfold d_go d_shake d_curl
  repeat' split
  all_goals rfl
theorem WA.step {B : Nat} {σ : AS} (hW : WA B σ) (hn : 0 < σ.now.1) : WA B (d_step σ) := by
  unfold d_step
  exact (hW.wdr (nxt_lt _)).go (Nat.mod_lt _ hn)
theorem step_n (σ : AS) : (d_step σ).now.1 = σ.now.1 := by
  unfold d_step
  rw [go_n]
  rfl
noncomputable def d_run : Nat → AS → AS
  | 0, σ => σ
  | n + 1, σ => if 0 < σ.now.1 then d_run n (d_step σ) else σ
theorem WA.run {B : Nat} : ∀ {n : Nat} {σ : AS}, WA B σ → WA B (d_run n σ)
  | 0, _, hW => hW
  | n + 1, σ, hW => by
    unfold d_run
    split
    · rename_i h
      exact (hW.step h).run
    · exact hW
def AS.csum (σ : AS) : Nat := sumT σ.now.1 (fun k => (σ.now.2.2 k).1)
noncomputable def o_drift (σ : AS) (n : Int) : Int × AS := if 1 ≤ n ∧ n ≤ 30 then (if σ.laid then (((d_run n.toNat σ.rem).csum : Int), d_run n.toNat σ.rem) else (NOT_, σ)) else (OUT, σ)
theorem CR.csum {B : Nat} {σ : AS} {h : HH} (hW : WA B σ) (hC : CR σ h) : SpI mX9_crossingsOfAll [vr 3 1] h (σ.csum : Int) h := x_crossingsOfAll 1 _ _ h hC.now.1 hW.now.1 (fun k hk => (hC.now.2.2 k hk).1) (fun k hk => (hW.now.2.2 k hk).1)
theorem c_drift {B : Nat} {σ : AS} {h : HH} (hW : WA B σ) (hC : CR σ h) (n : Int) : Sp mX10_drift [vr 0 0, vi n] h (OP (o_drift σ n) h) := by
  by_cases hn : 1 ≤ n ∧ n ≤ 30
  · obtain ⟨m, rfl⟩ : ∃ m : Nat, n = (m : Int) := ⟨n.toNat, by omega⟩
    rw [show o_drift σ (m : Int) = _ from if_pos hn, Int.toNat_natCast]
    by_cases hl : σ.laid = true
    · rw [if_pos hl]
      have Lp : ∀ (d i : Nat) (τ : AS) (g : HH), i + d = m → WA B τ → CR τ g → FC h g → d_run d τ = d_run m σ.rem → AW mX10_drift (OP (((d_run m σ.rem).csum : Int), d_run m σ.rem) h) 37 [(2, vi i), (0, vr 0 0), (1, vi m)] [] g := by
        intro d
        induction d with
        | zero =>
          intro i τ g hi hWt hCt hfc he
          have he : τ = d_run m σ.rem := he
          subst he
          refine u_iloadn (k := 20) rfl rfl ?_
          refine u_iloadn (k := 21) rfl rfl ?_
          refine a_icmp_ge (k := 22) rfl (fun c_39 => ?_) (fun c_39 => ?_)
          · refine u_aloadn (k := 31) rfl rfl ?_
            refine a_getr (k := 32) rfl fRX10_26 rfl rfl rfl ?_
            refine i_virt0 (M' := mX9_crossingsOfAll) (k := 33) rfl lRX10_126 oX9_crossingsOfAll vX9_crossingsOfAll ⟨Nat.le_of_ble_eq_true rfl, Nat.le_of_ble_eq_true rfl⟩ rfl rfl (Nat.le_of_ble_eq_true rfl) (hCt.csum hWt) ?_
            refine a_ireturn (k := 34) rfl rfl ?_
            exact ⟨rfl, hCt, hfc⟩
          · omega
        | succ d ih =>
          intro i τ g hi hWt hCt hfc he
          by_cases h0 : 0 < τ.now.1
          · have he : d_run d (d_step τ) = d_run m σ.rem := by
              rw [← he]
              show _ = if 0 < τ.now.1 then d_run d (d_step τ) else τ
              rw [if_pos h0]
            refine u_iloadn (k := 20) rfl rfl ?_
            refine u_iloadn (k := 21) rfl rfl ?_
            refine a_icmp_ge (k := 22) rfl (fun c_39 => ?_) (fun c_39 => ?_)
            · omega
            · refine u_aloadn (k := 23) rfl rfl ?_
              refine a_getr (k := 24) rfl fRX10_26 rfl rfl rfl ?_
              refine a_geti (k := 25) rfl fRX10_120 rfl rfl ?_
              rw [hCt.now.1]
              refine a_if_le (k := 26) rfl (fun c_49 => ?_) (fun c_49 => ?_)
              · omega
              · refine u_aloadn (k := 27) rfl rfl ?_
                refine uv_virt0 (M' := mX10_driftOnce) (k := 28) rfl lRX10_232 oX10_driftOnce vX10_driftOnce ⟨Nat.le_of_ble_eq_true rfl, Nat.le_of_ble_eq_true rfl⟩ rfl rfl (Nat.le_of_ble_eq_true rfl) (x_driftOnce hWt hCt h0) (by intro r g hp; exact hp.1) (fun g2 hg2 => ?_)
                refine u_iinc (k := 29) (lv' := [(2, _), (0, _), (1, _)]) rfl rfl (Nat.le_of_ble_eq_true rfl) (by omega) rfl ?_
                refine a_goto (k := 30) rfl ?_
                exact ih (i + 1) (d_step τ) g2 (by omega) (hWt.step h0) hg2.2.1 (hfc.tr hg2.2.2) he
          · have he : τ = d_run m σ.rem := by
              rw [← he]
              show _ = if 0 < τ.now.1 then d_run d (d_step τ) else τ
              rw [if_neg h0]
            subst he
            refine u_iloadn (k := 20) rfl rfl ?_
            refine u_iloadn (k := 21) rfl rfl ?_
            refine a_icmp_ge (k := 22) rfl (fun c_39 => ?_) (fun c_39 => ?_)
            · omega
            · refine u_aloadn (k := 23) rfl rfl ?_
              refine a_getr (k := 24) rfl fRX10_26 rfl rfl rfl ?_
              refine a_geti (k := 25) rfl fRX10_120 rfl rfl ?_
              rw [hCt.now.1]
              refine a_if_le (k := 26) rfl (fun c_49 => ?_) (fun c_49 => ?_)
              · refine u_aloadn (k := 31) rfl rfl ?_
                refine a_getr (k := 32) rfl fRX10_26 rfl rfl rfl ?_
                refine i_virt0 (M' := mX9_crossingsOfAll) (k := 33) rfl lRX10_126 oX9_crossingsOfAll vX9_crossingsOfAll ⟨Nat.le_of_ble_eq_true rfl, Nat.le_of_ble_eq_true rfl⟩ rfl rfl (Nat.le_of_ble_eq_true rfl) (hCt.csum hWt) ?_
                refine a_ireturn (k := 34) rfl rfl ?_
                exact ⟨rfl, hCt, hfc⟩
              · omega
      refine Sp.of rfl kX10_drift (Nat.le_of_ble_eq_true rfl) ?_
      refine u_iloadn (k := 0) rfl rfl ?_
      refine a_iconst (k := 1) rfl ?_
      refine a_icmp_lt (k := 2) rfl (fun c_2 => ?_) (fun c_2 => ?_)
      · omega
      · refine u_iloadn (k := 3) rfl rfl ?_
        refine a_bipush (k := 4) rfl ?_
        refine a_icmp_le (k := 5) rfl (fun c_8 => ?_) (fun c_8 => ?_)
        · refine u_aloadn (k := 8) rfl rfl ?_
          refine a_geti (k := 9) rfl fRX10_108 rfl rfl ?_
          rw [hC.laid, hl]
          refine a_if_ne (k := 10) rfl (fun c_18 => ?_) (fun c_18 => ?_)
          · refine u_aloadn (k := 13) rfl rfl ?_
            refine a_getr (k := 14) rfl fRX10_33 rfl rfl rfl ?_
            refine u_aloadn (k := 15) rfl rfl ?_
            refine a_getr (k := 16) rfl fRX10_26 rfl rfl rfl ?_
            refine uv_virt1 (M' := mX2_remember) (k := 17) rfl lRX10_196 oX2_remember vX2_remember ⟨Nat.le_of_ble_eq_true rfl, Nat.le_of_ble_eq_true rfl⟩ rfl rfl (Nat.le_of_ble_eq_true rfl) (x_rem hW hC) (by intro r g hp; exact hp.1) (fun g hg => ?_)
            obtain ⟨-, hC1, -, -, hFC⟩ := hg
            refine a_iconst (k := 18) rfl ?_
            refine a_istoren (k := 19) (lv' := [(2, _), (0, _), (1, _)]) rfl (Nat.le_of_ble_eq_true rfl) rfl ?_
            exact Lp m 0 σ.rem g (by omega) hW.rem hC1 hFC rfl
          · exact absurd c_18 (by decide)
        · omega
    · rw [if_neg hl]
      refine Sp.of rfl kX10_drift (Nat.le_of_ble_eq_true rfl) ?_
      refine u_iloadn (k := 0) rfl rfl ?_
      refine a_iconst (k := 1) rfl ?_
      refine a_icmp_lt (k := 2) rfl (fun c_2 => ?_) (fun c_2 => ?_)
      · omega
      · refine u_iloadn (k := 3) rfl rfl ?_
        refine a_bipush (k := 4) rfl ?_
        refine a_icmp_le (k := 5) rfl (fun c_8 => ?_) (fun c_8 => ?_)
        · refine u_aloadn (k := 8) rfl rfl ?_
          refine a_geti (k := 9) rfl fRX10_108 rfl rfl ?_
          rw [hC.laid, show σ.laid = false by simpa using hl]
          refine a_if_ne (k := 10) rfl (fun c_18 => ?_) (fun c_18 => ?_)
          · exact absurd rfl c_18
          · refine a_ldc (k := 11) rfl nRX10_195 ⟨by decide, by decide⟩ ?_
            refine a_ireturn (k := 12) rfl rfl ?_
            exact ⟨rfl, hC, FC.rf⟩
        · omega
  · rw [show o_drift σ n = _ from if_neg hn]
    refine Sp.of rfl kX10_drift (Nat.le_of_ble_eq_true rfl) ?_
    refine u_iloadn (k := 0) rfl rfl ?_
    refine a_iconst (k := 1) rfl ?_
    refine a_icmp_lt (k := 2) rfl (fun c_2 => ?_) (fun c_2 => ?_)
    · refine a_ldc (k := 6) rfl nRX10_84 ⟨by decide, by decide⟩ ?_
      refine a_ireturn (k := 7) rfl rfl ?_
      exact ⟨rfl, hC, FC.rf⟩
    · refine u_iloadn (k := 3) rfl rfl ?_
      refine a_bipush (k := 4) rfl ?_
      refine a_icmp_le (k := 5) rfl (fun c_8 => ?_) (fun c_8 => ?_)
      · omega
      · refine a_ldc (k := 6) rfl nRX10_84 ⟨by decide, by decide⟩ ?_
        refine a_ireturn (k := 7) rfl rfl ?_
        exact ⟨rfl, hC, FC.rf⟩
def r_left (r : Rp) (W H : Nat) : Nat := lft r.2.2 r.1 W H 8 (2 ^ r.1 - 1)
theorem setT_min (p : Nat → Bool) (n k : Nat) (hk : k < n) : setT p (min (k + 1) n) = if p k then setT p (min k n) ||| 2 ^ k else setT p (min k n) := by
  rw [show min (k + 1) n = k + 1 by omega, show min k n = k by omega]
  rfl
def AS.outs (σ : AS) : Nat := setT (fun k => decide (r_left (σ.now.2.2 k) 0 (σ.now.2.2 k).2.1 = 0)) σ.now.1
theorem x_outs {B : Nat} {σ : AS} {h : HH} (hW : WA B σ) (hC : CR σ h) : Sp mX10_shakenOutOnes [vr 0 0] h (fun r g => r = some (vi (σ.outs : Int)) ∧ CR σ g ∧ FC h g) := by
  have h5 := hW.now.1
  refine Sp.of rfl kX10_shakenOutOnes (Nat.le_of_ble_eq_true rfl) ?_
  have Lp : ∀ (d k : Nat) (g : HH), k + d = 5 → CR σ g → FC h g → AW mX10_shakenOutOnes (fun r g => r = some (vi (σ.outs : Int)) ∧ CR σ g ∧ FC h g) 4 [(0, vr 0 0), (1, vi (setT (fun k => decide (r_left (σ.now.2.2 k) 0 (σ.now.2.2 k).2.1 = 0)) (min k σ.now.1) : Int)), (2, vi k)] [] g := by
    intro d
    induction d with
    | zero =>
      intro k g hk hC hfc
      refine u_iloadn (k := 4) rfl rfl ?_
      refine a_iconst (k := 5) rfl ?_
      refine a_icmp_ge (k := 6) rfl (fun c_6 => ?_) (fun c_6 => ?_)
      · refine u_iloadn (k := 32) rfl rfl ?_
        refine a_ireturn (k := 33) rfl rfl ?_
        exact ⟨by unfold AS.outs; rw [show min k σ.now.1 = σ.now.1 by omega], hC, hfc⟩
      · omega
    | succ d ih =>
      intro k g hk hC hfc
      by_cases hkn : k < σ.now.1
      · have hR := hC.RP hW hkn
        have hp := p8 hR.2.1
        have hs := setT_lt (fun k => decide (r_left (σ.now.2.2 k) 0 (σ.now.2.2 k).2.1 = 0)) (min k σ.now.1)
        have hs2 : 2 ^ min k σ.now.1 ≤ 2 ^ 5 := Nat.pow_le_pow_right (by omega) (by omega)
        have hk2 : 2 ^ k ≤ 2 ^ 5 := Nat.pow_le_pow_right (by omega) (by omega)
        have hst := setT_min (fun k => decide (r_left (σ.now.2.2 k) 0 (σ.now.2.2 k).2.1 = 0)) σ.now.1 k hkn
        refine u_iloadn (k := 4) rfl rfl ?_
        refine a_iconst (k := 5) rfl ?_
        refine a_icmp_ge (k := 6) rfl (fun c_6 => ?_) (fun c_6 => ?_)
        · omega
        · refine u_aloadn (k := 7) rfl rfl ?_
          refine a_getr (k := 8) rfl fRX10_26 rfl rfl rfl ?_
          refine u_iloadn (k := 9) rfl rfl ?_
          refine r_virt1 (M' := mX9_ropeOf) (k := 10) rfl lRX10_141 oX9_ropeOf vX9_ropeOf ⟨Nat.le_of_ble_eq_true rfl, Nat.le_of_ble_eq_true rfl⟩ rfl rfl (Nat.le_of_ble_eq_true rfl) (x_ropeOf 1 k g (hC.yes hkn) (by omega)) ?_
          refine a_astoren (k := 11) (lv' := [(3, _), (0, _), (1, _), (2, _)]) rfl (Nat.le_of_ble_eq_true rfl) rfl ?_
          refine u_aloadn (k := 12) rfl rfl ?_
          refine a_nullR (k := 13) rfl ?_
          refine u_aloadn (k := 14) rfl rfl ?_
          refine a_getr (k := 15) rfl fRX10_55 rfl rfl rfl ?_
          refine u_aloadn (k := 16) rfl rfl ?_
          refine u_aloadn (k := 17) rfl rfl ?_
          refine i_virt0 (M' := mX6_everyCrossing) (k := 18) rfl lRX10_216 oX6_everyCrossing vX6_everyCrossing ⟨Nat.le_of_ble_eq_true rfl, Nat.le_of_ble_eq_true rfl⟩ rfl rfl (Nat.le_of_ble_eq_true rfl) (x_every (5 + k) _ g hR.1 hR.2.1) ?_
          refine a_iconst (k := 19) rfl ?_
          refine u_aloadn (k := 20) rfl rfl ?_
          refine a_geti (k := 21) rfl fRX10_151 rfl rfl ?_
          rw [show g 5 (5 * 1 + k) 3 = ((σ.now.2.2 k).2.1 : Int) from hR.2.2.1]
          refine ui_virt4 (M' := mX3_leftOf) (k := 22) rfl lRX10_285 oX3_leftOf vX3_leftOf ⟨Nat.le_of_ble_eq_true rfl, Nat.le_of_ble_eq_true rfl⟩ rfl rfl (Nat.le_of_ble_eq_true rfl) (x_leftOf (5 + k) _ _ _ 0 _ _ g hR (show 2 ^ (σ.now.2.2 k).1 - 1 < 2 ^ 31 by omega) (by omega) (show (σ.now.2.2 k).2.1 < 2 ^ 31 by have := hR.2.2.2.1; omega)) (by intro r g hp; exact ⟨_, hp.1⟩) (fun r g2 hg2 => ?_)
          obtain ⟨hr, hF⟩ := hg2; cases hr
          refine a_if_ne (k := 23) rfl (fun c_39 => ?_) (fun c_39 => ?_)
          · refine u_iinc (k := 30) (lv' := [(2, _), (3, _), (0, _), (1, _)]) rfl rfl (Nat.le_of_ble_eq_true rfl) (by omega) rfl ?_
            refine a_goto (k := 31) rfl ?_
            refine a_sub [2, 3, 0] rfl ?_
            have := ih (k + 1) g2 (by omega) (hC.tml hW hF) (hfc.tr (FC_tml hF))
            rw [hst] at this
            first
              | (rw [if_pos (decide_eq_true (show r_left (σ.now.2.2 k) 0 (σ.now.2.2 k).2.1 = 0 from Int.ofNat.inj c_39))] at this; exact this)
              | (rw [if_neg (fun z => c_39 (congrArg Int.ofNat (show r_left (σ.now.2.2 k) 0 (σ.now.2.2 k).2.1 = 0 from of_decide_eq_true z)))] at this; exact this)
          · refine u_iloadn (k := 24) rfl rfl ?_
            refine a_iconst (k := 25) rfl ?_
            refine u_iloadn (k := 26) rfl rfl ?_
            refine a_ishl (k := 27) rfl ?_
            rw [shl1 (by omega)]
            refine a_ior (k := 28) rfl ?_
            rw [ior_nat (by omega) (by omega)]
            refine a_istoren (k := 29) (lv' := [(1, _), (3, _), (0, _), (2, _)]) rfl (Nat.le_of_ble_eq_true rfl) rfl ?_
            refine u_iinc (k := 30) (lv' := [(2, _), (1, _), (3, _), (0, _)]) rfl rfl (Nat.le_of_ble_eq_true rfl) (by omega) rfl ?_
            refine a_goto (k := 31) rfl ?_
            refine a_sub [3, 1, 0] rfl ?_
            have := ih (k + 1) g2 (by omega) (hC.tml hW hF) (hfc.tr (FC_tml hF))
            rw [hst] at this
            first
              | (rw [if_pos (decide_eq_true (show r_left (σ.now.2.2 k) 0 (σ.now.2.2 k).2.1 = 0 from Int.ofNat.inj c_39))] at this; exact this)
              | (rw [if_neg (fun z => c_39 (congrArg Int.ofNat (show r_left (σ.now.2.2 k) 0 (σ.now.2.2 k).2.1 = 0 from of_decide_eq_true z)))] at this; exact this)
      · refine u_iloadn (k := 4) rfl rfl ?_
        refine a_iconst (k := 5) rfl ?_
        refine a_icmp_ge (k := 6) rfl (fun c_6 => ?_) (fun c_6 => ?_)
        · omega
        · refine u_aloadn (k := 7) rfl rfl ?_
          refine a_getr (k := 8) rfl fRX10_26 rfl rfl rfl ?_
          refine u_iloadn (k := 9) rfl rfl ?_
          refine r_virt1 (M' := mX9_ropeOf) (k := 10) rfl lRX10_141 oX9_ropeOf vX9_ropeOf ⟨Nat.le_of_ble_eq_true rfl, Nat.le_of_ble_eq_true rfl⟩ rfl rfl (Nat.le_of_ble_eq_true rfl) (x_ropeNo 1 k g (hC.no (by omega))) ?_
          refine a_astorenN (k := 11) (lv' := [(3, _), (0, _), (1, _), (2, _)]) rfl (Nat.le_of_ble_eq_true rfl) rfl ?_
          refine u_aloadnN (k := 12) rfl rfl ?_
          refine a_nullN (k := 13) rfl ?_
          refine u_iinc (k := 30) (lv' := [(2, _), (3, _), (0, _), (1, _)]) rfl rfl (Nat.le_of_ble_eq_true rfl) (by omega) rfl ?_
          refine a_goto (k := 31) rfl ?_
          refine a_sub [2, 3, 0] rfl ?_
          have := ih (k + 1) g (by omega) hC hfc
          rw [show min (k + 1) σ.now.1 = min k σ.now.1 by omega] at this
          exact this
  refine a_iconst (k := 0) rfl ?_
  refine a_istoren (k := 1) (lv' := [(1, _), (0, _)]) rfl (Nat.le_of_ble_eq_true rfl) rfl ?_
  refine a_iconst (k := 2) rfl ?_
  refine a_istoren (k := 3) (lv' := [(2, _), (1, _), (0, _)]) rfl (Nat.le_of_ble_eq_true rfl) rfl ?_
  refine a_sub [2, 1, 0] rfl ?_
  have := Lp 5 0 h (by omega) hC FC.rf
  rw [show min 0 σ.now.1 = 0 by omega] at this
  exact this
def o_told (σ : AS) (w : Int) : Int × AS := (if w = 0 then (σ.now.1 : Int) else if w = 1 then (σ.L : Int) else if w = 2 then (σ.now.2.1 : Int) else if w = 3 then (σ.csum : Int) else if w = 4 then (sumT σ.now.1 (fun k => pc_ (σ.now.2.2 k).2.1) : Int) else if w = 5 then (setT (fun k => decide ((σ.now.2.2 k).1 = 0)) σ.now.1 : Int) else if w = 6 then (σ.outs : Int) else if w = 7 then (σ.ents : Int) else if w = 8 then (σ.cnt : Int) else OUT, σ)
theorem c_told {B : Nat} {σ : AS} {h : HH} (hW : WA B σ) (hC : CR σ h) (w : Int) : Sp mX10_told [vr 0 0, vi w] h (OP (o_told σ w) h) := by
  have fin : ∀ v : Int, (o_told σ w).1 = v → OP (o_told σ w) h (some (vi v)) h := fun v hv => ⟨by rw [hv], hC, FC.rf⟩
  refine Sp.of rfl kX10_told (Nat.le_of_ble_eq_true rfl) ?_
  refine u_iloadn (k := 0) rfl rfl ?_
  rcases (show (w < 0 ∨ 8 < w) ∨ w = 0 ∨ w = 1 ∨ w = 2 ∨ w = 3 ∨ w = 4 ∨ w = 5 ∨ w = 6 ∨ w = 7 ∨ w = 8 by omega) with c_1 | c_1 | c_1 | c_1 | c_1 | c_1 | c_1 | c_1 | c_1 | c_1
  · refine a_tabOut (k := 1) (t := 121) rfl c_1 (by decide) ?_
    refine a_ldc (k := 37) rfl nRX10_84 ⟨by decide, by decide⟩ ?_
    refine a_ireturn (k := 38) rfl rfl ?_
    refine fin _ ?_
    unfold o_told
    dsimp only
    rw [if_neg (by omega), if_neg (by omega), if_neg (by omega), if_neg (by omega), if_neg (by omega), if_neg (by omega), if_neg (by omega), if_neg (by omega), if_neg (by omega)]
  · refine a_tabIn (k := 1) (o := 51) (t := 52) rfl (by omega) (by omega) (by rw [c_1]; rfl) (by decide) ?_
    refine u_aloadn (k := 2) rfl rfl ?_
    refine a_getr (k := 3) rfl fRX10_26 rfl rfl rfl ?_
    refine a_geti (k := 4) rfl fRX10_120 rfl rfl ?_
    rw [hC.now.1]
    refine a_ireturn (k := 5) rfl rfl ?_
    exact fin _ (by subst c_1; rfl)
  · refine a_tabIn (k := 1) (o := 59) (t := 60) rfl (by omega) (by omega) (by rw [c_1]; rfl) (by decide) ?_
    refine u_aloadn (k := 6) rfl rfl ?_
    refine a_getr (k := 7) rfl fRX10_20 rfl rfl rfl ?_
    refine a_geti (k := 8) rfl fRX10_89 rfl rfl ?_
    rw [hC.L]
    refine a_ireturn (k := 9) rfl rfl ?_
    exact fin _ (by subst c_1; rfl)
  · refine a_tabIn (k := 1) (o := 67) (t := 68) rfl (by omega) (by omega) (by rw [c_1]; rfl) (by decide) ?_
    refine u_aloadn (k := 10) rfl rfl ?_
    refine a_getr (k := 11) rfl fRX10_26 rfl rfl rfl ?_
    refine a_geti (k := 12) rfl fRX10_123 rfl rfl ?_
    rw [hC.now.2.1]
    refine a_ireturn (k := 13) rfl rfl ?_
    exact fin _ (by subst c_1; rfl)
  · refine a_tabIn (k := 1) (o := 75) (t := 76) rfl (by omega) (by omega) (by rw [c_1]; rfl) (by decide) ?_
    refine u_aloadn (k := 14) rfl rfl ?_
    refine a_getr (k := 15) rfl fRX10_26 rfl rfl rfl ?_
    refine i_virt0 (M' := mX9_crossingsOfAll) (k := 16) rfl lRX10_126 oX9_crossingsOfAll vX9_crossingsOfAll ⟨Nat.le_of_ble_eq_true rfl, Nat.le_of_ble_eq_true rfl⟩ rfl rfl (Nat.le_of_ble_eq_true rfl) (hC.csum hW) ?_
    refine a_ireturn (k := 17) rfl rfl ?_
    exact fin _ (by subst c_1; rfl)
  · refine a_tabIn (k := 1) (o := 83) (t := 84) rfl (by omega) (by omega) (by rw [c_1]; rfl) (by decide) ?_
    refine u_aloadn (k := 18) rfl rfl ?_
    refine a_getr (k := 19) rfl fRX10_26 rfl rfl rfl ?_
    refine i_virt0 (M' := mX9_saltedOfAll) (k := 20) rfl lRX10_129 oX9_saltedOfAll vX9_saltedOfAll ⟨Nat.le_of_ble_eq_true rfl, Nat.le_of_ble_eq_true rfl⟩ rfl rfl (Nat.le_of_ble_eq_true rfl) (x_saltedOfAll 1 _ (fun k => (σ.now.2.2 k).2.1) h hC.now.1 hW.now.1 (fun k hk => (hC.now.2.2 k hk).2.1) (fun k hk => (hC.RP hW hk).2.2.2.1)) ?_
    refine a_ireturn (k := 21) rfl rfl ?_
    exact fin _ (by subst c_1; rfl)
  · refine a_tabIn (k := 1) (o := 91) (t := 92) rfl (by omega) (by omega) (by rw [c_1]; rfl) (by decide) ?_
    refine u_aloadn (k := 22) rfl rfl ?_
    refine a_getr (k := 23) rfl fRX10_26 rfl rfl rfl ?_
    refine i_virt0 (M' := mX9_plainOnes) (k := 24) rfl lRX10_132 oX9_plainOnes vX9_plainOnes ⟨Nat.le_of_ble_eq_true rfl, Nat.le_of_ble_eq_true rfl⟩ rfl rfl (Nat.le_of_ble_eq_true rfl) (x_plainOnes 1 _ (fun k => (σ.now.2.2 k).1) h hC.now.1 hW.now.1 (fun k hk => (hC.now.2.2 k hk).1)) ?_
    refine a_ireturn (k := 25) rfl rfl ?_
    exact fin _ (by subst c_1; rfl)
  · refine a_tabIn (k := 1) (o := 99) (t := 100) rfl (by omega) (by omega) (by rw [c_1]; rfl) (by decide) ?_
    refine u_aloadn (k := 26) rfl rfl ?_
    refine ui_virt0 (M' := mX10_shakenOutOnes) (k := 27) rfl lRX10_135 oX10_shakenOutOnes vX10_shakenOutOnes ⟨Nat.le_of_ble_eq_true rfl, Nat.le_of_ble_eq_true rfl⟩ rfl rfl (Nat.le_of_ble_eq_true rfl) (x_outs hW hC) (by intro r g hp; exact ⟨_, hp.1⟩) (fun r g hg => ?_)
    obtain ⟨hr, hC2, hfc⟩ := hg; cases hr
    refine a_ireturn (k := 28) rfl rfl ?_
    subst c_1; exact ⟨rfl, hC2, hfc⟩
  · refine a_tabIn (k := 1) (o := 104) (t := 105) rfl (by omega) (by omega) (by rw [c_1]; rfl) (by decide) ?_
    refine u_aloadn (k := 29) rfl rfl ?_
    refine a_getr (k := 30) rfl fRX10_48 rfl rfl rfl ?_
    refine a_geti (k := 31) rfl fRX10_111 rfl rfl ?_
    rw [hC.ents]
    refine a_ireturn (k := 32) rfl rfl ?_
    exact fin _ (by subst c_1; rfl)
  · refine a_tabIn (k := 1) (o := 112) (t := 113) rfl (by omega) (by omega) (by rw [c_1]; rfl) (by decide) ?_
    refine u_aloadn (k := 33) rfl rfl ?_
    refine a_getr (k := 34) rfl fRX10_33 rfl rfl rfl ?_
    refine a_geti (k := 35) rfl fRX10_138 rfl rfl ?_
    rw [hC.cnt]
    refine a_ireturn (k := 36) rfl rfl ?_
    exact fin _ (by subst c_1; rfl)
