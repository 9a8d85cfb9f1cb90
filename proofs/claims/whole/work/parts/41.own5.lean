def o_shake (σ : AS) (k c d : Int) : Int × AS := σ.on k fun q => if (0 ≤ c ∧ c < ((σ.now.2.2 q).1 : Int)) ∧ (0 ≤ d ∧ d < ((σ.now.2.2 q).1 : Int)) then (if 10 * min c.toNat d.toNat + max c.toNat d.toNat ∈ r_mls (σ.now.2.2 q) then (((r_take (σ.now.2.2 q) (2 ^ c.toNat ||| 2 ^ d.toNat)).1 : Int), σ.rem.setR q (r_take (σ.now.2.2 q) (2 ^ c.toNat ||| 2 ^ d.toNat))) else (NOT_, σ)) else (UNK, σ)
theorem c_shake {B : Nat} {σ : AS} {h : HH} (hW : WA B σ) (hC : CR σ h) (k c d : Int) : Sp mX10_shake [vr 0 0, vi k, vi c, vi d] h (OP (o_shake σ k c d) h) := by
  rcases kcase k σ.now.1 with hk | ⟨q, rfl, hk⟩
  · rw [show o_shake σ k c d = _ from on_no hk]
    refine Sp.of rfl kX10_shake (Nat.le_of_ble_eq_true rfl) ?_
    refine u_aloadn (k := 0) rfl rfl ?_
    refine a_getr (k := 1) rfl fRX10_26 rfl rfl rfl ?_
    refine u_iloadn (k := 2) rfl rfl ?_
    refine r_virt1 (M' := mX9_ropeOf) (k := 3) rfl lRX10_141 oX9_ropeOf vX9_ropeOf ⟨Nat.le_of_ble_eq_true rfl, Nat.le_of_ble_eq_true rfl⟩ rfl rfl (Nat.le_of_ble_eq_true rfl) (x_ropeNo 1 k h (hC.no hk)) ?_
    refine a_astoreNl (k := 4) (lv' := [(4, _), (0, _), (1, _), (2, _), (3, _)]) rfl (Nat.le_of_ble_eq_true rfl) rfl ?_
    refine u_aloadN (k := 5) rfl rfl ?_
    refine a_nullN (k := 6) rfl ?_
    refine a_ldc (k := 15) rfl nRX10_145 ⟨by decide, by decide⟩ ?_
    refine a_ireturn (k := 16) rfl rfl ?_
    exact ⟨rfl, hC, FC.rf⟩
  · have h5 : q < 5 := by have := hW.now.1; omega
    have h8 := (hW.now.2.2 q hk).1
    have hR0 := hC.RP hW hk
    rw [show o_shake σ (q : Int) c d = _ from on_yes hk]
    by_cases hcd : (0 ≤ c ∧ c < ((σ.now.2.2 q).1 : Int)) ∧ (0 ≤ d ∧ d < ((σ.now.2.2 q).1 : Int))
    · obtain ⟨a, rfl⟩ : ∃ a : Nat, c = (a : Int) := ⟨c.toNat, by omega⟩
      obtain ⟨b, rfl⟩ : ∃ b : Nat, d = (b : Int) := ⟨d.toNat, by omega⟩
      have ha : a < 8 := by omega
      have hb : b < 8 := by omega
      have pa_ : (2 ^ a : Nat) < 2 ^ 31 := Nat.pow_lt_pow_right (by omega) (by omega)
      have pb_ : (2 ^ b : Nat) < 2 ^ 31 := Nat.pow_lt_pow_right (by omega) (by omega)
      rw [if_pos hcd, Int.toNat_natCast, Int.toNat_natCast]
      have key : ∀ g : HH, LK (σ.now.2.2 q).2.2 (σ.now.2.2 q).1 (2 ^ (σ.now.2.2 q).1 - 1) 0 (σ.now.2.2 q).2.1 g → Fr tml [] h g → AW mX10_shake (OP (if 10 * min a b + max a b ∈ r_mls (σ.now.2.2 q) then (((r_take (σ.now.2.2 q) (2 ^ a ||| 2 ^ b)).1 : Int), σ.rem.setR q (r_take (σ.now.2.2 q) (2 ^ a ||| 2 ^ b))) else (NOT_, σ)) h) 63 [(4, vr 5 (5 * 1 + q)), (0, vr 0 0), (1, vi q), (2, vi a), (3, vi b)] [vi ((10 * min a b + max a b : Nat) : Int), vr 17 0] g := by
        intro g hL hF
        have hC' := hC.tml hW hF
        by_cases hm : 10 * min a b + max a b ∈ r_mls (σ.now.2.2 q)
        · rw [if_pos hm]
          refine i_virt1 (M' := mX3_contains) (k := 32) rfl lRX10_192 oX3_contains vX3_contains ⟨Nat.le_of_ble_eq_true rfl, Nat.le_of_ble_eq_true rfl⟩ rfl rfl (Nat.le_of_ble_eq_true rfl) (x_contains (r_mls (σ.now.2.2 q)) _ g hL.1 (mls_len _ _ _ _ _)) ?_
          refine a_if_ne (k := 33) rfl (fun c_66 => ?_) (fun c_66 => ?_)
          · refine u_aloadn (k := 36) rfl rfl ?_
            refine a_getr (k := 37) rfl fRX10_33 rfl rfl rfl ?_
            refine u_aloadn (k := 38) rfl rfl ?_
            refine a_getr (k := 39) rfl fRX10_26 rfl rfl rfl ?_
            refine uv_virt1 (M' := mX2_remember) (k := 40) rfl lRX10_196 oX2_remember vX2_remember ⟨Nat.le_of_ble_eq_true rfl, Nat.le_of_ble_eq_true rfl⟩ rfl rfl (Nat.le_of_ble_eq_true rfl) (x_rem hW hC') (by intro r g hp; exact hp.1) (fun g1 hg => ?_)
            obtain ⟨-, hC1, -, -, hFC⟩ := hg; have hR := hC1.RP hW.rem hk
            refine u_aload (k := 41) rfl rfl ?_
            refine a_iconst (k := 42) rfl ?_
            refine u_iloadn (k := 43) rfl rfl ?_
            refine a_ishl (k := 44) rfl ?_
            refine a_iconst (k := 45) rfl ?_
            refine u_iloadn (k := 46) rfl rfl ?_
            refine a_ishl (k := 47) rfl ?_
            rw [shl1 (by omega), shl1 (by omega)]
            refine a_ior (k := 48) rfl ?_
            rw [ior_nat pa_ pb_]
            refine uv_virt1 (M' := mX6_takeAway) (k := 49) rfl lRX10_199 oX6_takeAway vX6_takeAway ⟨Nat.le_of_ble_eq_true rfl, Nat.le_of_ble_eq_true rfl⟩ rfl rfl (Nat.le_of_ble_eq_true rfl) (x_takeAway (5 + q) _ _ (2 ^ a ||| 2 ^ b) _ g1 hR.1 hR.2.1 hR.2.2.1 hR.2.2.2.1 hR.2.2.2.2.1 hR.2.2.2.2.2 (Nat.or_lt_two_pow pa_ pb_)) (by intro r g hp; exact hp.1) (fun g2 hg2 => ?_)
            obtain ⟨-, hN, hF2⟩ := hg2
            refine u_aload (k := 50) rfl rfl ?_
            refine a_geti (k := 51) rfl fRX10_146 rfl rfl ?_
            rw [hN.1]
            refine a_ireturn (k := 52) rfl rfl ?_
            exact ⟨rfl, hC1.rope hW.rem hk hF2 (hT4 q) (by simp) hN, ((FC_tml hF).tr hFC).tr (FC4 hF2)⟩
          · rw [if_pos hm] at c_66; omega
        · rw [if_neg hm]
          refine i_virt1 (M' := mX3_contains) (k := 32) rfl lRX10_192 oX3_contains vX3_contains ⟨Nat.le_of_ble_eq_true rfl, Nat.le_of_ble_eq_true rfl⟩ rfl rfl (Nat.le_of_ble_eq_true rfl) (x_contains (r_mls (σ.now.2.2 q)) _ g hL.1 (mls_len _ _ _ _ _)) ?_
          refine a_if_ne (k := 33) rfl (fun c_66 => ?_) (fun c_66 => ?_)
          · rw [if_neg hm] at c_66; omega
          · refine a_ldc (k := 34) rfl nRX10_195 ⟨by decide, by decide⟩ ?_
            refine a_ireturn (k := 35) rfl rfl ?_
            exact ⟨rfl, hC', FC_tml hF⟩
      refine Sp.of rfl kX10_shake (Nat.le_of_ble_eq_true rfl) ?_
      refine u_aloadn (k := 0) rfl rfl ?_
      refine a_getr (k := 1) rfl fRX10_26 rfl rfl rfl ?_
      refine u_iloadn (k := 2) rfl rfl ?_
      refine r_virt1 (M' := mX9_ropeOf) (k := 3) rfl lRX10_141 oX9_ropeOf vX9_ropeOf ⟨Nat.le_of_ble_eq_true rfl, Nat.le_of_ble_eq_true rfl⟩ rfl rfl (Nat.le_of_ble_eq_true rfl) (x_ropeOf 1 q h (hC.yes hk) h5) ?_
      refine a_astore (k := 4) (lv' := [(4, _), (0, _), (1, _), (2, _), (3, _)]) rfl (Nat.le_of_ble_eq_true rfl) rfl ?_
      refine u_aload (k := 5) rfl rfl ?_
      refine a_nullR (k := 6) rfl ?_
      refine u_aload (k := 7) rfl rfl ?_
      refine u_iloadn (k := 8) rfl rfl ?_
      refine i_virt1 (M' := mX6_has) (k := 9) rfl lRX10_180 oX6_has vX6_has ⟨Nat.le_of_ble_eq_true rfl, Nat.le_of_ble_eq_true rfl⟩ rfl rfl (Nat.le_of_ble_eq_true rfl) (x_has (5 + q) _ a h hR0.1) ?_
      refine a_if_eq (k := 10) rfl (fun c_21 => ?_) (fun c_21 => ?_)
      · rw [if_pos hcd.1] at c_21; omega
      · refine u_aload (k := 11) rfl rfl ?_
        refine u_iloadn (k := 12) rfl rfl ?_
        refine i_virt1 (M' := mX6_has) (k := 13) rfl lRX10_180 oX6_has vX6_has ⟨Nat.le_of_ble_eq_true rfl, Nat.le_of_ble_eq_true rfl⟩ rfl rfl (Nat.le_of_ble_eq_true rfl) (x_has (5 + q) _ b h hR0.1) ?_
        refine a_if_ne (k := 14) rfl (fun c_30 => ?_) (fun c_30 => ?_)
        · refine u_aloadn (k := 17) rfl rfl ?_
          refine a_getr (k := 18) rfl fRX10_55 rfl rfl rfl ?_
          refine u_aload (k := 19) rfl rfl ?_
          refine uv_virt1 (M' := mX3_lookNow) (k := 20) rfl lRX10_172 oX3_lookNow vX3_lookNow ⟨Nat.le_of_ble_eq_true rfl, Nat.le_of_ble_eq_true rfl⟩ rfl rfl (Nat.le_of_ble_eq_true rfl) (x_lookNow (5 + q) _ _ _ h hR0) (by intro r g hp; exact hp.1) (fun g hg => ?_)
          obtain ⟨-, hL, hF⟩ := hg
          refine u_aloadn (k := 21) rfl rfl ?_
          refine a_getr (k := 22) rfl fRX10_55 rfl rfl rfl ?_
          refine a_bipush (k := 23) rfl ?_
          refine u_iloadn (k := 24) rfl rfl ?_
          refine u_iloadn (k := 25) rfl rfl ?_
          refine i_stat2 (M' := mJ9_min_7cf53) (k := 26) rfl lRX10_183 oJ9_min_7cf53 vJ9_min_7cf53 ⟨Nat.le_of_ble_eq_true rfl, Nat.le_of_ble_eq_true rfl⟩ rfl (Nat.le_of_ble_eq_true rfl) (x_min a b g) ?_
          refine u_imul (k := 27) rfl (by split <;> omega) ?_
          refine u_iloadn (k := 28) rfl rfl ?_
          refine u_iloadn (k := 29) rfl rfl ?_
          refine i_stat2 (M' := mJ9_max_7cf53) (k := 30) rfl lRX10_189 oJ9_max_7cf53 vJ9_max_7cf53 ⟨Nat.le_of_ble_eq_true rfl, Nat.le_of_ble_eq_true rfl⟩ rfl (Nat.le_of_ble_eq_true rfl) (x_max a b g) ?_
          refine u_iadd (k := 31) rfl (by split <;> split <;> omega) ?_
          have := key g hL hF
          rw [show ((10 * min a b + max a b : Nat) : Int) = 10 * (if (a : Int) ≤ b then (a : Int) else b) + (if (b : Int) ≤ a then (a : Int) else b) by split <;> split <;> omega] at this
          exact this
        · rw [if_pos hcd.2] at c_30; omega
    · rw [if_neg hcd]
      refine Sp.of rfl kX10_shake (Nat.le_of_ble_eq_true rfl) ?_
      refine u_aloadn (k := 0) rfl rfl ?_
      refine a_getr (k := 1) rfl fRX10_26 rfl rfl rfl ?_
      refine u_iloadn (k := 2) rfl rfl ?_
      refine r_virt1 (M' := mX9_ropeOf) (k := 3) rfl lRX10_141 oX9_ropeOf vX9_ropeOf ⟨Nat.le_of_ble_eq_true rfl, Nat.le_of_ble_eq_true rfl⟩ rfl rfl (Nat.le_of_ble_eq_true rfl) (x_ropeOf 1 q h (hC.yes hk) h5) ?_
      refine a_astore (k := 4) (lv' := [(4, _), (0, _), (1, _), (2, _), (3, _)]) rfl (Nat.le_of_ble_eq_true rfl) rfl ?_
      refine u_aload (k := 5) rfl rfl ?_
      refine a_nullR (k := 6) rfl ?_
      refine u_aload (k := 7) rfl rfl ?_
      refine u_iloadn (k := 8) rfl rfl ?_
      refine i_virt1 (M' := mX6_has) (k := 9) rfl lRX10_180 oX6_has vX6_has ⟨Nat.le_of_ble_eq_true rfl, Nat.le_of_ble_eq_true rfl⟩ rfl rfl (Nat.le_of_ble_eq_true rfl) (x_has (5 + q) _ c h hR0.1) ?_
      refine a_if_eq (k := 10) rfl (fun c_21 => ?_) (fun c_21 => ?_)
      · refine a_ldc (k := 15) rfl nRX10_145 ⟨by decide, by decide⟩ ?_
        refine a_ireturn (k := 16) rfl rfl ?_
        exact ⟨rfl, hC, FC.rf⟩
      · refine u_aload (k := 11) rfl rfl ?_
        refine u_iloadn (k := 12) rfl rfl ?_
        refine i_virt1 (M' := mX6_has) (k := 13) rfl lRX10_180 oX6_has vX6_has ⟨Nat.le_of_ble_eq_true rfl, Nat.le_of_ble_eq_true rfl⟩ rfl rfl (Nat.le_of_ble_eq_true rfl) (x_has (5 + q) _ d h hR0.1) ?_
        refine a_if_ne (k := 14) rfl (fun c_30 => ?_) (fun c_30 => ?_)
        · exfalso; apply hcd; constructor; (exact Classical.byContradiction (fun z => by rw [if_neg z] at c_21; omega)); (exact Classical.byContradiction (fun z => by rw [if_neg z] at c_30; omega))
        · refine a_ldc (k := 15) rfl nRX10_145 ⟨by decide, by decide⟩ ?_
          refine a_ireturn (k := 16) rfl rfl ?_
          exact ⟨rfl, hC, FC.rf⟩
def o_join (σ : AS) (k q : Int) : Int × AS := σ.two k q fun a b => if (σ.now.2.2 a).1 + (σ.now.2.2 b).1 ≤ 8 then ((((σ.now.2.2 a).1 + (σ.now.2.2 b).1 : Nat) : Int), (σ.rem.setR a (r_app (σ.now.2.2 a) (σ.now.2.2 b))).setR b r_plain) else (FUL, σ)
theorem c_join {B : Nat} {σ : AS} {h : HH} (hW : WA B σ) (hC : CR σ h) (k q : Int) : Sp mX10_join [vr 0 0, vi k, vi q] h (OP (o_join σ k q) h) := by
  rcases kcase k σ.now.1 with hk | ⟨a, rfl, hk⟩
  · rw [show o_join σ k q = (UNK, σ) from if_neg (by omega)]
    rcases kcase q σ.now.1 with hq | ⟨b, rfl, hq⟩
    · show Sp mX10_join _ h _
      refine Sp.of rfl kX10_join (Nat.le_of_ble_eq_true rfl) ?_
      refine u_aloadn (k := 0) rfl rfl ?_
      refine a_getr (k := 1) rfl fRX10_26 rfl rfl rfl ?_
      refine u_iloadn (k := 2) rfl rfl ?_
      refine r_virt1 (M' := mX9_ropeOf) (k := 3) rfl lRX10_141 oX9_ropeOf vX9_ropeOf ⟨Nat.le_of_ble_eq_true rfl, Nat.le_of_ble_eq_true rfl⟩ rfl rfl (Nat.le_of_ble_eq_true rfl) (x_ropeNo 1 k h (hC.no hk)) ?_
      refine a_astorenN (k := 4) (lv' := [(3, _), (0, _), (1, _), (2, _)]) rfl (Nat.le_of_ble_eq_true rfl) rfl ?_
      refine u_aloadn (k := 5) rfl rfl ?_
      refine a_getr (k := 6) rfl fRX10_26 rfl rfl rfl ?_
      refine u_iloadn (k := 7) rfl rfl ?_
      refine r_virt1 (M' := mX9_ropeOf) (k := 8) rfl lRX10_141 oX9_ropeOf vX9_ropeOf ⟨Nat.le_of_ble_eq_true rfl, Nat.le_of_ble_eq_true rfl⟩ rfl rfl (Nat.le_of_ble_eq_true rfl) (x_ropeNo 1 q h (hC.no hq)) ?_
      refine a_astoreNl (k := 9) (lv' := [(4, _), (3, _), (0, _), (1, _), (2, _)]) rfl (Nat.le_of_ble_eq_true rfl) rfl ?_
      refine u_aloadnN (k := 10) rfl rfl ?_
      refine a_nullN (k := 11) rfl ?_
      refine a_ldc (k := 17) rfl nRX10_145 ⟨by decide, by decide⟩ ?_
      refine a_ireturn (k := 18) rfl rfl ?_
      exact ⟨rfl, hC, FC.rf⟩
    · show Sp mX10_join _ h _
      refine Sp.of rfl kX10_join (Nat.le_of_ble_eq_true rfl) ?_
      refine u_aloadn (k := 0) rfl rfl ?_
      refine a_getr (k := 1) rfl fRX10_26 rfl rfl rfl ?_
      refine u_iloadn (k := 2) rfl rfl ?_
      refine r_virt1 (M' := mX9_ropeOf) (k := 3) rfl lRX10_141 oX9_ropeOf vX9_ropeOf ⟨Nat.le_of_ble_eq_true rfl, Nat.le_of_ble_eq_true rfl⟩ rfl rfl (Nat.le_of_ble_eq_true rfl) (x_ropeNo 1 k h (hC.no hk)) ?_
      refine a_astorenN (k := 4) (lv' := [(3, _), (0, _), (1, _), (2, _)]) rfl (Nat.le_of_ble_eq_true rfl) rfl ?_
      refine u_aloadn (k := 5) rfl rfl ?_
      refine a_getr (k := 6) rfl fRX10_26 rfl rfl rfl ?_
      refine u_iloadn (k := 7) rfl rfl ?_
      refine r_virt1 (M' := mX9_ropeOf) (k := 8) rfl lRX10_141 oX9_ropeOf vX9_ropeOf ⟨Nat.le_of_ble_eq_true rfl, Nat.le_of_ble_eq_true rfl⟩ rfl rfl (Nat.le_of_ble_eq_true rfl) (x_ropeOf 1 b h (hC.yes hq) (by have := hW.now.1; omega)) ?_
      refine a_astore (k := 9) (lv' := [(4, _), (3, _), (0, _), (1, _), (2, _)]) rfl (Nat.le_of_ble_eq_true rfl) rfl ?_
      refine u_aloadnN (k := 10) rfl rfl ?_
      refine a_nullN (k := 11) rfl ?_
      refine a_ldc (k := 17) rfl nRX10_145 ⟨by decide, by decide⟩ ?_
      refine a_ireturn (k := 18) rfl rfl ?_
      exact ⟨rfl, hC, FC.rf⟩
  · rcases kcase q σ.now.1 with hq | ⟨b, rfl, hq⟩
    · rw [show o_join σ (a : Int) q = (UNK, σ) from if_neg (by omega)]
      refine Sp.of rfl kX10_join (Nat.le_of_ble_eq_true rfl) ?_
      refine u_aloadn (k := 0) rfl rfl ?_
      refine a_getr (k := 1) rfl fRX10_26 rfl rfl rfl ?_
      refine u_iloadn (k := 2) rfl rfl ?_
      refine r_virt1 (M' := mX9_ropeOf) (k := 3) rfl lRX10_141 oX9_ropeOf vX9_ropeOf ⟨Nat.le_of_ble_eq_true rfl, Nat.le_of_ble_eq_true rfl⟩ rfl rfl (Nat.le_of_ble_eq_true rfl) (x_ropeOf 1 a h (hC.yes hk) (by have := hW.now.1; omega)) ?_
      refine a_astoren (k := 4) (lv' := [(3, _), (0, _), (1, _), (2, _)]) rfl (Nat.le_of_ble_eq_true rfl) rfl ?_
      refine u_aloadn (k := 5) rfl rfl ?_
      refine a_getr (k := 6) rfl fRX10_26 rfl rfl rfl ?_
      refine u_iloadn (k := 7) rfl rfl ?_
      refine r_virt1 (M' := mX9_ropeOf) (k := 8) rfl lRX10_141 oX9_ropeOf vX9_ropeOf ⟨Nat.le_of_ble_eq_true rfl, Nat.le_of_ble_eq_true rfl⟩ rfl rfl (Nat.le_of_ble_eq_true rfl) (x_ropeNo 1 q h (hC.no hq)) ?_
      refine a_astoreNl (k := 9) (lv' := [(4, _), (3, _), (0, _), (1, _), (2, _)]) rfl (Nat.le_of_ble_eq_true rfl) rfl ?_
      refine u_aloadn (k := 10) rfl rfl ?_
      refine a_nullR (k := 11) rfl ?_
      refine u_aloadN (k := 12) rfl rfl ?_
      refine a_nullN (k := 13) rfl ?_
      refine a_ldc (k := 17) rfl nRX10_145 ⟨by decide, by decide⟩ ?_
      refine a_ireturn (k := 18) rfl rfl ?_
      exact ⟨rfl, hC, FC.rf⟩
    · by_cases hab : a = b
      · rw [show o_join σ (a : Int) (b : Int) = (UNK, σ) from if_neg (by omega)]
        refine Sp.of rfl kX10_join (Nat.le_of_ble_eq_true rfl) ?_
        refine u_aloadn (k := 0) rfl rfl ?_
        refine a_getr (k := 1) rfl fRX10_26 rfl rfl rfl ?_
        refine u_iloadn (k := 2) rfl rfl ?_
        refine r_virt1 (M' := mX9_ropeOf) (k := 3) rfl lRX10_141 oX9_ropeOf vX9_ropeOf ⟨Nat.le_of_ble_eq_true rfl, Nat.le_of_ble_eq_true rfl⟩ rfl rfl (Nat.le_of_ble_eq_true rfl) (x_ropeOf 1 a h (hC.yes hk) (by have := hW.now.1; omega)) ?_
        refine a_astoren (k := 4) (lv' := [(3, _), (0, _), (1, _), (2, _)]) rfl (Nat.le_of_ble_eq_true rfl) rfl ?_
        refine u_aloadn (k := 5) rfl rfl ?_
        refine a_getr (k := 6) rfl fRX10_26 rfl rfl rfl ?_
        refine u_iloadn (k := 7) rfl rfl ?_
        refine r_virt1 (M' := mX9_ropeOf) (k := 8) rfl lRX10_141 oX9_ropeOf vX9_ropeOf ⟨Nat.le_of_ble_eq_true rfl, Nat.le_of_ble_eq_true rfl⟩ rfl rfl (Nat.le_of_ble_eq_true rfl) (x_ropeOf 1 b h (hC.yes hq) (by have := hW.now.1; omega)) ?_
        refine a_astore (k := 9) (lv' := [(4, _), (3, _), (0, _), (1, _), (2, _)]) rfl (Nat.le_of_ble_eq_true rfl) rfl ?_
        refine u_aloadn (k := 10) rfl rfl ?_
        refine a_nullR (k := 11) rfl ?_
        refine u_aload (k := 12) rfl rfl ?_
        refine a_nullR (k := 13) rfl ?_
        refine u_iloadn (k := 14) rfl rfl ?_
        refine u_iloadn (k := 15) rfl rfl ?_
        refine a_icmp_ne (k := 16) rfl (fun c_30 => ?_) (fun c_30 => ?_)
        · omega
        · refine a_ldc (k := 17) rfl nRX10_145 ⟨by decide, by decide⟩ ?_
          refine a_ireturn (k := 18) rfl rfl ?_
          exact ⟨rfl, hC, FC.rf⟩
      · have hR := hC.RP hW hk
        have hR2 := hC.RP hW hq
        have h81 := hR.2.1
        have h82 := hR2.2.1
        rw [show o_join σ (a : Int) (b : Int) = _ from two_yes hk hq hab]
        by_cases hc : (σ.now.2.2 a).1 + (σ.now.2.2 b).1 ≤ 8
        · rw [if_pos hc]
          refine Sp.of rfl kX10_join (Nat.le_of_ble_eq_true rfl) ?_
          refine u_aloadn (k := 0) rfl rfl ?_
          refine a_getr (k := 1) rfl fRX10_26 rfl rfl rfl ?_
          refine u_iloadn (k := 2) rfl rfl ?_
          refine r_virt1 (M' := mX9_ropeOf) (k := 3) rfl lRX10_141 oX9_ropeOf vX9_ropeOf ⟨Nat.le_of_ble_eq_true rfl, Nat.le_of_ble_eq_true rfl⟩ rfl rfl (Nat.le_of_ble_eq_true rfl) (x_ropeOf 1 a h (hC.yes hk) (by have := hW.now.1; omega)) ?_
          refine a_astoren (k := 4) (lv' := [(3, _), (0, _), (1, _), (2, _)]) rfl (Nat.le_of_ble_eq_true rfl) rfl ?_
          refine u_aloadn (k := 5) rfl rfl ?_
          refine a_getr (k := 6) rfl fRX10_26 rfl rfl rfl ?_
          refine u_iloadn (k := 7) rfl rfl ?_
          refine r_virt1 (M' := mX9_ropeOf) (k := 8) rfl lRX10_141 oX9_ropeOf vX9_ropeOf ⟨Nat.le_of_ble_eq_true rfl, Nat.le_of_ble_eq_true rfl⟩ rfl rfl (Nat.le_of_ble_eq_true rfl) (x_ropeOf 1 b h (hC.yes hq) (by have := hW.now.1; omega)) ?_
          refine a_astore (k := 9) (lv' := [(4, _), (3, _), (0, _), (1, _), (2, _)]) rfl (Nat.le_of_ble_eq_true rfl) rfl ?_
          refine u_aloadn (k := 10) rfl rfl ?_
          refine a_nullR (k := 11) rfl ?_
          refine u_aload (k := 12) rfl rfl ?_
          refine a_nullR (k := 13) rfl ?_
          refine u_iloadn (k := 14) rfl rfl ?_
          refine u_iloadn (k := 15) rfl rfl ?_
          refine a_icmp_ne (k := 16) rfl (fun c_30 => ?_) (fun c_30 => ?_)
          · refine u_aloadn (k := 19) rfl rfl ?_
            refine a_geti (k := 20) rfl fRX10_146 rfl rfl ?_
            refine u_aload (k := 21) rfl rfl ?_
            refine a_geti (k := 22) rfl fRX10_146 rfl rfl ?_
            rw [show h 5 (5 * 1 + a) 2 = ((σ.now.2.2 a).1 : Int) from hR.1, show h 5 (5 * 1 + b) 2 = ((σ.now.2.2 b).1 : Int) from hR2.1]
            refine u_iadd (k := 23) rfl (by omega) ?_
            refine a_bipush (k := 24) rfl ?_
            refine a_icmp_le (k := 25) rfl (fun c_48 => ?_) (fun c_48 => ?_)
            · refine u_aloadn (k := 28) rfl rfl ?_
              refine a_getr (k := 29) rfl fRX10_33 rfl rfl rfl ?_
              refine u_aloadn (k := 30) rfl rfl ?_
              refine a_getr (k := 31) rfl fRX10_26 rfl rfl rfl ?_
              refine uv_virt1 (M' := mX2_remember) (k := 32) rfl lRX10_196 oX2_remember vX2_remember ⟨Nat.le_of_ble_eq_true rfl, Nat.le_of_ble_eq_true rfl⟩ rfl rfl (Nat.le_of_ble_eq_true rfl) (x_rem hW hC) (by intro r g hp; exact hp.1) (fun g hg => ?_)
              obtain ⟨-, hC1, -, -, hFC⟩ := hg; have hA := hC1.RP hW.rem hk; have hB := hC1.RP hW.rem hq
              refine u_aloadn (k := 33) rfl rfl ?_
              refine u_aload (k := 34) rfl rfl ?_
              refine uv_virt1 (M' := mX6_append) (k := 35) rfl lRX10_222 oX6_append vX6_append ⟨Nat.le_of_ble_eq_true rfl, Nat.le_of_ble_eq_true rfl⟩ rfl rfl (Nat.le_of_ble_eq_true rfl) (x_append (5 + a) _ _ (5 + b) _ _ _ _ g (by omega) hA.1 hA.2.2.1 hA.2.2.2.1 hA.2.2.2.2.1 hB.1 hc hB.2.2.1 hB.2.2.2.1 hB.2.2.2.2.1 hB.2.2.2.2.2) (by intro r g hp; exact hp.1) (fun g2 hg2 => ?_)
              obtain ⟨-, n1, n2, n3, hF⟩ := hg2
              refine u_aload (k := 36) rfl rfl ?_
              refine v_virt0 (M' := mX6_makePlain) (k := 37) rfl lRX10_225 oX6_makePlain vX6_makePlain ⟨Nat.le_of_ble_eq_true rfl, Nat.le_of_ble_eq_true rfl⟩ rfl rfl (Nat.le_of_ble_eq_true rfl) (x_makePlain (5 + b) g2) ?_
              refine u_aloadn (k := 38) rfl rfl ?_
              refine a_geti (k := 39) rfl fRX10_146 rfl rfl ?_
              rw [put_ne (by omega), put_ne (by omega), show g2 5 (5 * 1 + a) 2 = _ from n1]
              refine a_ireturn (k := 40) rfl rfl ?_
              have hC2 : CR (σ.rem.setR a (r_app (σ.now.2.2 a) (σ.now.2.2 b))) g2 := hC1.rope hW.rem hk hF (by intro z hz; simp at hz; rcases hz with rfl | rfl <;> simp) (by simp) ⟨n1, n2, n3⟩
              have hW2 : WA B (σ.rem.setR a (r_app (σ.now.2.2 a) (σ.now.2.2 b))) := hW.rem.setR (WR_app (hW.now.2.2 a hk) (hW.now.2.2 b hq) hc)
              refine ⟨rfl, hC2.rope (T := [(5, 5 + b)]) (K := []) hW2 hq ((Fr.rf.p1 (by simp)).p1 (by simp)) (by simp) (by simp) ⟨?_, ?_, fun i hi => ?_⟩, ((hFC.tr (FC.rf.fr hF (by simp) (by simp))).pt (by omega)).pt (by omega)⟩
              · rw [put_ne (by omega), put_eq]; rfl
              · rw [put_eq]; rfl
              · simp [r_plain] at hi
            · omega
          · omega
        · rw [if_neg hc]
          refine Sp.of rfl kX10_join (Nat.le_of_ble_eq_true rfl) ?_
          refine u_aloadn (k := 0) rfl rfl ?_
          refine a_getr (k := 1) rfl fRX10_26 rfl rfl rfl ?_
          refine u_iloadn (k := 2) rfl rfl ?_
          refine r_virt1 (M' := mX9_ropeOf) (k := 3) rfl lRX10_141 oX9_ropeOf vX9_ropeOf ⟨Nat.le_of_ble_eq_true rfl, Nat.le_of_ble_eq_true rfl⟩ rfl rfl (Nat.le_of_ble_eq_true rfl) (x_ropeOf 1 a h (hC.yes hk) (by have := hW.now.1; omega)) ?_
          refine a_astoren (k := 4) (lv' := [(3, _), (0, _), (1, _), (2, _)]) rfl (Nat.le_of_ble_eq_true rfl) rfl ?_
          refine u_aloadn (k := 5) rfl rfl ?_
          refine a_getr (k := 6) rfl fRX10_26 rfl rfl rfl ?_
          refine u_iloadn (k := 7) rfl rfl ?_
          refine r_virt1 (M' := mX9_ropeOf) (k := 8) rfl lRX10_141 oX9_ropeOf vX9_ropeOf ⟨Nat.le_of_ble_eq_true rfl, Nat.le_of_ble_eq_true rfl⟩ rfl rfl (Nat.le_of_ble_eq_true rfl) (x_ropeOf 1 b h (hC.yes hq) (by have := hW.now.1; omega)) ?_
          refine a_astore (k := 9) (lv' := [(4, _), (3, _), (0, _), (1, _), (2, _)]) rfl (Nat.le_of_ble_eq_true rfl) rfl ?_
          refine u_aloadn (k := 10) rfl rfl ?_
          refine a_nullR (k := 11) rfl ?_
          refine u_aload (k := 12) rfl rfl ?_
          refine a_nullR (k := 13) rfl ?_
          refine u_iloadn (k := 14) rfl rfl ?_
          refine u_iloadn (k := 15) rfl rfl ?_
          refine a_icmp_ne (k := 16) rfl (fun c_30 => ?_) (fun c_30 => ?_)
          · refine u_aloadn (k := 19) rfl rfl ?_
            refine a_geti (k := 20) rfl fRX10_146 rfl rfl ?_
            refine u_aload (k := 21) rfl rfl ?_
            refine a_geti (k := 22) rfl fRX10_146 rfl rfl ?_
            rw [show h 5 (5 * 1 + a) 2 = ((σ.now.2.2 a).1 : Int) from hR.1, show h 5 (5 * 1 + b) 2 = ((σ.now.2.2 b).1 : Int) from hR2.1]
            refine u_iadd (k := 23) rfl (by omega) ?_
            refine a_bipush (k := 24) rfl ?_
            refine a_icmp_le (k := 25) rfl (fun c_48 => ?_) (fun c_48 => ?_)
            · omega
            · refine a_ldc (k := 26) rfl nRX10_92 ⟨by decide, by decide⟩ ?_
              refine a_ireturn (k := 27) rfl rfl ?_
              exact ⟨rfl, hC, FC.rf⟩
          · omega
def AS.setG (σ : AS) (k : Nat) (r : Rp) (gr : Nat) : AS := σ.wnow (σ.now.1, gr, un σ.now.2.2 k r)
def o_salt (σ : AS) (k d : Int) (o : Bool) : Int × AS := σ.on k fun q => if 0 ≤ d ∧ d < ((σ.now.2.2 q).1 : Int) then (if (σ.now.2.2 q).2.1.testBit d.toNat = o ∨ (o = true ∧ σ.now.2.1 = 0) then (NOT_, σ) else (((if o then σ.now.2.1 - 1 else σ.now.2.1 + 1 : Nat) : Int), σ.rem.setG q ((σ.now.2.2 q).1, (σ.now.2.2 q).2.1 ^^^ 2 ^ d.toNat, (σ.now.2.2 q).2.2) (if o then σ.now.2.1 - 1 else σ.now.2.1 + 1))) else (UNK, σ)
theorem c_salt {B : Nat} {σ : AS} {h : HH} (hW : WA B σ) (hB : B < 1000000) (hC : CR σ h) (k d : Int) (o : Bool) : Sp mX10_salt [vr 0 0, vi k, vi d, vi (b01 o)] h (OP (o_salt σ k d o) h) := by
  rcases kcase k σ.now.1 with hk | ⟨q, rfl, hk⟩
  · rw [show o_salt σ k d o = _ from on_no hk]
    refine Sp.of rfl kX10_salt (Nat.le_of_ble_eq_true rfl) ?_
    refine u_aloadn (k := 0) rfl rfl ?_
    refine a_getr (k := 1) rfl fRX10_26 rfl rfl rfl ?_
    refine u_iloadn (k := 2) rfl rfl ?_
    refine r_virt1 (M' := mX9_ropeOf) (k := 3) rfl lRX10_141 oX9_ropeOf vX9_ropeOf ⟨Nat.le_of_ble_eq_true rfl, Nat.le_of_ble_eq_true rfl⟩ rfl rfl (Nat.le_of_ble_eq_true rfl) (x_ropeNo 1 k h (hC.no hk)) ?_
    refine a_astoreNl (k := 4) (lv' := [(4, _), (0, _), (1, _), (2, _), (3, _)]) rfl (Nat.le_of_ble_eq_true rfl) rfl ?_
    refine u_aloadN (k := 5) rfl rfl ?_
    refine a_nullN (k := 6) rfl ?_
    refine a_ldc (k := 11) rfl nRX10_145 ⟨by decide, by decide⟩ ?_
    refine a_ireturn (k := 12) rfl rfl ?_
    exact ⟨rfl, hC, FC.rf⟩
  · have h5 : q < 5 := by have := hW.now.1; omega
    have h8 := (hW.now.2.2 q hk).1
    have hR0 := hC.RP hW hk
    have hgB := hW.now.2.1
    have hg0 := hC.now.2.1
    rw [show o_salt σ (q : Int) d o = _ from on_yes hk]
    obtain ⟨b1, b2⟩ := b01_n o
    by_cases hd : 0 ≤ d ∧ d < ((σ.now.2.2 q).1 : Int)
    · obtain ⟨e, rfl⟩ : ∃ e : Nat, d = (e : Int) := ⟨d.toNat, by omega⟩
      have he : (2 ^ e : Nat) < 2 ^ 31 := Nat.pow_lt_pow_right (by omega) (by omega)
      have hs256 := hR0.2.2.2.1
      rw [if_pos hd, Int.toNat_natCast]
      have T61 : ¬ ((σ.now.2.2 q).2.1.testBit e = o ∨ (o = true ∧ σ.now.2.1 = 0)) → ∀ w : Int, AW mX10_salt (OP (((if o then σ.now.2.1 - 1 else σ.now.2.1 + 1 : Nat) : Int), σ.rem.setG q ((σ.now.2.2 q).1, (σ.now.2.2 q).2.1 ^^^ 2 ^ e, (σ.now.2.2 q).2.2) (if o then σ.now.2.1 - 1 else σ.now.2.1 + 1)) h) 61 [(5, vi w), (4, vr 5 (5 * 1 + q)), (0, vr 0 0), (1, vi q), (2, vi e), (3, vi (b01 o))] [] h := by
        intro hno w
        have hgo : o = true → 0 < σ.now.2.1 := fun z => by
          have : ¬ σ.now.2.1 = 0 := fun y => hno (Or.inr ⟨z, y⟩)
          omega
        have fin : ∀ g : HH, CR σ.rem g → FC h g → ∀ v : Int, v = ((if o then σ.now.2.1 - 1 else σ.now.2.1 + 1 : Nat) : Int) → OP (((if o then σ.now.2.1 - 1 else σ.now.2.1 + 1 : Nat) : Int), σ.rem.setG q ((σ.now.2.2 q).1, (σ.now.2.2 q).2.1 ^^^ 2 ^ e, (σ.now.2.2 q).2.2) (if o then σ.now.2.1 - 1 else σ.now.2.1 + 1)) h (some (vi (put (put g 5 (5 * 1 + q) 3 (((σ.now.2.2 q).2.1 ^^^ 2 ^ e : Nat) : Int)) 3 1 2 v 3 1 2))) (put (put g 5 (5 * 1 + q) 3 (((σ.now.2.2 q).2.1 ^^^ 2 ^ e : Nat) : Int)) 3 1 2 v) := by
          intro g hC1 hFC v hv
          refine ⟨by rw [put_eq, hv], hC1.now' hW.rem (fun t i z hr hn => ?_) ⟨?_, ?_, fun k' hk' => ?_⟩, (hFC.pt (by omega)).pt (by omega)⟩
          · rw [put_ne (fun z => hn (by unfold nwp; omega)), put_ne (fun z => hn (by unfold nwp; omega))]
          · rw [put_ne (by omega), put_ne (by omega)]; exact hC1.now.1
          · rw [put_eq, hv]
          · have hk' : k' < σ.now.1 := hk'
            have hold := hC1.now.2.2 k' hk'
            show RH (5 * 1 + k') (un σ.now.2.2 q _ k') _
            by_cases hkq : k' = q
            · subst hkq
              rw [un_eq]
              exact ⟨by rw [put_ne (by omega), put_ne (by omega)]; exact hold.1, by rw [put_ne (by omega), put_eq], fun i hi => by rw [put_ne (by omega), put_ne (by omega)]; exact hold.2.2 i hi⟩
            · rw [un_ne _ _ hkq]
              exact hold.keep (fun z => by rw [put_ne (by omega), put_ne (by omega)]) (fun z => by rw [put_ne (by omega), put_ne (by omega)])
        refine u_aloadn (k := 29) rfl rfl ?_
        refine a_getr (k := 30) rfl fRX10_33 rfl rfl rfl ?_
        refine u_aloadn (k := 31) rfl rfl ?_
        refine a_getr (k := 32) rfl fRX10_26 rfl rfl rfl ?_
        refine uv_virt1 (M' := mX2_remember) (k := 33) rfl lRX10_196 oX2_remember vX2_remember ⟨Nat.le_of_ble_eq_true rfl, Nat.le_of_ble_eq_true rfl⟩ rfl rfl (Nat.le_of_ble_eq_true rfl) (x_rem hW hC) (by intro r g hp; exact hp.1) (fun g hg => ?_)
        obtain ⟨-, hC1, hj, h3, hFC⟩ := hg; have hR := hC1.RP hW.rem hk
        refine u_aload (k := 34) rfl rfl ?_
        refine a_dup (k := 35) rfl rfl ?_
        refine a_geti (k := 36) rfl fRX10_151 rfl rfl ?_
        refine a_iconst (k := 37) rfl ?_
        refine u_iloadn (k := 38) rfl rfl ?_
        refine a_ishl (k := 39) rfl ?_
        rw [show g 5 (5 * 1 + q) 3 = ((σ.now.2.2 q).2.1 : Int) from hR.2.2.1, shl1 (by omega)]
        refine a_ixor (k := 40) rfl ?_
        rw [ixor_nat (by omega) he]
        refine a_puti (k := 41) rfl pRX10_151 rfl rfl ?_
        refine u_aloadn (k := 42) rfl rfl ?_
        refine a_getr (k := 43) rfl fRX10_26 rfl rfl rfl ?_
        refine a_dup (k := 44) rfl rfl ?_
        refine a_geti (k := 45) rfl fRX10_123 rfl rfl ?_
        rw [put_ne (by omega), show g 3 1 2 = (σ.now.2.1 : Int) from hC1.now.2.1]
        refine u_iloadn (k := 46) rfl rfl ?_
        refine a_if_eq (k := 47) rfl (fun c_94 => ?_) (fun c_94 => ?_)
        · refine a_iconst (k := 50) rfl ?_
          refine u_iadd (k := 51) rfl (by omega) ?_
          refine a_puti (k := 52) rfl pRX10_123 rfl rfl ?_
          refine u_aloadn (k := 53) rfl rfl ?_
          refine a_getr (k := 54) rfl fRX10_26 rfl rfl rfl ?_
          refine a_geti (k := 55) rfl fRX10_123 rfl rfl ?_
          refine a_ireturn (k := 56) rfl rfl ?_
          refine fin g hC1 hFC _ ?_
          cases o
          · first
            | (exfalso; revert c_94; decide)
            | (simp; done)
            | (simp; omega)
          · have := hgo rfl
            first
            | (exfalso; revert c_94; decide)
            | (simp; done)
            | (simp; omega)
        · refine a_iconst (k := 48) rfl ?_
          refine a_goto (k := 49) rfl ?_
          refine u_iadd (k := 51) rfl (by omega) ?_
          refine a_puti (k := 52) rfl pRX10_123 rfl rfl ?_
          refine u_aloadn (k := 53) rfl rfl ?_
          refine a_getr (k := 54) rfl fRX10_26 rfl rfl rfl ?_
          refine a_geti (k := 55) rfl fRX10_123 rfl rfl ?_
          refine a_ireturn (k := 56) rfl rfl ?_
          refine fin g hC1 hFC _ ?_
          cases o
          · first
            | (exfalso; revert c_94; decide)
            | (simp; done)
            | (simp; omega)
          · have := hgo rfl
            first
            | (exfalso; revert c_94; decide)
            | (simp; done)
            | (simp; omega)
      refine Sp.of rfl kX10_salt (Nat.le_of_ble_eq_true rfl) ?_
      refine u_aloadn (k := 0) rfl rfl ?_
      refine a_getr (k := 1) rfl fRX10_26 rfl rfl rfl ?_
      refine u_iloadn (k := 2) rfl rfl ?_
      refine r_virt1 (M' := mX9_ropeOf) (k := 3) rfl lRX10_141 oX9_ropeOf vX9_ropeOf ⟨Nat.le_of_ble_eq_true rfl, Nat.le_of_ble_eq_true rfl⟩ rfl rfl (Nat.le_of_ble_eq_true rfl) (x_ropeOf 1 q h (hC.yes hk) h5) ?_
      refine a_astore (k := 4) (lv' := [(4, _), (0, _), (1, _), (2, _), (3, _)]) rfl (Nat.le_of_ble_eq_true rfl) rfl ?_
      refine u_aload (k := 5) rfl rfl ?_
      refine a_nullR (k := 6) rfl ?_
      refine u_aload (k := 7) rfl rfl ?_
      refine u_iloadn (k := 8) rfl rfl ?_
      refine i_virt1 (M' := mX6_has) (k := 9) rfl lRX10_180 oX6_has vX6_has ⟨Nat.le_of_ble_eq_true rfl, Nat.le_of_ble_eq_true rfl⟩ rfl rfl (Nat.le_of_ble_eq_true rfl) (x_has (5 + q) _ e h hR0.1) ?_
      refine a_if_ne (k := 10) rfl (fun c_21 => ?_) (fun c_21 => ?_)
      · refine u_aload (k := 13) rfl rfl ?_
        refine a_geti (k := 14) rfl fRX10_151 rfl rfl ?_
        refine u_iloadn (k := 15) rfl rfl ?_
        rw [show h 5 (5 * 1 + q) 3 = ((σ.now.2.2 q).2.1 : Int) from hR0.2.2.1]
        refine i_stat2 (M' := mX10_isIn) (k := 16) rfl lRX10_228 oX10_isIn vX10_isIn ⟨Nat.le_of_ble_eq_true rfl, Nat.le_of_ble_eq_true rfl⟩ rfl (Nat.le_of_ble_eq_true rfl) (x_isIn _ e h (by omega) (by omega)) ?_
        refine a_istore (k := 17) (lv' := [(5, _), (4, _), (0, _), (1, _), (2, _), (3, _)]) rfl (Nat.le_of_ble_eq_true rfl) rfl ?_
        refine u_iload (k := 18) rfl rfl ?_
        refine u_iloadn (k := 19) rfl rfl ?_
        refine a_icmp_eq (k := 20) rfl (fun c_41 => ?_) (fun c_41 => ?_)
        · rw [if_pos (Or.inl (by unfold tbi b01 at c_41; revert c_41; cases (σ.now.2.2 q).2.1.testBit e <;> cases o <;> simp))]
          refine a_ldc (k := 27) rfl nRX10_195 ⟨by decide, by decide⟩ ?_
          refine a_ireturn (k := 28) rfl rfl ?_
          exact ⟨rfl, hC, FC.rf⟩
        · refine u_iloadn (k := 21) rfl rfl ?_
          refine a_if_eq (k := 22) rfl (fun c_45 => ?_) (fun c_45 => ?_)
          · have hno : ¬ ((σ.now.2.2 q).2.1.testBit e = o ∨ (o = true ∧ σ.now.2.1 = 0)) := fun z => z.elim (fun y => c_41 (by unfold tbi b01; rw [y])) (fun y => by rw [b01_f c_45] at y; cases y.1)
            rw [if_neg hno]
            exact T61 hno _
          · refine u_aloadn (k := 23) rfl rfl ?_
            refine a_getr (k := 24) rfl fRX10_26 rfl rfl rfl ?_
            refine a_geti (k := 25) rfl fRX10_123 rfl rfl ?_
            rw [show h 3 1 2 = (σ.now.2.1 : Int) from hg0]
            refine a_if_gt (k := 26) rfl (fun c_55 => ?_) (fun c_55 => ?_)
            · have hno : ¬ ((σ.now.2.2 q).2.1.testBit e = o ∨ (o = true ∧ σ.now.2.1 = 0)) := fun z => z.elim (fun y => c_41 (by unfold tbi b01; rw [y])) (fun y => by omega)
              rw [if_neg hno]
              exact T61 hno _
            · rw [if_pos (Or.inr ⟨b01_t c_45, by omega⟩)]
              refine a_ldc (k := 27) rfl nRX10_195 ⟨by decide, by decide⟩ ?_
              refine a_ireturn (k := 28) rfl rfl ?_
              exact ⟨rfl, hC, FC.rf⟩
      · rw [if_pos hd] at c_21; omega
    · rw [if_neg hd]
      refine Sp.of rfl kX10_salt (Nat.le_of_ble_eq_true rfl) ?_
      refine u_aloadn (k := 0) rfl rfl ?_
      refine a_getr (k := 1) rfl fRX10_26 rfl rfl rfl ?_
      refine u_iloadn (k := 2) rfl rfl ?_
      refine r_virt1 (M' := mX9_ropeOf) (k := 3) rfl lRX10_141 oX9_ropeOf vX9_ropeOf ⟨Nat.le_of_ble_eq_true rfl, Nat.le_of_ble_eq_true rfl⟩ rfl rfl (Nat.le_of_ble_eq_true rfl) (x_ropeOf 1 q h (hC.yes hk) h5) ?_
      refine a_astore (k := 4) (lv' := [(4, _), (0, _), (1, _), (2, _), (3, _)]) rfl (Nat.le_of_ble_eq_true rfl) rfl ?_
      refine u_aload (k := 5) rfl rfl ?_
      refine a_nullR (k := 6) rfl ?_
      refine u_aload (k := 7) rfl rfl ?_
      refine u_iloadn (k := 8) rfl rfl ?_
      refine i_virt1 (M' := mX6_has) (k := 9) rfl lRX10_180 oX6_has vX6_has ⟨Nat.le_of_ble_eq_true rfl, Nat.le_of_ble_eq_true rfl⟩ rfl rfl (Nat.le_of_ble_eq_true rfl) (x_has (5 + q) _ d h hR0.1) ?_
      refine a_if_ne (k := 10) rfl (fun c_21 => ?_) (fun c_21 => ?_)
      · rw [if_neg hd] at c_21; omega
      · refine a_ldc (k := 11) rfl nRX10_145 ⟨by decide, by decide⟩ ?_
        refine a_ireturn (k := 12) rfl rfl ?_
        exact ⟨rfl, hC, FC.rf⟩
