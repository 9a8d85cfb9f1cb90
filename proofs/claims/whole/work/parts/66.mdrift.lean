theorem n_whole {σ : AS} {h : HH} (hM : MR σ h) (n q : Int) : Sp mX11_whole [vr 40 0, vi n, vi q] h (MP (o_whole σ n q) h) := by
  by_cases hn : (0 ≤ n ∧ n ≤ 60) ∧ (0 ≤ q ∧ q ≤ 100)
  · rw [show o_whole σ n q = _ from if_pos hn]
    obtain ⟨a, rfl⟩ : ∃ a : Nat, n = (a : Int) := ⟨n.toNat, by omega⟩
    obtain ⟨b, rfl⟩ : ∃ b : Nat, q = (b : Int) := ⟨q.toNat, by omega⟩
    rw [Int.toNat_natCast, Int.toNat_natCast]
    have hb : b ≤ 100 := by omega
    refine Sp.of rfl kX11_whole (Nat.le_of_ble_eq_true rfl) ?_
    have Lp : ∀ (d i : Nat), i + d = a → AW mX11_whole (MP ((whl b a : Int), σ) h) 34 [(5, vi i), (3, vl (whl b i : Int)), (0, vr 40 0), (1, vi a), (2, vi b)] [] h := by
      intro d
      induction d with
      | zero =>
        intro i hi
        have h1 := whl_le hb i
        refine u_iload (k := 18) rfl rfl ?_
        refine u_iloadn (k := 19) rfl rfl ?_
        refine a_icmp_ge (k := 20) rfl (fun c_37 => ?_) (fun c_37 => ?_)
        · refine u_lloadn (k := 30) rfl rfl ?_
          refine a_l2i (k := 31) rfl ?_
          rw [w3_id (by omega) (by omega)]
          refine a_ireturn (k := 32) rfl rfl ?_
          exact ⟨by rw [show i = a by omega], hM, FMo.rf⟩
        · omega
      | succ d ih =>
        intro i hi
        have h1 := whl_le hb i
        have h2 : whl b i * b ≤ whl b i * 100 := Nat.mul_le_mul_left _ hb
        have e1 : ((whl b i : Int) * (b : Int)) = ((whl b i * b : Nat) : Int) := by rw [Int.natCast_mul]
        have e2 : (((whl b i * b : Nat) : Int).tdiv 100) = ((whl b (i + 1) : Nat) : Int) := by
          rw [Int.tdiv_eq_ediv_of_nonneg (by omega)]
          show _ = ((whl b i * b / 100 : Nat) : Int)
          omega
        have h3 := whl_le hb (i + 1)
        refine u_iload (k := 18) rfl rfl ?_
        refine u_iloadn (k := 19) rfl rfl ?_
        refine a_icmp_ge (k := 20) rfl (fun c_37 => ?_) (fun c_37 => ?_)
        · omega
        · refine u_lloadn (k := 21) rfl rfl ?_
          refine u_iloadn (k := 22) rfl rfl ?_
          refine a_i2l (k := 23) rfl ?_
          refine a_lmul (k := 24) rfl ?_
          rw [lm, e1, w6_id (by omega) (by omega)]
          refine a_ldc2 (k := 25) rfl nRX11_316 ⟨by decide, by decide⟩ ?_
          refine a_ldiv (k := 26) rfl (by decide) ?_
          rw [lq, e2, w6_id (by omega) (by omega)]
          refine a_lstoren (k := 27) (lv' := [(3, _), (5, _), (0, _), (1, _), (2, _)]) rfl (Nat.le_of_ble_eq_true rfl) rfl ?_
          refine u_iinc (k := 28) (lv' := [(5, _), (3, _), (0, _), (1, _), (2, _)]) rfl rfl (Nat.le_of_ble_eq_true rfl) (by omega) rfl ?_
          refine a_goto (k := 29) rfl ?_
          exact ih (i + 1) (by omega)
    refine u_iloadn (k := 0) rfl rfl ?_
    refine a_i2l (k := 1) rfl ?_
    refine a_lconst (k := 2) rfl ?_
    refine a_ldc2 (k := 3) rfl nRX11_314 ⟨by decide, by decide⟩ ?_
    refine i_stat3 (M' := mX11_in) (k := 4) rfl lRX11_81 oX11_in vX11_in ⟨Nat.le_of_ble_eq_true rfl, Nat.le_of_ble_eq_true rfl⟩ rfl (Nat.le_of_ble_eq_true rfl) (m_in a 0 60 h) ?_
    rw [inb_t hn.1]
    refine a_if_eq (k := 5) rfl (fun c_9 => ?_) (fun c_9 => ?_)
    · exact absurd c_9 (by decide)
    · refine u_iloadn (k := 6) rfl rfl ?_
      refine a_i2l (k := 7) rfl ?_
      refine a_lconst (k := 8) rfl ?_
      refine a_ldc2 (k := 9) rfl nRX11_316 ⟨by decide, by decide⟩ ?_
      refine i_stat3 (M' := mX11_in) (k := 10) rfl lRX11_81 oX11_in vX11_in ⟨Nat.le_of_ble_eq_true rfl, Nat.le_of_ble_eq_true rfl⟩ rfl (Nat.le_of_ble_eq_true rfl) (m_in b 0 100 h) ?_
      rw [inb_t hn.2]
      refine a_if_ne (k := 11) rfl (fun c_21 => ?_) (fun c_21 => ?_)
      · refine a_ldc2 (k := 14) rfl nRX11_318 ⟨by decide, by decide⟩ ?_
        refine a_lstoren (k := 15) (lv' := [(3, _), (0, _), (1, _), (2, _)]) rfl (Nat.le_of_ble_eq_true rfl) rfl ?_
        refine a_iconst (k := 16) rfl ?_
        refine a_istore (k := 17) (lv' := [(5, _), (3, _), (0, _), (1, _), (2, _)]) rfl (Nat.le_of_ble_eq_true rfl) rfl ?_
        exact Lp a 0 (by omega)
      · exact absurd c_21 (by decide)
  · rw [show o_whole σ n q = _ from if_neg hn]
    refine Sp.of rfl kX11_whole (Nat.le_of_ble_eq_true rfl) ?_
    refine u_iloadn (k := 0) rfl rfl ?_
    refine a_i2l (k := 1) rfl ?_
    refine a_lconst (k := 2) rfl ?_
    refine a_ldc2 (k := 3) rfl nRX11_314 ⟨by decide, by decide⟩ ?_
    refine i_stat3 (M' := mX11_in) (k := 4) rfl lRX11_81 oX11_in vX11_in ⟨Nat.le_of_ble_eq_true rfl, Nat.le_of_ble_eq_true rfl⟩ rfl (Nat.le_of_ble_eq_true rfl) (m_in n 0 60 h) ?_
    refine a_if_eq (k := 5) rfl (fun c_9 => ?_) (fun c_9 => ?_)
    · refine a_ldc (k := 12) rfl nRX11_97 ⟨by decide, by decide⟩ ?_
      refine a_ireturn (k := 13) rfl rfl ?_
      exact ⟨rfl, hM, FMo.rf⟩
    · have e9 := inb_iff.mp (b01_t c_9)
      refine u_iloadn (k := 6) rfl rfl ?_
      refine a_i2l (k := 7) rfl ?_
      refine a_lconst (k := 8) rfl ?_
      refine a_ldc2 (k := 9) rfl nRX11_316 ⟨by decide, by decide⟩ ?_
      refine i_stat3 (M' := mX11_in) (k := 10) rfl lRX11_81 oX11_in vX11_in ⟨Nat.le_of_ble_eq_true rfl, Nat.le_of_ble_eq_true rfl⟩ rfl (Nat.le_of_ble_eq_true rfl) (m_in q 0 100 h) ?_
      refine a_if_ne (k := 11) rfl (fun c_21 => ?_) (fun c_21 => ?_)
      · exact absurd ⟨e9, inb_iff.mp (b01_t c_21)⟩ hn
      · refine a_ldc (k := 12) rfl nRX11_97 ⟨by decide, by decide⟩ ?_
        refine a_ireturn (k := 13) rfl rfl ?_
        exact ⟨rfl, hM, FMo.rf⟩
theorem m_draw {d n : Nat} {h : HH} (hd : h 40 0 3 = (d : Int)) (hd2 : d < 2 ^ 31) (hn : 0 < n) : SpI mX11_draw [vr 40 0, vi n] h (drw d n) (put h 40 0 3 (nxt d : Int)) := by
  have hx := nxt_lt d
  refine Sp.of rfl kX11_draw (Nat.le_of_ble_eq_true rfl) ?_
  refine u_aloadn (k := 0) rfl rfl ?_
  refine u_aloadn (k := 1) rfl rfl ?_
  refine a_geti (k := 2) rfl fRX11_78 rfl rfl ?_
  refine a_i2l (k := 3) rfl ?_
  refine a_ldc2 (k := 4) rfl nRX11_296 ⟨by decide, by decide⟩ ?_
  rw [hd]
  refine a_lmul (k := 5) rfl ?_
  rw [lm, w6_id (by omega) (by omega)]
  refine a_ldc2 (k := 6) rfl nRX11_298 ⟨by decide, by decide⟩ ?_
  refine a_ladd (k := 7) rfl ?_
  rw [la_, w6_id (by omega) (by omega), show ((d : Int) * 1103515245 + 12345) = ((d * 1103515245 + 12345 : Nat) : Int) by omega]
  refine a_ldc2 (k := 8) rfl nRX11_300 ⟨by decide, by decide⟩ ?_
  refine a_lrem (k := 9) rfl (by decide) ?_
  rw [lr, Int.tmod_eq_emod_of_nonneg (by omega), w6_id (by omega) (by omega)]
  refine a_l2i (k := 10) rfl ?_
  rw [w3_id (by omega) (by omega), show (((d * 1103515245 + 12345 : Nat) : Int) % 2147483648) = (nxt d : Int) by rw [nxt_eq]; omega]
  refine a_puti (k := 11) rfl pRX11_78 rfl rfl ?_
  refine u_aloadn (k := 12) rfl rfl ?_
  refine a_geti (k := 13) rfl fRX11_78 rfl rfl ?_
  rw [put_eq]
  refine a_ldcw (k := 14) rfl nRX11_302 ⟨by decide, by decide⟩ ?_
  refine u_idiv (k := 15) rfl (by omega) (by omega) ?_
  refine u_iloadn (k := 16) rfl rfl ?_
  refine u_irem (k := 17) rfl (by omega) (by omega) ?_
  refine a_ireturn (k := 18) rfl rfl ?_
  exact ⟨by unfold drw; congr 2, rfl⟩
theorem MR.wdr {B : Nat} {σ : AS} {h : HH} (hW : WA B σ) (hM : MR σ h) (d : Nat) : MR (σ.wdr d) (put h 40 0 3 (d : Int)) :=
  hM.flds hW (fun k => by simp only [put_apply, Nat.reduceEqDiff, reduceIte, false_and, and_false, true_and, and_true, and_self, if_false, if_true, not_false_eq_true, not_true_eq_false, ne_eq]) rfl rfl (Or.inr rfl) rfl (fun i hi hk => ⟨hk, by simp only [put_apply, Nat.reduceEqDiff, reduceIte, false_and, and_false, true_and, and_true, and_self, if_false, if_true, not_false_eq_true, not_true_eq_false, ne_eq]; exact (hM.img i hi hk).2⟩) (by simp only [put_apply, Nat.reduceEqDiff, reduceIte, false_and, and_false, true_and, and_true, and_self, if_false, if_true, not_false_eq_true, not_true_eq_false, ne_eq]; exact hM.laid) (by simp only [put_apply, Nat.reduceEqDiff, reduceIte, false_and, and_false, true_and, and_true, and_self, if_false, if_true, not_false_eq_true, not_true_eq_false, ne_eq]; exact hM.L) (fun i hi => by simp only [put_apply, Nat.reduceEqDiff, reduceIte, false_and, and_false, true_and, and_true, and_self, if_false, if_true, not_false_eq_true, not_true_eq_false, ne_eq]; exact hM.tx i hi) (by simp only [put_apply, Nat.reduceEqDiff, reduceIte, false_and, and_false, true_and, and_true, and_self, if_false, if_true, not_false_eq_true, not_true_eq_false, ne_eq]; exact hM.fault) (by rw [put_eq]; rfl) (by simp only [put_apply, Nat.reduceEqDiff, reduceIte, false_and, and_false, true_and, and_true, and_self, if_false, if_true, not_false_eq_true, not_true_eq_false, ne_eq]; exact hM.cnt) (by simp only [put_apply, Nat.reduceEqDiff, reduceIte, false_and, and_false, true_and, and_true, and_self, if_false, if_true, not_false_eq_true, not_true_eq_false, ne_eq]; exact hM.ents) (fun i hi => by simp only [put_apply, Nat.reduceEqDiff, reduceIte, false_and, and_false, true_and, and_true, and_self, if_false, if_true, not_false_eq_true, not_true_eq_false, ne_eq]; exact hM.book i hi) (fun i hi => by simp only [put_apply, Nat.reduceEqDiff, reduceIte, false_and, and_false, true_and, and_true, and_self, if_false, if_true, not_false_eq_true, not_true_eq_false, ne_eq]; exact hM.kept i hi)
theorem drw_lt (d : Nat) {n : Nat} (hn : 0 < n) : drw d n < n := Nat.mod_lt _ hn
theorem m_drifts {B : Nat} {σ : AS} {h : HH} (hW : WA B σ) (hM : MR σ h) (hn : 0 < σ.now.1) : Sp mX11_drifts [vr 40 0] h (fun z g => z = none ∧ MR (d_step σ) g ∧ FMo h g) := by
  have h5 := hW.now.1
  have hk : drw (nxt σ.drawn) σ.now.1 < σ.now.1 := drw_lt _ hn
  have hd5 : drw σ.drawn 5 < 5 := drw_lt _ (by omega)
  have hW1 := hW.wdr (nxt_lt σ.drawn)
  have hM1 := hM.wdr hW (nxt σ.drawn)
  have hW2 := hW.wdr (nxt_lt (nxt σ.drawn))
  have hM2 : MR (σ.wdr (nxt (nxt σ.drawn))) (put (put h 40 0 3 (nxt σ.drawn : Int)) 40 0 3 (nxt (nxt σ.drawn) : Int)) := by
    have z := hM1.wdr hW1 (nxt (nxt σ.drawn))
    rw [wdr_wdr] at z
    exact z
  have hfm2 : FMo h (put (put h 40 0 3 (nxt σ.drawn : Int)) 40 0 3 (nxt (nxt σ.drawn) : Int)) := (FMo.rf.pt (by omega)).pt (by omega)
  have key : ∀ (τ : AS) (w k : Nat) (g : HH), τ.now.1 ≤ 5 → WA B τ → MR τ g → k < τ.now.1 → w < 5 → FMo h g → AW mX11_drifts (fun z g => z = none ∧ MR (d_go τ w k) g ∧ FMo h g) 17 [(2, vi k), (1, vi w), (0, vr 40 0)] [] g := by
    intro τ w k g h5 hW hM hk hw hfm
    have hWr := hW.now.2.2 k hk
    have h8 := hWr.1
    have hs := (p8 h8).2
    have hs2 := hWr.2.1
    have hV := hWr.2.2.1
    have hdr := hW.drawn
    have T28 : ∀ g2 : HH, MR τ g2 → RW (2 * (τ.now.2.2 k).1) (τ.now.2.2 k).2.2 (τ.now.2.2 k).2.1 g2 → FMo h g2 → AW mX11_drifts (fun z g => z = none ∧ MR (d_go τ w k) g ∧ FMo h g) 28 [(3, vi (mvo (r_mls (τ.now.2.2 k)) 0)), (2, vi k), (1, vi w), (0, vr 40 0)] [] g2 := by
      intro g2 hM2 hR2 hfm2
      have hr20 := hR2.1
      have h01234 : w = 0 ∨ w = 1 ∨ w = 2 ∨ w = 3 ∨ w = 4 := by omega
      rcases h01234 with rfl | rfl | rfl | rfl | rfl
      · have eg : d_go τ 0 k = d_shake τ k := if_pos rfl
        rw [eg]
        by_cases hm : r_mls (τ.now.2.2 k) = []
        · have em : mvo (r_mls (τ.now.2.2 k)) 0 = -1 := by rw [hm]; rfl
          rw [show d_shake τ k = τ from if_pos hm, em]
          refine u_iloadn (k := 18) rfl rfl ?_
          refine a_if_ne (k := 19) rfl (fun c_29 => ?_) (fun c_29 => ?_)
          · omega
          · refine u_iloadn (k := 20) rfl rfl ?_
            refine a_if_lt (k := 21) rfl (fun c_33 => ?_) (fun c_33 => ?_)
            · refine u_iloadn (k := 39) rfl rfl ?_
              refine a_iconst (k := 40) rfl ?_
              refine a_icmp_ne (k := 41) rfl (fun c_63 => ?_) (fun c_63 => ?_)
              · refine u_iloadn (k := 66) rfl rfl ?_
                refine a_iconst (k := 67) rfl ?_
                refine a_icmp_ne (k := 68) rfl (fun c_113 => ?_) (fun c_113 => ?_)
                · refine u_iloadn (k := 86) rfl rfl ?_
                  refine a_iconst (k := 87) rfl ?_
                  refine a_icmp_ne (k := 88) rfl (fun c_149 => ?_) (fun c_149 => ?_)
                  · refine u_iloadn (k := 95) rfl rfl ?_
                    refine a_iconst (k := 96) rfl ?_
                    refine a_icmp_ne (k := 97) rfl (fun c_166 => ?_) (fun c_166 => ?_)
                    · refine a_return (k := 101) rfl rfl ?_
                      exact ⟨rfl, hM2, hfm2⟩
                    · omega
                  · omega
                · omega
              · omega
            · omega
        · obtain ⟨a, b, ha, hb, hab, ev, hmem⟩ := mls_0 hm
          have hl : 0 < (r_mls (τ.now.2.2 k)).length := List.length_pos_iff.mpr hm
          have em : mvo (r_mls (τ.now.2.2 k)) 0 = ((10 * a + b : Nat) : Int) := by
            unfold mvo
            rw [if_neg (by omega), if_pos (by omega)]
            show ((fn (r_mls (τ.now.2.2 k)) 0 : Nat) : Int) = _
            rw [show fn (r_mls (τ.now.2.2 k)) 0 = 10 * a + b from ev]
          have et : tkb (fn (r_mls (τ.now.2.2 k)) 0) = 2 ^ a ||| 2 ^ b := by rw [show fn (r_mls (τ.now.2.2 k)) 0 = 10 * a + b from ev, tkb_ab hb]
          rw [show d_shake τ k = _ from if_neg hm, em, et]
          have pa_ : (2 ^ a : Nat) < 2 ^ 31 := Nat.pow_lt_pow_right (by omega) (by omega)
          have pb_ : (2 ^ b : Nat) < 2 ^ 31 := Nat.pow_lt_pow_right (by omega) (by omega)
          have hlen := kp_len (τ.now.2.2 k).2.2 (2 ^ a ||| 2 ^ b) (2 * (τ.now.2.2 k).1)
          have hmny := RT_mny (RT_kp (S := 2 ^ a ||| 2 ^ b) (VT_RT hV))
          refine u_iloadn (k := 18) rfl rfl ?_
          refine a_if_ne (k := 19) rfl (fun c_29 => ?_) (fun c_29 => ?_)
          · omega
          · refine u_iloadn (k := 20) rfl rfl ?_
            refine a_if_lt (k := 21) rfl (fun c_33 => ?_) (fun c_33 => ?_)
            · omega
            · refine u_aloadn (k := 22) rfl rfl ?_
              refine a_iconst (k := 23) rfl ?_
              refine u_iloadn (k := 24) rfl rfl ?_
              refine a_bipush (k := 25) rfl ?_
              refine u_idiv (k := 26) rfl (by omega) (by omega) ?_
              rw [show (((10 * a + b : Nat) : Int) / 10) = (a : Int) by omega]
              refine a_ishl (k := 27) rfl ?_
              rw [shl1 (by omega)]
              refine a_iconst (k := 28) rfl ?_
              refine u_iloadn (k := 29) rfl rfl ?_
              refine a_bipush (k := 30) rfl ?_
              refine u_irem (k := 31) rfl (by omega) (by omega) ?_
              rw [show (((10 * a + b : Nat) : Int) % 10) = (b : Int) by omega]
              refine a_ishl (k := 32) rfl ?_
              rw [shl1 (by omega)]
              refine a_ior (k := 33) rfl ?_
              rw [ior_nat pa_ pb_]
              refine uv_virt1 (M' := mX11_drops) (k := 34) rfl lRX11_283 oX11_drops vX11_drops ⟨Nat.le_of_ble_eq_true rfl, Nat.le_of_ble_eq_true rfl⟩ rfl rfl (Nat.le_of_ble_eq_true rfl) (m_drops _ _ (2 ^ a ||| 2 ^ b) _ g2 (by omega) (Nat.or_lt_two_pow pa_ pb_) hR2 (hV.b h8)) (by intro r g hp; exact hp.1) (fun g5 hg5 => ?_)
              obtain ⟨-, hR5, hF5⟩ := hg5
              refine u_aloadn (k := 35) rfl rfl ?_
              refine u_iloadn (k := 36) rfl rfl ?_
              refine uv_virt1 (M' := mX11_stores) (k := 37) rfl lRX11_162 oX11_stores vX11_stores ⟨Nat.le_of_ble_eq_true rfl, Nat.le_of_ble_eq_true rfl⟩ rfl rfl (Nat.le_of_ble_eq_true rfl) (m_put (r_take (τ.now.2.2 k) (2 ^ a ||| 2 ^ b)) hW (hM2.scr hW (Fs_of hF5 (by simp [tms]) (by simp [kms]))) hk (by omega) (by omega) hR5 (kp_lt (hV.b h8)) (by unfold r_take; dsimp only; omega) (by unfold r_take; dsimp only; congr 1; omega) (fun _ _ => rfl)) (by intro r g hp; exact hp.1) (fun g6 hg6 => ?_)
              obtain ⟨-, hM6, hF6, hRM6⟩ := hg6
              refine a_goto (k := 38) rfl ?_
              refine a_return (k := 101) rfl rfl ?_
              exact ⟨rfl, hM6, (hfm2.tr (Fr.mo hF5 (by simp) (by simp))).tr (Fq.mo hF6 (by simp) (by simp))⟩
      · have eg : d_go τ 1 k = d_curl τ k := (if_neg (by omega)).trans (if_pos rfl)
        rw [eg]
        by_cases hc : (τ.now.2.2 k).1 < 8
        · rw [show d_curl τ k = _ from if_pos hc]
          have hb2 : drw (nxt τ.drawn) 2 < 2 := drw_lt _ (by omega)
          have ha2 : drw τ.drawn (2 * (τ.now.2.2 k).1 + 1) < 2 * (τ.now.2.2 k).1 + 1 := drw_lt _ (by omega)
          have hWd1 := hW.wdr (nxt_lt τ.drawn)
          have hMd1 := hM2.wdr hW (nxt τ.drawn)
          have hWd2 := hW.wdr (nxt_lt (nxt τ.drawn))
          have hMd2 : MR (τ.wdr (nxt (nxt τ.drawn))) (put (put g2 40 0 3 (nxt τ.drawn : Int)) 40 0 3 (nxt (nxt τ.drawn) : Int)) := by
            have z := hMd1.wdr hWd1 (nxt (nxt τ.drawn))
            rw [wdr_wdr] at z
            exact z
          have T105 : ∀ v : Int, v = (drw (nxt τ.drawn) 2 : Int) → AW mX11_drifts (fun z g => z = none ∧ MR ((τ.wdr (nxt (nxt τ.drawn))).setR k (r_curl (τ.now.2.2 k) (drw τ.drawn (2 * (τ.now.2.2 k).1 + 1)) (drw (nxt τ.drawn) 2))) g ∧ FMo h g) 105 [(4, vi (drw τ.drawn (2 * (τ.now.2.2 k).1 + 1) : Int)), (3, vi (mvo (r_mls (τ.now.2.2 k)) 0)), (2, vi k), (1, vi (1 : Nat)), (0, vr 40 0)] [vi v, vi (drw τ.drawn (2 * (τ.now.2.2 k).1 + 1) : Int), vi k, vr 40 0] (put (put g2 40 0 3 (nxt τ.drawn : Int)) 40 0 3 (nxt (nxt τ.drawn) : Int)) := by
            intro v hv
            subst hv
            refine uv_virt3 (M' := mX11_curls) (k := 64) rfl lRX11_286 oX11_curls vX11_curls ⟨Nat.le_of_ble_eq_true rfl, Nat.le_of_ble_eq_true rfl⟩ rfl rfl (Nat.le_of_ble_eq_true rfl) (m_curls hWd2 hMd2 hk (drw τ.drawn (2 * (τ.now.2.2 k).1 + 1)) (drw (nxt τ.drawn) 2) (show drw τ.drawn (2 * (τ.now.2.2 k).1 + 1) ≤ 2 * (τ.now.2.2 k).1 by omega) hb2 hc) (by intro r g hp; exact hp.1) (fun g4 hg4 => ?_)
            obtain ⟨-, hM4, hF4, -⟩ := hg4
            refine a_goto (k := 65) rfl ?_
            refine a_return (k := 101) rfl rfl ?_
            exact ⟨rfl, hM4, ((hfm2.pt (by omega)).pt (by omega)).tr hF4⟩
          refine u_iloadn (k := 18) rfl rfl ?_
          refine a_if_ne (k := 19) rfl (fun c_29 => ?_) (fun c_29 => ?_)
          · refine u_iloadn (k := 39) rfl rfl ?_
            refine a_iconst (k := 40) rfl ?_
            refine a_icmp_ne (k := 41) rfl (fun c_63 => ?_) (fun c_63 => ?_)
            · omega
            · refine u_aloadn (k := 42) rfl rfl ?_
              refine a_geti (k := 43) rfl fRX11_156 rfl rfl ?_
              refine a_bipush (k := 44) rfl ?_
              refine a_icmp_ge (k := 45) rfl (fun c_72 => ?_) (fun c_72 => ?_)
              · omega
              · refine u_aloadn (k := 46) rfl rfl ?_
                refine u_aloadn (k := 47) rfl rfl ?_
                refine a_geti (k := 48) rfl fRX11_156 rfl rfl ?_
                refine a_iconst (k := 49) rfl ?_
                rw [hr20]
                refine u_iadd (k := 50) rfl (by omega) ?_
                rw [show (((2 * (τ.now.2.2 k).1 : Nat) : Int) + 1) = ((2 * (τ.now.2.2 k).1 + 1 : Nat) : Int) by omega]
                refine i_virt1 (M' := mX11_draw) (k := 51) rfl lRX11_303 oX11_draw vX11_draw ⟨Nat.le_of_ble_eq_true rfl, Nat.le_of_ble_eq_true rfl⟩ rfl rfl (Nat.le_of_ble_eq_true rfl) (m_draw hM2.drawn hdr (by omega)) ?_
                refine a_istore (k := 52) (lv' := [(4, _), (3, _), (2, _), (1, _), (0, _)]) rfl (Nat.le_of_ble_eq_true rfl) rfl ?_
                refine u_aloadn (k := 53) rfl rfl ?_
                refine u_iloadn (k := 54) rfl rfl ?_
                refine u_iload (k := 55) rfl rfl ?_
                refine u_aloadn (k := 56) rfl rfl ?_
                refine a_iconst (k := 57) rfl ?_
                refine i_virt1 (M' := mX11_draw) (k := 58) rfl lRX11_303 oX11_draw vX11_draw ⟨Nat.le_of_ble_eq_true rfl, Nat.le_of_ble_eq_true rfl⟩ rfl rfl (Nat.le_of_ble_eq_true rfl) (m_draw (d := nxt τ.drawn) (n := 2) (by rw [put_eq]) (nxt_lt _) (by omega)) ?_
                refine a_iconst (k := 59) rfl ?_
                refine a_icmp_ne (k := 60) rfl (fun c_97 => ?_) (fun c_97 => ?_)
                · refine a_iconst (k := 63) rfl ?_
                  first
                    | exact T105 _ (by omega)
                · refine a_iconst (k := 61) rfl ?_
                  refine a_goto (k := 62) rfl ?_
                  first
                    | exact T105 _ (by omega)
          · omega
        · rw [show d_curl τ k = τ from if_neg hc]
          refine u_iloadn (k := 18) rfl rfl ?_
          refine a_if_ne (k := 19) rfl (fun c_29 => ?_) (fun c_29 => ?_)
          · refine u_iloadn (k := 39) rfl rfl ?_
            refine a_iconst (k := 40) rfl ?_
            refine a_icmp_ne (k := 41) rfl (fun c_63 => ?_) (fun c_63 => ?_)
            · omega
            · refine u_aloadn (k := 42) rfl rfl ?_
              refine a_geti (k := 43) rfl fRX11_156 rfl rfl ?_
              refine a_bipush (k := 44) rfl ?_
              refine a_icmp_ge (k := 45) rfl (fun c_72 => ?_) (fun c_72 => ?_)
              · refine u_iloadn (k := 66) rfl rfl ?_
                refine a_iconst (k := 67) rfl ?_
                refine a_icmp_ne (k := 68) rfl (fun c_113 => ?_) (fun c_113 => ?_)
                · refine u_iloadn (k := 86) rfl rfl ?_
                  refine a_iconst (k := 87) rfl ?_
                  refine a_icmp_ne (k := 88) rfl (fun c_149 => ?_) (fun c_149 => ?_)
                  · refine u_iloadn (k := 95) rfl rfl ?_
                    refine a_iconst (k := 96) rfl ?_
                    refine a_icmp_ne (k := 97) rfl (fun c_166 => ?_) (fun c_166 => ?_)
                    · refine a_return (k := 101) rfl rfl ?_
                      exact ⟨rfl, hM2, hfm2⟩
                    · omega
                  · omega
                · omega
              · omega
          · omega
      · have eg : d_go τ 2 k = if 0 < (τ.now.2.2 k).1 then (τ.wdr (nxt τ.drawn)).setR k (r_sw (τ.now.2.2 k) (2 ^ drw τ.drawn (τ.now.2.2 k).1)) else τ := (if_neg (by omega)).trans ((if_neg (by omega)).trans (if_pos rfl))
        rw [eg]
        by_cases hc : 0 < (τ.now.2.2 k).1
        · rw [if_pos hc]
          have hdd : drw τ.drawn (τ.now.2.2 k).1 < (τ.now.2.2 k).1 := drw_lt _ hc
          have pd_ : (2 ^ drw τ.drawn (τ.now.2.2 k).1 : Nat) < 2 ^ 31 := Nat.pow_lt_pow_right (by omega) (by omega)
          have hWd1 := hW.wdr (nxt_lt τ.drawn)
          have hMd1 := hM2.wdr hW (nxt τ.drawn)
          have hRd1 : RW (2 * (τ.now.2.2 k).1) (τ.now.2.2 k).2.2 (τ.now.2.2 k).2.1 (put g2 40 0 3 (nxt τ.drawn : Int)) := hR2.keep (by simp only [put_apply, Nat.reduceEqDiff, reduceIte, false_and, and_false, true_and, and_true, and_self, if_false, if_true, not_false_eq_true, not_true_eq_false, ne_eq]) (by simp only [put_apply, Nat.reduceEqDiff, reduceIte, false_and, and_false, true_and, and_true, and_self, if_false, if_true, not_false_eq_true, not_true_eq_false, ne_eq]) (fun k => by simp only [put_apply, Nat.reduceEqDiff, reduceIte, false_and, and_false, true_and, and_true, and_self, if_false, if_true, not_false_eq_true, not_true_eq_false, ne_eq])
          have hWs : WR (r_sw (τ.now.2.2 k) (2 ^ drw τ.drawn (τ.now.2.2 k).1)) := WR_sw hWr
          refine u_iloadn (k := 18) rfl rfl ?_
          refine a_if_ne (k := 19) rfl (fun c_29 => ?_) (fun c_29 => ?_)
          · refine u_iloadn (k := 39) rfl rfl ?_
            refine a_iconst (k := 40) rfl ?_
            refine a_icmp_ne (k := 41) rfl (fun c_63 => ?_) (fun c_63 => ?_)
            · refine u_iloadn (k := 66) rfl rfl ?_
              refine a_iconst (k := 67) rfl ?_
              refine a_icmp_ne (k := 68) rfl (fun c_113 => ?_) (fun c_113 => ?_)
              · omega
              · refine u_aloadn (k := 69) rfl rfl ?_
                refine a_geti (k := 70) rfl fRX11_156 rfl rfl ?_
                refine a_if_le (k := 71) rfl (fun c_120 => ?_) (fun c_120 => ?_)
                · omega
                · refine u_aloadn (k := 72) rfl rfl ?_
                  refine a_iconst (k := 73) rfl ?_
                  refine u_aloadn (k := 74) rfl rfl ?_
                  refine u_aloadn (k := 75) rfl rfl ?_
                  refine a_geti (k := 76) rfl fRX11_156 rfl rfl ?_
                  refine a_iconst (k := 77) rfl ?_
                  rw [hr20]
                  refine u_idiv (k := 78) rfl (by omega) (by omega) ?_
                  rw [show (((2 * (τ.now.2.2 k).1 : Nat) : Int) / 2) = ((τ.now.2.2 k).1 : Int) by omega]
                  refine i_virt1 (M' := mX11_draw) (k := 79) rfl lRX11_303 oX11_draw vX11_draw ⟨Nat.le_of_ble_eq_true rfl, Nat.le_of_ble_eq_true rfl⟩ rfl rfl (Nat.le_of_ble_eq_true rfl) (m_draw hM2.drawn hdr hc) ?_
                  refine a_ishl (k := 80) rfl ?_
                  rw [shl1 (by omega)]
                  refine uv_virt1 (M' := mX11_turns) (k := 81) rfl lRX11_239 oX11_turns vX11_turns ⟨Nat.le_of_ble_eq_true rfl, Nat.le_of_ble_eq_true rfl⟩ rfl rfl (Nat.le_of_ble_eq_true rfl) (m_turns _ _ (2 ^ drw τ.drawn (τ.now.2.2 k).1) _ _ (by omega) pd_ hRd1 (hV.b h8)) (by intro r g hp; exact hp.1) (fun g3 hg3 => ?_)
                  obtain ⟨-, hR3, hF3⟩ := hg3
                  refine u_aloadn (k := 82) rfl rfl ?_
                  refine u_iloadn (k := 83) rfl rfl ?_
                  refine uv_virt1 (M' := mX11_stores) (k := 84) rfl lRX11_162 oX11_stores vX11_stores ⟨Nat.le_of_ble_eq_true rfl, Nat.le_of_ble_eq_true rfl⟩ rfl rfl (Nat.le_of_ble_eq_true rfl) (m_put (r_sw (τ.now.2.2 k) (2 ^ drw τ.drawn (τ.now.2.2 k).1)) hWd1 (hMd1.scr hWd1 (Fs_of hF3 (by simp [tms]) (by simp [kms]))) hk (by omega) (by omega) hR3 (hWs.2.2.1.b h8) rfl (rsl_WR hWs) (fun i hi => hWs.2.2.2 i hi)) (by intro r g hp; exact hp.1) (fun g4 hg4 => ?_)
                  obtain ⟨-, hM4, hF4, -⟩ := hg4
                  refine a_goto (k := 85) rfl ?_
                  refine a_return (k := 101) rfl rfl ?_
                  exact ⟨rfl, hM4, ((hfm2.pt (by omega)).tr (Fr.mo hF3 (by simp) (by simp))).tr (Fq.mo hF4 (by simp) (by simp))⟩
            · omega
          · omega
        · rw [if_neg hc]
          refine u_iloadn (k := 18) rfl rfl ?_
          refine a_if_ne (k := 19) rfl (fun c_29 => ?_) (fun c_29 => ?_)
          · refine u_iloadn (k := 39) rfl rfl ?_
            refine a_iconst (k := 40) rfl ?_
            refine a_icmp_ne (k := 41) rfl (fun c_63 => ?_) (fun c_63 => ?_)
            · refine u_iloadn (k := 66) rfl rfl ?_
              refine a_iconst (k := 67) rfl ?_
              refine a_icmp_ne (k := 68) rfl (fun c_113 => ?_) (fun c_113 => ?_)
              · omega
              · refine u_aloadn (k := 69) rfl rfl ?_
                refine a_geti (k := 70) rfl fRX11_156 rfl rfl ?_
                refine a_if_le (k := 71) rfl (fun c_120 => ?_) (fun c_120 => ?_)
                · refine u_iloadn (k := 86) rfl rfl ?_
                  refine a_iconst (k := 87) rfl ?_
                  refine a_icmp_ne (k := 88) rfl (fun c_149 => ?_) (fun c_149 => ?_)
                  · refine u_iloadn (k := 95) rfl rfl ?_
                    refine a_iconst (k := 96) rfl ?_
                    refine a_icmp_ne (k := 97) rfl (fun c_166 => ?_) (fun c_166 => ?_)
                    · refine a_return (k := 101) rfl rfl ?_
                      exact ⟨rfl, hM2, hfm2⟩
                    · omega
                  · omega
                · omega
            · omega
          · omega
      · have eg : d_go τ 3 k = τ.setR k (r_rev (τ.now.2.2 k)) := (if_neg (by omega)).trans ((if_neg (by omega)).trans ((if_neg (by omega)).trans (if_pos rfl)))
        rw [eg]
        refine u_iloadn (k := 18) rfl rfl ?_
        refine a_if_ne (k := 19) rfl (fun c_29 => ?_) (fun c_29 => ?_)
        · refine u_iloadn (k := 39) rfl rfl ?_
          refine a_iconst (k := 40) rfl ?_
          refine a_icmp_ne (k := 41) rfl (fun c_63 => ?_) (fun c_63 => ?_)
          · refine u_iloadn (k := 66) rfl rfl ?_
            refine a_iconst (k := 67) rfl ?_
            refine a_icmp_ne (k := 68) rfl (fun c_113 => ?_) (fun c_113 => ?_)
            · refine u_iloadn (k := 86) rfl rfl ?_
              refine a_iconst (k := 87) rfl ?_
              refine a_icmp_ne (k := 88) rfl (fun c_149 => ?_) (fun c_149 => ?_)
              · omega
              · refine u_aloadn (k := 89) rfl rfl ?_
                refine uv_virt0 (M' := mX11_reverses) (k := 90) rfl lRX11_270 oX11_reverses vX11_reverses ⟨Nat.le_of_ble_eq_true rfl, Nat.le_of_ble_eq_true rfl⟩ rfl rfl (Nat.le_of_ble_eq_true rfl) (m_reverses _ _ _ g2 (by omega) hR2) (by intro r g hp; exact hp.1) (fun g3 hg3 => ?_)
                obtain ⟨-, hR3, hF3⟩ := hg3
                refine u_aloadn (k := 91) rfl rfl ?_
                refine u_iloadn (k := 92) rfl rfl ?_
                refine uv_virt1 (M' := mX11_stores) (k := 93) rfl lRX11_162 oX11_stores vX11_stores ⟨Nat.le_of_ble_eq_true rfl, Nat.le_of_ble_eq_true rfl⟩ rfl rfl (Nat.le_of_ble_eq_true rfl) (m_put (r_rev (τ.now.2.2 k)) hW (hM2.scr hW (Fs_of hF3 (by simp [tms]) (by simp [kms]))) hk (by omega) (by omega) hR3 ((VT_rvf hWr.2.2.1).b h8) rfl rfl (fun _ _ => rfl)) (by intro r g hp; exact hp.1) (fun g4 hg4 => ?_)
                obtain ⟨-, hM4, hF4, -⟩ := hg4
                refine a_goto (k := 94) rfl ?_
                refine a_return (k := 101) rfl rfl ?_
                exact ⟨rfl, hM4, (hfm2.tr (Fr.mo hF3 (by simp) (by simp))).tr (Fq.mo hF4 (by simp) (by simp))⟩
            · omega
          · omega
        · omega
      · have eg : d_go τ 4 k = τ.setR k (r_roll (τ.now.2.2 k)) := (if_neg (by omega)).trans ((if_neg (by omega)).trans ((if_neg (by omega)).trans (if_neg (by omega))))
        rw [eg]
        refine u_iloadn (k := 18) rfl rfl ?_
        refine a_if_ne (k := 19) rfl (fun c_29 => ?_) (fun c_29 => ?_)
        · refine u_iloadn (k := 39) rfl rfl ?_
          refine a_iconst (k := 40) rfl ?_
          refine a_icmp_ne (k := 41) rfl (fun c_63 => ?_) (fun c_63 => ?_)
          · refine u_iloadn (k := 66) rfl rfl ?_
            refine a_iconst (k := 67) rfl ?_
            refine a_icmp_ne (k := 68) rfl (fun c_113 => ?_) (fun c_113 => ?_)
            · refine u_iloadn (k := 86) rfl rfl ?_
              refine a_iconst (k := 87) rfl ?_
              refine a_icmp_ne (k := 88) rfl (fun c_149 => ?_) (fun c_149 => ?_)
              · refine u_iloadn (k := 95) rfl rfl ?_
                refine a_iconst (k := 96) rfl ?_
                refine a_icmp_ne (k := 97) rfl (fun c_166 => ?_) (fun c_166 => ?_)
                · omega
                · refine u_aloadn (k := 98) rfl rfl ?_
                  refine u_iloadn (k := 99) rfl rfl ?_
                  refine uv_virt1 (M' := mX11_rolls) (k := 100) rfl lRX11_290 oX11_rolls vX11_rolls ⟨Nat.le_of_ble_eq_true rfl, Nat.le_of_ble_eq_true rfl⟩ rfl rfl (Nat.le_of_ble_eq_true rfl) (m_rolls hW hM2 hk) (by intro r g hp; exact hp.1) (fun g4 hg4 => ?_)
                  obtain ⟨-, hM4, hF4, -⟩ := hg4
                  refine a_return (k := 101) rfl rfl ?_
                  exact ⟨rfl, hM4, hfm2.tr hF4⟩
              · omega
            · omega
          · omega
        · omega
    refine u_aloadn (k := 11) rfl rfl ?_
    refine u_iloadn (k := 12) rfl rfl ?_
    refine uv_virt1 (M' := mX11_loads) (k := 13) rfl lRX11_211 oX11_loads vX11_loads ⟨Nat.le_of_ble_eq_true rfl, Nat.le_of_ble_eq_true rfl⟩ rfl rfl (Nat.le_of_ble_eq_true rfl) (m_loads k _ g (by omega) h8 (hM.slot hk)) (by intro r g hp; exact hp.1) (fun g2 hg2 => ?_)
    obtain ⟨-, hR2, hF2⟩ := hg2
    refine u_aloadn (k := 14) rfl rfl ?_
    refine a_iconst (k := 15) rfl ?_
    refine ui_virt1 (M' := mX11_moveOf) (k := 16) rfl lRX11_214 oX11_moveOf vX11_moveOf ⟨Nat.le_of_ble_eq_true rfl, Nat.le_of_ble_eq_true rfl⟩ rfl rfl (Nat.le_of_ble_eq_true rfl) (m_moveOf _ _ 0 _ g2 h8 hV (by omega) hR2) (by intro r g hp; exact ⟨_, hp.1⟩) (fun z g3 hg3 => ?_)
    obtain ⟨hz, hF3⟩ := hg3; cases hz
    refine a_istoren (k := 17) (lv' := [(3, _), (2, _), (1, _), (0, _)]) rfl (Nat.le_of_ble_eq_true rfl) rfl ?_
    exact T28 g3 ((hM.scr hW (Fs_of hF2 (by simp [tms]) (by simp [kms]))).scr hW (Fs_of hF3 (by simp [tms]) (by simp [kms]))) (hR2.keep (hF3 40 0 20 (by simp) (by simp)) (hF3 40 0 24 (by simp) (by simp)) (fun k => hF3 50 0 k (by simp) (by simp))) (hfm.tr ((Fr.mo hF2 (by simp) (by simp)).tr (Fr.mo hF3 (by simp) (by simp))))
  refine Sp.of rfl kX11_drifts (Nat.le_of_ble_eq_true rfl) ?_
  refine u_aloadn (k := 0) rfl rfl ?_
  refine a_iconst (k := 1) rfl ?_
  refine i_virt1 (M' := mX11_draw) (k := 2) rfl lRX11_303 oX11_draw vX11_draw ⟨Nat.le_of_ble_eq_true rfl, Nat.le_of_ble_eq_true rfl⟩ rfl rfl (Nat.le_of_ble_eq_true rfl) (m_draw (n := 5) hM.drawn hW.drawn (by omega)) ?_
  refine a_istoren (k := 3) (lv' := [(1, _), (0, _)]) rfl (Nat.le_of_ble_eq_true rfl) rfl ?_
  refine u_aloadn (k := 4) rfl rfl ?_
  refine u_aloadn (k := 5) rfl rfl ?_
  refine a_getr (k := 6) rfl fRX11_7 rfl rfl rfl ?_
  refine a_iconst (k := 7) rfl ?_
  refine u_ialdx 1 (k := 8) rfl rfl rfl (by omega) (by omega) ?_
  rw [put_ne (by simp), show h 41 0 1 = (σ.now.1 : Int) from hM.now.2.1]
  refine i_virt1 (M' := mX11_draw) (k := 9) rfl lRX11_303 oX11_draw vX11_draw ⟨Nat.le_of_ble_eq_true rfl, Nat.le_of_ble_eq_true rfl⟩ rfl rfl (Nat.le_of_ble_eq_true rfl) (m_draw (d := nxt σ.drawn) (by rw [put_eq]) (nxt_lt _) hn) ?_
  refine a_istoren (k := 10) (lv' := [(2, _), (1, _), (0, _)]) rfl (Nat.le_of_ble_eq_true rfl) rfl ?_
  exact key _ _ _ _ h5 hW2 hM2 hk hd5 hfm2
