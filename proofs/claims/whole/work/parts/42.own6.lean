/-! draws -/
theorem land31 {x : Nat} (h : x < 2 ^ 63) : land_ (x : Int) 2147483647 = ((x % 2 ^ 31 : Nat) : Int) := by
  have e : Int64.ofInt (x : Int) &&& Int64.ofInt 2147483647 = Int64.ofInt ((x % 2 ^ 31 : Nat) : Int) := by
    apply Int64.toBitVec_inj.mp
    rw [Int64.toBitVec_and]
    show BitVec.ofInt 64 (x : Int) &&& BitVec.ofInt 64 ((2147483647 : Nat) : Int) = BitVec.ofInt 64 ((x % 2 ^ 31 : Nat) : Int)
    rw [BitVec.ofInt_natCast, BitVec.ofInt_natCast, BitVec.ofInt_natCast]
    apply BitVec.eq_of_toNat_eq
    rw [BitVec.toNat_and, BitVec.toNat_ofNat, BitVec.toNat_ofNat, BitVec.toNat_ofNat]
    rw [Nat.mod_eq_of_lt (show x < 2 ^ 64 by omega), Nat.mod_eq_of_lt (show 2147483647 < 2 ^ 64 by omega), Nat.mod_eq_of_lt (show x % 2 ^ 31 < 2 ^ 64 by omega)]
    exact Nat.and_two_pow_sub_one_eq_mod x 31
  unfold land_
  rw [e]
  exact Int64.toInt_ofInt_of_le (by omega) (by omega)
theorem nxt_ex : ∃ F : Nat → Nat, ∀ d, F d = (d * 1103515245 + 12345) % 2 ^ 31 := ⟨_, fun _ => rfl⟩
noncomputable def nxt : Nat → Nat := Classical.choose nxt_ex
theorem nxt_eq (d : Nat) : nxt d = (d * 1103515245 + 12345) % 2 ^ 31 := Classical.choose_spec nxt_ex d
theorem nxt_lt (d : Nat) : nxt d < 2 ^ 31 := by rw [nxt_eq]; exact Nat.mod_lt _ (by decide)
noncomputable def drw (d n : Nat) : Nat := nxt d / 65536 % n
theorem x_draw {d n : Nat} {h : HH} (hd : h 0 0 13 = (d : Int)) (hd2 : d < 2 ^ 31) (hn : 0 < n) : SpI mX10_draw [vr 0 0, vi n] h (drw d n) (put h 0 0 13 (nxt d : Int)) := by
  have hx := nxt_lt d
  refine Sp.of rfl kX10_draw (Nat.le_of_ble_eq_true rfl) ?_
  refine u_aloadn (k := 0) rfl rfl ?_
  refine u_aloadn (k := 1) rfl rfl ?_
  refine a_geti (k := 2) rfl fRX10_282 rfl rfl ?_
  rw [hd]
  refine a_i2l (k := 3) rfl ?_
  refine a_ldc2 (k := 4) rfl nRX10_309 ⟨by decide, by decide⟩ ?_
  refine a_lmul (k := 5) rfl ?_
  rw [lm, w6_id (by omega) (by omega)]
  refine a_ldc2 (k := 6) rfl nRX10_311 ⟨by decide, by decide⟩ ?_
  refine a_ladd (k := 7) rfl ?_
  rw [la_, w6_id (by omega) (by omega), show ((d : Int) * 1103515245 + 12345) = ((d * 1103515245 + 12345 : Nat) : Int) by omega]
  refine a_ldc2 (k := 8) rfl nRX10_313 ⟨by decide, by decide⟩ ?_
  refine a_land (k := 9) rfl ?_
  rw [land31 (by omega)]
  refine a_l2i (k := 10) rfl ?_
  rw [w3_id (by omega) (by omega)]
  refine a_puti (k := 11) rfl pRX10_282 rfl rfl ?_
  refine u_aloadn (k := 12) rfl rfl ?_
  refine a_geti (k := 13) rfl fRX10_282 rfl rfl ?_
  rw [put_eq]
  refine a_ldcw (k := 14) rfl nRX10_315 ⟨by decide, by decide⟩ ?_
  refine u_idiv (k := 15) rfl (by omega) (by omega) ?_
  refine u_iloadn (k := 16) rfl rfl ?_
  rw [show ((((d * 1103515245 + 12345) % 2 ^ 31 : Nat) : Int) / 65536) = ((nxt d / 65536 : Nat) : Int) by rw [nxt_eq]; omega]
  refine i_stat2 (M' := mX10_leftOver) (k := 17) rfl lRX10_316 oX10_leftOver vX10_leftOver ⟨Nat.le_of_ble_eq_true rfl, Nat.le_of_ble_eq_true rfl⟩ rfl (Nat.le_of_ble_eq_true rfl) (x_leftOver _ n _ hn) ?_
  refine a_ireturn (k := 18) rfl rfl ?_
  exact ⟨rfl, by rw [nxt_eq]⟩
def AS.wdr (σ : AS) (d : Nat) : AS := mkA σ.now σ.laid σ.L σ.tx σ.fault d σ.cnt σ.hist σ.ents σ.book σ.kept σ.img σ.iseed
theorem wdr_wdr (σ : AS) (a b : Nat) : (σ.wdr a).wdr b = σ.wdr b := rfl
theorem CR.wdr {B : Nat} {σ : AS} {h : HH} (hW : WA B σ) (hC : CR σ h) (d : Nat) : CR (σ.wdr d) (put h 0 0 13 (d : Int)) :=
  hC.flds hW (fun t i k ht => by rw [put_ne (by omega)]) (by simp only [put_apply, Nat.reduceEqDiff, reduceIte, false_and, and_false, true_and, and_true, and_self, if_false, if_true, not_false_eq_true, not_true_eq_false, ne_eq]) rfl rfl (Nat.le_refl _) rfl (fun i hi hk => ⟨hk, by simp only [put_apply, Nat.reduceEqDiff, reduceIte, false_and, and_false, true_and, and_true, and_self, if_false, if_true, not_false_eq_true, not_true_eq_false, ne_eq]; exact (hC.img i hi hk).2⟩) (by simp only [put_apply, Nat.reduceEqDiff, reduceIte, false_and, and_false, true_and, and_true, and_self, if_false, if_true, not_false_eq_true, not_true_eq_false, ne_eq]; exact hC.laid) (by simp only [put_apply, Nat.reduceEqDiff, reduceIte, false_and, and_false, true_and, and_true, and_self, if_false, if_true, not_false_eq_true, not_true_eq_false, ne_eq]; exact hC.htr) (by simp only [put_apply, Nat.reduceEqDiff, reduceIte, false_and, and_false, true_and, and_true, and_self, if_false, if_true, not_false_eq_true, not_true_eq_false, ne_eq]; exact hC.L) (fun i hi => by simp only [put_apply, Nat.reduceEqDiff, reduceIte, false_and, and_false, true_and, and_true, and_self, if_false, if_true, not_false_eq_true, not_true_eq_false, ne_eq]; exact hC.tx i hi) (by simp only [put_apply, Nat.reduceEqDiff, reduceIte, false_and, and_false, true_and, and_true, and_self, if_false, if_true, not_false_eq_true, not_true_eq_false, ne_eq]; exact hC.fault) (by rw [put_eq]; rfl) (by simp only [put_apply, Nat.reduceEqDiff, reduceIte, false_and, and_false, true_and, and_true, and_self, if_false, if_true, not_false_eq_true, not_true_eq_false, ne_eq]; exact hC.cnt) (by simp only [put_apply, Nat.reduceEqDiff, reduceIte, false_and, and_false, true_and, and_true, and_self, if_false, if_true, not_false_eq_true, not_true_eq_false, ne_eq]; exact hC.ents) (fun i hi => by simp only [put_apply, Nat.reduceEqDiff, reduceIte, false_and, and_false, true_and, and_true, and_self, if_false, if_true, not_false_eq_true, not_true_eq_false, ne_eq]; exact hC.book i hi) (by simp only [put_apply, Nat.reduceEqDiff, reduceIte, false_and, and_false, true_and, and_true, and_self, if_false, if_true, not_false_eq_true, not_true_eq_false, ne_eq]; exact hC.kept)
theorem WA.wdr {B : Nat} {σ : AS} (hW : WA B σ) {d : Nat} (hd : d < 2 ^ 31) : WA B (σ.wdr d) := ⟨hW.now, hW.L, hW.tx, hd, hW.cnt, hW.hist, hW.ents, hW.img⟩
def d_shake (σ : AS) (k : Nat) : AS := if r_mls (σ.now.2.2 k) = [] then σ else σ.setR k (r_take (σ.now.2.2 k) (tkb (fn (r_mls (σ.now.2.2 k)) 0)))
theorem x_shakeFirst {B : Nat} {σ : AS} {h : HH} (hW : WA B σ) (hC : CR σ h) {k : Nat} (hk : k < σ.now.1) : Sp mX10_shakeByFirstMove [vr 0 0, vr 5 (5 * 1 + k)] h (fun r g => r = none ∧ CR (d_shake σ k) g ∧ FC h g) := by
  have hR := hC.RP hW hk
  by_cases hm : r_mls (σ.now.2.2 k) = []
  · rw [show d_shake σ k = σ from if_pos hm]
    refine Sp.of rfl kX10_shakeByFirstMove (Nat.le_of_ble_eq_true rfl) ?_
    refine u_aloadn (k := 0) rfl rfl ?_
    refine a_getr (k := 1) rfl fRX10_55 rfl rfl rfl ?_
    refine u_aloadn (k := 2) rfl rfl ?_
    refine uv_virt1 (M' := mX3_lookNow) (k := 3) rfl lRX10_172 oX3_lookNow vX3_lookNow ⟨Nat.le_of_ble_eq_true rfl, Nat.le_of_ble_eq_true rfl⟩ rfl rfl (Nat.le_of_ble_eq_true rfl) (x_lookNow (5 + k) _ _ _ h hR) (by intro r g hp; exact hp.1) (fun g hg => ?_)
    obtain ⟨-, hL, hF⟩ := hg
    refine u_aloadn (k := 4) rfl rfl ?_
    refine a_getr (k := 5) rfl fRX10_55 rfl rfl rfl ?_
    refine a_geti (k := 6) rfl fRX10_176 rfl rfl ?_
    rw [hL.1.1, show mls (σ.now.2.2 k).2.2 (σ.now.2.2 k).1 (2 ^ (σ.now.2.2 k).1 - 1) 0 (σ.now.2.2 k).2.1 = [] from hm]
    refine a_if_le (k := 7) rfl (fun c_15 => ?_) (fun c_15 => ?_)
    · refine a_return (k := 15) rfl rfl ?_
      exact ⟨rfl, hC.tml hW hF, FC_tml hF⟩
    · simp at c_15
  · rw [show d_shake σ k = _ from if_neg hm]
    obtain ⟨a, b, ha, hb, hab, hv, hmem⟩ := mls_0 (show mls (σ.now.2.2 k).2.2 (σ.now.2.2 k).1 (2 ^ (σ.now.2.2 k).1 - 1) 0 (σ.now.2.2 k).2.1 ≠ [] from hm)
    have hv : fn (r_mls (σ.now.2.2 k)) 0 = 10 * a + b := hv
    have hlen : 0 < (r_mls (σ.now.2.2 k)).length := List.length_pos_iff.mpr hm
    have hlen2 : (r_mls (σ.now.2.2 k)).length ≤ 36 := mls_len _ _ _ _ _
    have pa_ : (2 ^ a : Nat) < 2 ^ 31 := Nat.pow_lt_pow_right (by omega) (by omega)
    have pb_ : (2 ^ b : Nat) < 2 ^ 31 := Nat.pow_lt_pow_right (by omega) (by omega)
    have htk : tkb (10 * a + b) = 2 ^ a ||| 2 ^ b := by unfold tkb; rw [show (10 * a + b) / 10 = a by omega, show (10 * a + b) % 10 = b by omega]
    rw [hv, htk]
    refine Sp.of rfl kX10_shakeByFirstMove (Nat.le_of_ble_eq_true rfl) ?_
    refine u_aloadn (k := 0) rfl rfl ?_
    refine a_getr (k := 1) rfl fRX10_55 rfl rfl rfl ?_
    refine u_aloadn (k := 2) rfl rfl ?_
    refine uv_virt1 (M' := mX3_lookNow) (k := 3) rfl lRX10_172 oX3_lookNow vX3_lookNow ⟨Nat.le_of_ble_eq_true rfl, Nat.le_of_ble_eq_true rfl⟩ rfl rfl (Nat.le_of_ble_eq_true rfl) (x_lookNow (5 + k) _ _ _ h hR) (by intro r g hp; exact hp.1) (fun g hg => ?_)
    obtain ⟨-, hL, hF⟩ := hg
    refine u_aloadn (k := 4) rfl rfl ?_
    refine a_getr (k := 5) rfl fRX10_55 rfl rfl rfl ?_
    refine a_geti (k := 6) rfl fRX10_176 rfl rfl ?_
    rw [show g 17 0 5 = ((r_mls (σ.now.2.2 k)).length : Int) from hL.1.1]
    refine a_if_le (k := 7) rfl (fun c_15 => ?_) (fun c_15 => ?_)
    · omega
    · refine u_aloadn (k := 8) rfl rfl ?_
      refine u_aloadn (k := 9) rfl rfl ?_
      refine a_getr (k := 10) rfl fRX10_55 rfl rfl rfl ?_
      refine a_iconst (k := 11) rfl ?_
      refine i_virt1 (M' := mX3_moveAt) (k := 12) rfl lRX10_177 oX3_moveAt vX3_moveAt ⟨Nat.le_of_ble_eq_true rfl, Nat.le_of_ble_eq_true rfl⟩ rfl rfl (Nat.le_of_ble_eq_true rfl) (x_moveAt (r_mls (σ.now.2.2 k)) 0 g hL.1 hlen2) ?_
      rw [if_pos (by omega), show (0 : Int).toNat = 0 from rfl, hv]
      refine i_stat1 (M' := mX10_takenBy) (k := 13) rfl lRX10_306 oX10_takenBy vX10_takenBy ⟨Nat.le_of_ble_eq_true rfl, Nat.le_of_ble_eq_true rfl⟩ rfl (Nat.le_of_ble_eq_true rfl) (x_takenBy a b g ha hb) ?_
      refine uv_virt1 (M' := mX6_takeAway) (k := 14) rfl lRX10_199 oX6_takeAway vX6_takeAway ⟨Nat.le_of_ble_eq_true rfl, Nat.le_of_ble_eq_true rfl⟩ rfl rfl (Nat.le_of_ble_eq_true rfl) (x_takeAway (5 + k) _ _ (2 ^ a ||| 2 ^ b) _ g ((hC.tml hW hF).RP hW hk).1 hR.2.1 ((hC.tml hW hF).RP hW hk).2.2.1 hR.2.2.2.1 ((hC.tml hW hF).RP hW hk).2.2.2.2.1 hR.2.2.2.2.2 (Nat.or_lt_two_pow pa_ pb_)) (by intro r g hp; exact hp.1) (fun g2 hg2 => ?_)
      obtain ⟨-, hN, hF2⟩ := hg2
      refine a_return (k := 15) rfl rfl ?_
      exact ⟨rfl, (hC.tml hW hF).rope hW hk hF2 (hT4 k) (by simp) hN, (FC_tml hF).tr (FC4 hF2)⟩
noncomputable def d_curl (σ : AS) (k : Nat) : AS := if (σ.now.2.2 k).1 < 8 then (σ.wdr (nxt (nxt σ.drawn))).setR k (r_curl (σ.now.2.2 k) (drw σ.drawn (2 * (σ.now.2.2 k).1 + 1)) (drw (nxt σ.drawn) 2)) else σ
theorem x_curlByDraws {B : Nat} {σ : AS} {h : HH} (hW : WA B σ) (hC : CR σ h) {k : Nat} (hk : k < σ.now.1) : Sp mX10_curlByDraws [vr 0 0, vr 5 (5 * 1 + k)] h (fun r g => r = none ∧ CR (d_curl σ k) g ∧ FC h g) := by
  have hR := hC.RP hW hk
  have h8 := hR.2.1
  have hW1 := hW.wdr (nxt_lt σ.drawn)
  have hC1 := hC.wdr hW (nxt σ.drawn)
  have hC2 : CR (σ.wdr (nxt (nxt σ.drawn))) (put (put h 0 0 13 (nxt σ.drawn : Int)) 0 0 13 (nxt (nxt σ.drawn) : Int)) := by
    have z := hC1.wdr hW1 (nxt (nxt σ.drawn))
    rw [wdr_wdr] at z
    exact z
  have hW2 := hW.wdr (nxt_lt (nxt σ.drawn))
  have hR2 := hC2.RP hW2 hk
  by_cases hc : (σ.now.2.2 k).1 < 8
  · rw [show d_curl σ k = _ from if_pos hc]
    have ha : drw σ.drawn (2 * (σ.now.2.2 k).1 + 1) ≤ 2 * (σ.now.2.2 k).1 := Nat.le_of_lt_succ (Nat.mod_lt _ (by omega))
    have ho : drw (nxt σ.drawn) 2 < 2 := Nat.mod_lt _ (by omega)
    have T36 : ∀ b : Nat, b = drw (nxt σ.drawn) 2 → AW mX10_curlByDraws (fun r g => r = none ∧ CR ((σ.wdr (nxt (nxt σ.drawn))).setR k (r_curl (σ.now.2.2 k) (drw σ.drawn (2 * (σ.now.2.2 k).1 + 1)) (drw (nxt σ.drawn) 2))) g ∧ FC h g) 36 [(3, vi b), (2, vi (drw σ.drawn (2 * (σ.now.2.2 k).1 + 1) : Int)), (0, vr 0 0), (1, vr 5 (5 * 1 + k))] [] (put (put h 0 0 13 (nxt σ.drawn : Int)) 0 0 13 (nxt (nxt σ.drawn) : Int)) := by
      intro b hb
      subst hb
      refine u_aloadn (k := 21) rfl rfl ?_
      refine u_iloadn (k := 22) rfl rfl ?_
      refine u_iloadn (k := 23) rfl rfl ?_
      refine uv_virt2 (M' := mX6_addCurl) (k := 24) rfl lRX10_206 oX6_addCurl vX6_addCurl ⟨Nat.le_of_ble_eq_true rfl, Nat.le_of_ble_eq_true rfl⟩ rfl rfl (Nat.le_of_ble_eq_true rfl) (x_addCurl (5 + k) _ _ (drw σ.drawn (2 * (σ.now.2.2 k).1 + 1)) (drw (nxt σ.drawn) 2) _ _ hR2.1 hc hR2.2.2.1 hR2.2.2.2.1 hR2.2.2.2.2.1 hR2.2.2.2.2.2 ha ho) (by intro r g hp; exact hp.1) (fun g2 hg2 => ?_)
      obtain ⟨-, hN, hF⟩ := hg2
      refine a_return (k := 25) rfl rfl ?_
      exact ⟨rfl, hC2.rope hW2 hk hF (hT4 k) (by simp) hN, ((FC.rf.pt (by omega)).pt (by omega)).tr (FC4 hF)⟩
    refine Sp.of rfl kX10_curlByDraws (Nat.le_of_ble_eq_true rfl) ?_
    refine u_aloadn (k := 0) rfl rfl ?_
    refine a_geti (k := 1) rfl fRX10_146 rfl rfl ?_
    rw [show h 5 (5 * 1 + k) 2 = ((σ.now.2.2 k).1 : Int) from hR.1]
    refine a_bipush (k := 2) rfl ?_
    refine a_icmp_lt (k := 3) rfl (fun c_6 => ?_) (fun c_6 => ?_)
    · refine u_aloadn (k := 5) rfl rfl ?_
      refine u_aloadn (k := 6) rfl rfl ?_
      refine i_virt0 (M' := mX6_length) (k := 7) rfl lRX10_203 oX6_length vX6_length ⟨Nat.le_of_ble_eq_true rfl, Nat.le_of_ble_eq_true rfl⟩ rfl rfl (Nat.le_of_ble_eq_true rfl) (x_length (5 + k) _ h hR.1 hR.2.1) ?_
      refine a_iconst (k := 8) rfl ?_
      refine u_iadd (k := 9) rfl (by omega) ?_
      rw [show (((2 * (σ.now.2.2 k).1 : Nat) : Int) + 1) = ((2 * (σ.now.2.2 k).1 + 1 : Nat) : Int) by omega]
      refine i_virt1 (M' := mX10_draw) (k := 10) rfl lRX10_297 oX10_draw vX10_draw ⟨Nat.le_of_ble_eq_true rfl, Nat.le_of_ble_eq_true rfl⟩ rfl rfl (Nat.le_of_ble_eq_true rfl) (x_draw hC.drawn hW.drawn (by omega)) ?_
      refine a_istoren (k := 11) (lv' := [(2, _), (0, _), (1, _)]) rfl (Nat.le_of_ble_eq_true rfl) rfl ?_
      refine u_aloadn (k := 12) rfl rfl ?_
      refine a_iconst (k := 13) rfl ?_
      refine i_virt1 (M' := mX10_draw) (k := 14) rfl lRX10_297 oX10_draw vX10_draw ⟨Nat.le_of_ble_eq_true rfl, Nat.le_of_ble_eq_true rfl⟩ rfl rfl (Nat.le_of_ble_eq_true rfl) (x_draw (d := nxt σ.drawn) (n := 2) (by rw [put_eq]) (nxt_lt _) (by omega)) ?_
      refine a_iconst (k := 15) rfl ?_
      refine a_icmp_ne (k := 16) rfl (fun c_27 => ?_) (fun c_27 => ?_)
      · refine a_iconst (k := 19) rfl ?_
        refine a_istoren (k := 20) (lv' := [(3, _), (2, _), (0, _), (1, _)]) rfl (Nat.le_of_ble_eq_true rfl) rfl ?_
        first | exact T36 1 (by omega) | exact T36 0 (by omega)
      · refine a_iconst (k := 17) rfl ?_
        refine a_goto (k := 18) rfl ?_
        refine a_istoren (k := 20) (lv' := [(3, _), (2, _), (0, _), (1, _)]) rfl (Nat.le_of_ble_eq_true rfl) rfl ?_
        first | exact T36 1 (by omega) | exact T36 0 (by omega)
    · omega
  · rw [show d_curl σ k = _ from if_neg hc]
    refine Sp.of rfl kX10_curlByDraws (Nat.le_of_ble_eq_true rfl) ?_
    refine u_aloadn (k := 0) rfl rfl ?_
    refine a_geti (k := 1) rfl fRX10_146 rfl rfl ?_
    rw [show h 5 (5 * 1 + k) 2 = ((σ.now.2.2 k).1 : Int) from hR.1]
    refine a_bipush (k := 2) rfl ?_
    refine a_icmp_lt (k := 3) rfl (fun c_6 => ?_) (fun c_6 => ?_)
    · omega
    · refine a_return (k := 4) rfl rfl ?_
      exact ⟨rfl, hC, FC.rf⟩
noncomputable def d_go (τ : AS) (w k : Nat) : AS := if w = 0 then d_shake τ k else if w = 1 then d_curl τ k else if w = 2 then (if 0 < (τ.now.2.2 k).1 then (τ.wdr (nxt τ.drawn)).setR k (r_sw (τ.now.2.2 k) (2 ^ drw τ.drawn (τ.now.2.2 k).1)) else τ) else if w = 3 then τ.setR k (r_rev (τ.now.2.2 k)) else τ.setR k (r_roll (τ.now.2.2 k))
noncomputable def d_step (σ : AS) : AS := d_go (σ.wdr (nxt (nxt σ.drawn))) (drw σ.drawn 5) (drw (nxt σ.drawn) σ.now.1)
theorem x_driftOnce {B : Nat} {σ : AS} {h : HH} (hW : WA B σ) (hC : CR σ h) (hn : 0 < σ.now.1) : Sp mX10_driftOnce [vr 0 0] h (fun r g => r = none ∧ CR (d_step σ) g ∧ FC h g) := by
  have h5 := hW.now.1
  have hW1 := hW.wdr (nxt_lt σ.drawn)
  have hC1 := hC.wdr hW (nxt σ.drawn)
  have hC2 : CR (σ.wdr (nxt (nxt σ.drawn))) (put (put h 0 0 13 (nxt σ.drawn : Int)) 0 0 13 (nxt (nxt σ.drawn) : Int)) := by
    have z := hC1.wdr hW1 (nxt (nxt σ.drawn))
    rw [wdr_wdr] at z
    exact z
  have hW2 := hW.wdr (nxt_lt (nxt σ.drawn))
  have hk : drw (nxt σ.drawn) σ.now.1 < σ.now.1 := Nat.mod_lt _ hn
  have hw : drw σ.drawn 5 < 5 := Nat.mod_lt _ (by omega)
  have fc2 : FC h (put (put h 0 0 13 (nxt σ.drawn : Int)) 0 0 13 (nxt (nxt σ.drawn) : Int)) := (FC.rf.pt (by omega)).pt (by omega)
  have key : ∀ (g : HH) (τ : AS) (w k : Nat), WA B τ → CR τ g → k < τ.now.1 → w < 5 → FC h g → AW mX10_driftOnce (fun r g => r = none ∧ CR (d_go τ w k) g ∧ FC h g) 30 [(2, vr 5 (5 * 1 + k)), (1, vi w), (0, vr 0 0)] [] g := by
    intro g τ w k hW hC hk hw hfc
    have hR := hC.RP hW hk
    have h8 := hR.2.1
    have hz : (τ.now.2.2 k).1 ≤ 0 → (if 0 < (τ.now.2.2 k).1 then (τ.wdr (nxt τ.drawn)).setR k (r_sw (τ.now.2.2 k) (2 ^ drw τ.drawn (τ.now.2.2 k).1)) else τ) = τ := fun z => if_neg (by omega)
    refine u_iloadn (k := 16) rfl rfl ?_
    rcases (show ((w : Int) < 0 ∨ 3 < (w : Int)) ∨ (w : Int) = 0 ∨ (w : Int) = 1 ∨ (w : Int) = 2 ∨ (w : Int) = 3 by omega) with c_31 | c_31 | c_31 | c_31 | c_31
    · refine a_tabOut (k := 17) (t := 107) rfl c_31 (by decide) ?_
      rw [show d_go τ w k = τ.setR k (r_roll (τ.now.2.2 k)) by unfold d_go; rw [if_neg (by omega), if_neg (by omega), if_neg (by omega), if_neg (by omega)]]
      refine u_aloadn (k := 41) rfl rfl ?_
      refine uv_virt0 (M' := mX6_rollOnce) (k := 42) rfl lRX10_219 oX6_rollOnce vX6_rollOnce ⟨Nat.le_of_ble_eq_true rfl, Nat.le_of_ble_eq_true rfl⟩ rfl rfl (Nat.le_of_ble_eq_true rfl) (x_rollOnce (5 + k) _ _ _ g hR.1 hR.2.1 hR.2.2.1 hR.2.2.2.1 hR.2.2.2.2.1 hR.2.2.2.2.2) (by intro r g hp; exact hp.1) (fun g2 hg2 => ?_)
      obtain ⟨-, hN, hF⟩ := hg2; have hg2 : (none : Option AV) = none ∧ CR (τ.setR k (r_roll (τ.now.2.2 k))) g2 ∧ FC g g2 := ⟨rfl, hC.rope hW hk hF (hT4 k) (by simp) hN, FC4 hF⟩
      refine a_return (k := 43) rfl rfl ?_
      exact ⟨rfl, hg2.2.1, hfc.tr hg2.2.2⟩
    · refine a_tabIn (k := 17) (o := 29) (t := 60) rfl (by omega) (by omega) (by rw [c_31]; rfl) (by decide) ?_
      rw [show d_go τ w k = d_shake τ k by unfold d_go; rw [if_pos (by omega)]]
      refine u_aloadn (k := 18) rfl rfl ?_
      refine u_aloadn (k := 19) rfl rfl ?_
      refine uv_virt1 (M' := mX10_shakeByFirstMove) (k := 20) rfl lRX10_300 oX10_shakeByFirstMove vX10_shakeByFirstMove ⟨Nat.le_of_ble_eq_true rfl, Nat.le_of_ble_eq_true rfl⟩ rfl rfl (Nat.le_of_ble_eq_true rfl) (x_shakeFirst hW hC hk) (by intro r g hp; exact hp.1) (fun g2 hg2 => ?_)
      refine a_goto (k := 21) rfl ?_
      refine a_return (k := 43) rfl rfl ?_
      exact ⟨rfl, hg2.2.1, hfc.tr hg2.2.2⟩
    · refine a_tabIn (k := 17) (o := 37) (t := 68) rfl (by omega) (by omega) (by rw [c_31]; rfl) (by decide) ?_
      rw [show d_go τ w k = d_curl τ k by unfold d_go; rw [if_neg (by omega), if_pos (by omega)]]
      refine u_aloadn (k := 22) rfl rfl ?_
      refine u_aloadn (k := 23) rfl rfl ?_
      refine uv_virt1 (M' := mX10_curlByDraws) (k := 24) rfl lRX10_303 oX10_curlByDraws vX10_curlByDraws ⟨Nat.le_of_ble_eq_true rfl, Nat.le_of_ble_eq_true rfl⟩ rfl rfl (Nat.le_of_ble_eq_true rfl) (x_curlByDraws hW hC hk) (by intro r g hp; exact hp.1) (fun g2 hg2 => ?_)
      refine a_goto (k := 25) rfl ?_
      refine a_return (k := 43) rfl rfl ?_
      exact ⟨rfl, hg2.2.1, hfc.tr hg2.2.2⟩
    · refine a_tabIn (k := 17) (o := 45) (t := 76) rfl (by omega) (by omega) (by rw [c_31]; rfl) (by decide) ?_
      rw [show d_go τ w k = (if 0 < (τ.now.2.2 k).1 then (τ.wdr (nxt τ.drawn)).setR k (r_sw (τ.now.2.2 k) (2 ^ drw τ.drawn (τ.now.2.2 k).1)) else τ) by unfold d_go; rw [if_neg (by omega), if_neg (by omega), if_pos (by omega)]]
      refine u_aloadn (k := 26) rfl rfl ?_
      refine a_geti (k := 27) rfl fRX10_146 rfl rfl ?_
      rw [show g 5 (5 * 1 + k) 2 = ((τ.now.2.2 k).1 : Int) from hR.1]
      refine a_if_le (k := 28) rfl (fun c_80 => ?_) (fun c_80 => ?_)
      · rw [hz (by omega)]
        refine a_return (k := 43) rfl rfl ?_
        exact ⟨rfl, hC, hfc⟩
      · refine u_aloadn (k := 29) rfl rfl ?_
        refine a_iconst (k := 30) rfl ?_
        refine u_aloadn (k := 31) rfl rfl ?_
        refine u_aloadn (k := 32) rfl rfl ?_
        refine a_geti (k := 33) rfl fRX10_146 rfl rfl ?_
        rw [show g 5 (5 * 1 + k) 2 = ((τ.now.2.2 k).1 : Int) from hR.1, if_pos (by omega)]
        have hpos : 0 < (τ.now.2.2 k).1 := by omega
        have hlt : drw τ.drawn (τ.now.2.2 k).1 < (τ.now.2.2 k).1 := Nat.mod_lt _ hpos
        have he : (2 ^ drw τ.drawn (τ.now.2.2 k).1 : Nat) < 2 ^ 31 := Nat.pow_lt_pow_right (by omega) (by omega)
        have hCd := hC.wdr hW (nxt τ.drawn)
        have hWd := hW.wdr (nxt_lt τ.drawn)
        have hRd := hCd.RP hWd hk
        refine i_virt1 (M' := mX10_draw) (k := 34) rfl lRX10_297 oX10_draw vX10_draw ⟨Nat.le_of_ble_eq_true rfl, Nat.le_of_ble_eq_true rfl⟩ rfl rfl (Nat.le_of_ble_eq_true rfl) (x_draw hC.drawn hW.drawn hpos) ?_
        refine a_ishl (k := 35) rfl ?_
        rw [shl1 (by omega)]
        refine uv_virt1 (M' := mX6_switchSet) (k := 36) rfl lRX10_210 oX6_switchSet vX6_switchSet ⟨Nat.le_of_ble_eq_true rfl, Nat.le_of_ble_eq_true rfl⟩ rfl rfl (Nat.le_of_ble_eq_true rfl) (x_switchSet (5 + k) _ _ _ _ hRd.1 hRd.2.1 hRd.2.2.2.2.1 hRd.2.2.2.2.2 he) (by intro r g hp; exact hp.1) (fun g2 hg2 => ?_)
        obtain ⟨-, hN, hF⟩ := hg2; have hg2 : (none : Option AV) = none ∧ CR ((τ.wdr (nxt τ.drawn)).setR k (r_sw (τ.now.2.2 k) (2 ^ drw τ.drawn (τ.now.2.2 k).1))) g2 ∧ FC g g2 := ⟨rfl, hCd.rope hWd hk hF (hT1 k) (by simp) (RH_sw hRd hN hF), (FC.rf.pt (by omega)).tr (FC.rf.fr hF (by simp) (by simp))⟩
        refine a_goto (k := 37) rfl ?_
        refine a_return (k := 43) rfl rfl ?_
        exact ⟨rfl, hg2.2.1, hfc.tr hg2.2.2⟩
    · refine a_tabIn (k := 17) (o := 69) (t := 100) rfl (by omega) (by omega) (by rw [c_31]; rfl) (by decide) ?_
      rw [show d_go τ w k = τ.setR k (r_rev (τ.now.2.2 k)) by unfold d_go; rw [if_neg (by omega), if_neg (by omega), if_neg (by omega), if_pos (by omega)]]
      refine u_aloadn (k := 38) rfl rfl ?_
      refine uv_virt0 (M' := mX6_goTheOtherWay) (k := 39) rfl lRX10_213 oX6_goTheOtherWay vX6_goTheOtherWay ⟨Nat.le_of_ble_eq_true rfl, Nat.le_of_ble_eq_true rfl⟩ rfl rfl (Nat.le_of_ble_eq_true rfl) (x_otherWay (5 + k) _ _ _ g hR.1 hR.2.1 hR.2.2.1 hR.2.2.2.1 hR.2.2.2.2.1 hR.2.2.2.2.2) (by intro r g hp; exact hp.1) (fun g2 hg2 => ?_)
      obtain ⟨-, hN, hF⟩ := hg2; have hg2 : (none : Option AV) = none ∧ CR (τ.setR k (r_rev (τ.now.2.2 k))) g2 ∧ FC g g2 := ⟨rfl, hC.rope hW hk hF (hT4 k) (by simp) hN, FC4 hF⟩
      refine a_goto (k := 40) rfl ?_
      refine a_return (k := 43) rfl rfl ?_
      exact ⟨rfl, hg2.2.1, hfc.tr hg2.2.2⟩
  refine Sp.of rfl kX10_driftOnce (Nat.le_of_ble_eq_true rfl) ?_
  refine u_aloadn (k := 0) rfl rfl ?_
  refine a_iconst (k := 1) rfl ?_
  refine i_virt1 (M' := mX10_draw) (k := 2) rfl lRX10_297 oX10_draw vX10_draw ⟨Nat.le_of_ble_eq_true rfl, Nat.le_of_ble_eq_true rfl⟩ rfl rfl (Nat.le_of_ble_eq_true rfl) (x_draw (n := 5) hC.drawn hW.drawn (by omega)) ?_
  refine a_istoren (k := 3) (lv' := [(1, _), (0, _)]) rfl (Nat.le_of_ble_eq_true rfl) rfl ?_
  refine u_aloadn (k := 4) rfl rfl ?_
  refine a_getr (k := 5) rfl fRX10_26 rfl rfl rfl ?_
  refine u_aloadn (k := 6) rfl rfl ?_
  refine u_aloadn (k := 7) rfl rfl ?_
  refine a_getr (k := 8) rfl fRX10_26 rfl rfl rfl ?_
  refine a_geti (k := 9) rfl fRX10_120 rfl rfl ?_
  rw [put_ne (by omega), hC.now.1]
  refine i_virt1 (M' := mX10_draw) (k := 10) rfl lRX10_297 oX10_draw vX10_draw ⟨Nat.le_of_ble_eq_true rfl, Nat.le_of_ble_eq_true rfl⟩ rfl rfl (Nat.le_of_ble_eq_true rfl) (x_draw (d := nxt σ.drawn) (by rw [put_eq]) (nxt_lt _) hn) ?_
  refine r_virt1 (M' := mX9_ropeOf) (k := 11) rfl lRX10_141 oX9_ropeOf vX9_ropeOf ⟨Nat.le_of_ble_eq_true rfl, Nat.le_of_ble_eq_true rfl⟩ rfl rfl (Nat.le_of_ble_eq_true rfl) (x_ropeOf 1 (drw (nxt σ.drawn) σ.now.1) _ (hC2.yes hk) (by omega)) ?_
  refine a_astoren (k := 12) (lv' := [(2, _), (1, _), (0, _)]) rfl (Nat.le_of_ble_eq_true rfl) rfl ?_
  refine u_aloadn (k := 13) rfl rfl ?_
  refine a_nonnullR (k := 14) rfl ?_
  exact key _ (σ.wdr (nxt (nxt σ.drawn))) _ _ hW2 hC2 hk hw fc2
