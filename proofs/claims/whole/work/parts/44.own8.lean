theorem FC_of {h g : HH} {T : List (Nat × Nat)} (hF : Fr T [] h g) (hT : ∀ q ∈ T, q.1 < 40) : FC h g := FC.rf.fr hF hT (by simp)
def r_weak (r : Rp) : Nat := setT (fun d => decide (r_left r (2 ^ d) 0 = 0)) r.1
theorem RH.tml {j : Nat} {r : Rp} {h g : HH} (hR : RH j r h) (hF : Fr tml [] h g) : RH j r g := hR.keep (fun k => hF 5 j k (by simp [Jvm.Pilot.CPretzelProofLaw_law_r5939_cc273b.tml]) (by simp)) (fun k => hF 6 j k (by simp [Jvm.Pilot.CPretzelProofLaw_law_r5939_cc273b.tml]) (by simp))
theorem x_weak {j : Nat} {r : Rp} {h : HH} (hW : WR r) (hR : RH j r h) : Sp mX10_weakOnes [vr 0 0, vr 5 j] h (fun z g => z = some (vi (r_weak r : Int)) ∧ Fr tml [] h g) := by
  have h8 := hW.1
  have hp := p8 hW.1
  refine Sp.of rfl kX10_weakOnes (Nat.le_of_ble_eq_true rfl) ?_
  have Lp : ∀ (d k : Nat) (g : HH), k + d = r.1 → Fr tml [] h g → AW mX10_weakOnes (fun z g => z = some (vi (r_weak r : Int)) ∧ Fr tml [] h g) 4 [(0, vr 0 0), (1, vr 5 j), (2, vi (setT (fun d => decide (r_left r (2 ^ d) 0 = 0)) k : Int)), (3, vi k)] [] g := by
    intro d
    induction d with
    | zero =>
      intro k g hk hF
      have hRg := hR.tml hF
      refine u_iloadn (k := 4) rfl rfl ?_
      refine u_aloadn (k := 5) rfl rfl ?_
      refine a_geti (k := 6) rfl fRX10_146 rfl rfl ?_
      rw [hRg.1]
      refine a_icmp_ge (k := 7) rfl (fun c_9 => ?_) (fun c_9 => ?_)
      · refine u_iloadn (k := 27) rfl rfl ?_
        refine a_ireturn (k := 28) rfl rfl ?_
        exact ⟨by unfold r_weak; rw [show k = r.1 by omega], hF⟩
      · omega
    | succ d ih =>
      intro k g hk hF
      have hRg := hR.tml hF
      have hs := setT_lt (fun d => decide (r_left r (2 ^ d) 0 = 0)) k
      have hk2 : 2 ^ k ≤ 2 ^ 8 := Nat.pow_le_pow_right (by omega) (by omega)
      refine u_iloadn (k := 4) rfl rfl ?_
      refine u_aloadn (k := 5) rfl rfl ?_
      refine a_geti (k := 6) rfl fRX10_146 rfl rfl ?_
      rw [hRg.1]
      refine a_icmp_ge (k := 7) rfl (fun c_9 => ?_) (fun c_9 => ?_)
      · omega
      · refine u_aloadn (k := 8) rfl rfl ?_
        refine a_getr (k := 9) rfl fRX10_55 rfl rfl rfl ?_
        refine u_aloadn (k := 10) rfl rfl ?_
        refine u_aloadn (k := 11) rfl rfl ?_
        refine i_virt0 (M' := mX6_everyCrossing) (k := 12) rfl lRX10_216 oX6_everyCrossing vX6_everyCrossing ⟨Nat.le_of_ble_eq_true rfl, Nat.le_of_ble_eq_true rfl⟩ rfl rfl (Nat.le_of_ble_eq_true rfl) (x_every j _ g hRg.1 hW.1) ?_
        refine a_iconst (k := 13) rfl ?_
        refine u_iloadn (k := 14) rfl rfl ?_
        refine a_ishl (k := 15) rfl ?_
        rw [shl1 (by omega)]
        refine a_iconst (k := 16) rfl ?_
        refine ui_virt4 (M' := mX3_leftOf) (k := 17) rfl lRX10_285 oX3_leftOf vX3_leftOf ⟨Nat.le_of_ble_eq_true rfl, Nat.le_of_ble_eq_true rfl⟩ rfl rfl (Nat.le_of_ble_eq_true rfl) (x_leftOf j _ _ _ (2 ^ k) 0 _ g (r_RPof hW hRg) (show 2 ^ r.1 - 1 < 2 ^ 31 by omega) (by omega) (by omega)) (by intro r g hp; exact ⟨_, hp.1⟩) (fun z g2 hg2 => ?_)
        obtain ⟨hr, hF2⟩ := hg2; cases hr
        refine a_if_ne (k := 18) rfl (fun c_28 => ?_) (fun c_28 => ?_)
        · refine u_iinc (k := 25) (lv' := [(3, _), (0, _), (1, _), (2, _)]) rfl rfl (Nat.le_of_ble_eq_true rfl) (by omega) rfl ?_
          refine a_goto (k := 26) rfl ?_
          refine a_sub [1, 2, 3, 0] rfl ?_
          have := ih (k + 1) g2 (by omega) (hF.tr hF2 (fun _ q => q) (fun _ q => Or.inl q))
          rw [show setT (fun d => decide (r_left r (2 ^ d) 0 = 0)) (k + 1) = if (decide (r_left r (2 ^ k) 0 = 0)) then setT (fun d => decide (r_left r (2 ^ d) 0 = 0)) k ||| 2 ^ k else setT (fun d => decide (r_left r (2 ^ d) 0 = 0)) k from rfl] at this
          first
            | (rw [if_pos (decide_eq_true (show r_left r (2 ^ k) 0 = 0 from Int.ofNat.inj c_28))] at this; exact this)
            | (rw [if_neg (fun z => c_28 (congrArg Int.ofNat (show r_left r (2 ^ k) 0 = 0 from of_decide_eq_true z)))] at this; exact this)
        · refine u_iloadn (k := 19) rfl rfl ?_
          refine a_iconst (k := 20) rfl ?_
          refine u_iloadn (k := 21) rfl rfl ?_
          refine a_ishl (k := 22) rfl ?_
          rw [shl1 (by omega)]
          refine a_ior (k := 23) rfl ?_
          rw [ior_nat (by omega) (by omega)]
          refine a_istoren (k := 24) (lv' := [(2, _), (0, _), (1, _), (3, _)]) rfl (Nat.le_of_ble_eq_true rfl) rfl ?_
          refine u_iinc (k := 25) (lv' := [(3, _), (2, _), (0, _), (1, _)]) rfl rfl (Nat.le_of_ble_eq_true rfl) (by omega) rfl ?_
          refine a_goto (k := 26) rfl ?_
          refine a_sub [2, 3, 1, 0] rfl ?_
          have := ih (k + 1) g2 (by omega) (hF.tr hF2 (fun _ q => q) (fun _ q => Or.inl q))
          rw [show setT (fun d => decide (r_left r (2 ^ d) 0 = 0)) (k + 1) = if (decide (r_left r (2 ^ k) 0 = 0)) then setT (fun d => decide (r_left r (2 ^ d) 0 = 0)) k ||| 2 ^ k else setT (fun d => decide (r_left r (2 ^ d) 0 = 0)) k from rfl] at this
          first
            | (rw [if_pos (decide_eq_true (show r_left r (2 ^ k) 0 = 0 from Int.ofNat.inj c_28))] at this; exact this)
            | (rw [if_neg (fun z => c_28 (congrArg Int.ofNat (show r_left r (2 ^ k) 0 = 0 from of_decide_eq_true z)))] at this; exact this)
  refine a_iconst (k := 0) rfl ?_
  refine a_istoren (k := 1) (lv' := [(2, _), (0, _), (1, _)]) rfl (Nat.le_of_ble_eq_true rfl) rfl ?_
  refine a_iconst (k := 2) rfl ?_
  refine a_istoren (k := 3) (lv' := [(3, _), (2, _), (0, _), (1, _)]) rfl (Nat.le_of_ble_eq_true rfl) rfl ?_
  refine a_sub [2, 3, 1, 0] rfl ?_
  exact Lp r.1 0 h (by omega) Fr.rf
def r_odd (r : Rp) : Nat := setT (fun d => decide (pc_ (lys r.2.2 d (2 * r.1)) % 2 = 1)) r.1
theorem x_odd {j : Nat} {r : Rp} {h : HH} (hW : WR r) (hR : RH j r h) : Sp mX10_oddOnes [vr 5 j] h (fun z g => z = some (vi (r_odd r : Int)) ∧ g = h) := by
  have h8 := hW.1
  have hP := r_RPof hW hR
  refine Sp.of rfl kX10_oddOnes (Nat.le_of_ble_eq_true rfl) ?_
  have Lp : ∀ (d k : Nat), k + d = r.1 → AW mX10_oddOnes (fun z g => z = some (vi (r_odd r : Int)) ∧ g = h) 4 [(0, vr 5 j), (1, vi (setT (fun d => decide (pc_ (lys r.2.2 d (2 * r.1)) % 2 = 1)) k : Int)), (2, vi k)] [] h := by
    intro d
    induction d with
    | zero =>
      intro k hk
      refine u_iloadn (k := 4) rfl rfl ?_
      refine u_aloadn (k := 5) rfl rfl ?_
      refine a_geti (k := 6) rfl fRX10_146 rfl rfl ?_
      rw [hR.1]
      refine a_icmp_ge (k := 7) rfl (fun c_9 => ?_) (fun c_9 => ?_)
      · refine u_iloadn (k := 21) rfl rfl ?_
        refine a_ireturn (k := 22) rfl rfl ?_
        exact ⟨by unfold r_odd; rw [show k = r.1 by omega], rfl⟩
      · omega
    | succ d ih =>
      intro k hk
      have hs := setT_lt (fun d => decide (pc_ (lys r.2.2 d (2 * r.1)) % 2 = 1)) k
      have hk2 : 2 ^ k ≤ 2 ^ 8 := Nat.pow_le_pow_right (by omega) (by omega)
      have hly : lys r.2.2 k (2 * r.1) < 2 ^ r.1 := lys_lt (fun i hi => by have := hW.2.2.1.1 i hi; omega)
      have hp := p8 hW.1
      have hpc : pc_ (lys r.2.2 k (2 * r.1)) ≤ 32 := pct_le _ 32
      have hq : (if (decide (pc_ (lys r.2.2 k (2 * r.1)) % 2 = 1)) then 2 ^ k else 0) < 2 ^ 31 := by split <;> omega
      have e0 : ((pc_ (lys r.2.2 k (2 * r.1)) % 2 : Nat) : Int) = tbi (pc_ (lys r.2.2 k (2 * r.1))) 0 := by
        unfold tbi
        rw [Nat.testBit_zero]
        by_cases hm : pc_ (lys r.2.2 k (2 * r.1)) % 2 = 1
        · simp [hm]
        · simp [show pc_ (lys r.2.2 k (2 * r.1)) % 2 = 0 by omega]
      refine u_iloadn (k := 4) rfl rfl ?_
      refine u_aloadn (k := 5) rfl rfl ?_
      refine a_geti (k := 6) rfl fRX10_146 rfl rfl ?_
      rw [hR.1]
      refine a_icmp_ge (k := 7) rfl (fun c_9 => ?_) (fun c_9 => ?_)
      · omega
      · refine u_iloadn (k := 8) rfl rfl ?_
        refine u_aloadn (k := 9) rfl rfl ?_
        refine u_iloadn (k := 10) rfl rfl ?_
        refine i_virt1 (M' := mX6_lyingIn) (k := 11) rfl lRX10_255 oX6_lyingIn vX6_lyingIn ⟨Nat.le_of_ble_eq_true rfl, Nat.le_of_ble_eq_true rfl⟩ rfl rfl (Nat.le_of_ble_eq_true rfl) (x_lyingIn j _ k _ h hP.1 hP.2.1 hP.2.2.2.2.1 hP.2.2.2.2.2) ?_
        refine i_stat1 (M' := mJ6_bitCount_0f7a4) (k := 12) rfl lRX10_289 oJ6_bitCount_0f7a4 vJ6_bitCount_0f7a4 ⟨Nat.le_of_ble_eq_true rfl, Nat.le_of_ble_eq_true rfl⟩ rfl (Nat.le_of_ble_eq_true rfl) (j_bitCount _ h (show lys r.2.2 k (2 * r.1) < 2 ^ 31 by omega)) ?_
        refine a_iconst (k := 13) rfl ?_
        refine a_iand (k := 14) rfl ?_
        rw [iand1 (by omega), e0]
        refine u_iloadn (k := 15) rfl rfl ?_
        refine a_ishl (k := 16) rfl ?_
        rw [shl_tbi (by omega), Nat.testBit_zero]
        refine a_ior (k := 17) rfl ?_
        rw [ior_nat (by omega) hq]
        refine a_istoren (k := 18) (lv' := [(1, _), (0, _), (2, _)]) rfl (Nat.le_of_ble_eq_true rfl) rfl ?_
        refine u_iinc (k := 19) (lv' := [(2, _), (1, _), (0, _)]) rfl rfl (Nat.le_of_ble_eq_true rfl) (by omega) rfl ?_
        refine a_goto (k := 20) rfl ?_
        refine a_sub [2, 1, 0] rfl ?_
        have := ih (k + 1) (by omega)
        rw [show setT (fun d => decide (pc_ (lys r.2.2 d (2 * r.1)) % 2 = 1)) (k + 1) = setT (fun d => decide (pc_ (lys r.2.2 d (2 * r.1)) % 2 = 1)) k ||| (if (decide (pc_ (lys r.2.2 k (2 * r.1)) % 2 = 1)) then 2 ^ k else 0) by
          show (if _ then _ else _) = _
          split
          · rfl
          · rw [Nat.or_zero]] at this
        exact this
  refine a_iconst (k := 0) rfl ?_
  refine a_istoren (k := 1) (lv' := [(1, _), (0, _)]) rfl (Nat.le_of_ble_eq_true rfl) rfl ?_
  refine a_iconst (k := 2) rfl ?_
  refine a_istoren (k := 3) (lv' := [(2, _), (1, _), (0, _)]) rfl (Nat.le_of_ble_eq_true rfl) rfl ?_
  refine a_sub [2, 1, 0] rfl ?_
  exact Lp r.1 0 (by omega)
/-! how few must be switched -/
def fsi (r : Rp) (w m : Nat) : Nat → Nat → Option Nat
  | 0, _ => none
  | n + 1, s => if (ndiff s w = 0 ∧ pc_ s = m) ∧ lft r.2.2 r.1 s 0 8 w = 0 then some s else fsi r w m n (s + 1)
theorem fsi_no {r : Rp} {w m n s : Nat} (h : ¬ ((ndiff s w = 0 ∧ pc_ s = m) ∧ lft r.2.2 r.1 s 0 8 w = 0)) : fsi r w m (n + 1) s = fsi r w m n (s + 1) := if_neg h
theorem fsi_yes {r : Rp} {w m n s : Nat} (h : (ndiff s w = 0 ∧ pc_ s = m) ∧ lft r.2.2 r.1 s 0 8 w = 0) : fsi r w m (n + 1) s = some s := if_pos h
def fso (r : Rp) (w : Nat) : Nat → Nat → Option Nat
  | 0, _ => none
  | n + 1, m => match fsi r w m (w + 1) 0 with
    | some s => some s
    | none => fso r w n (m + 1)
def r_wound (r : Rp) : Nat := lbc r.2.2 r.1 8 (2 ^ r.1 - 1)
def r_few (r : Rp) : Int := oi (fso r (r_wound r) (pc_ (r_wound r) / 2 + 1) 0)
theorem lbc_le (f : Nat → Nat) (c : Nat) : ∀ n S, lbc f c n S ≤ S
  | 0, S => Nat.le_refl S
  | n + 1, S => Nat.le_trans (lbc_le f c n _) (ndiff_le _ _)
theorem x_few {j : Nat} {r : Rp} {h : HH} (hW : WR r) (hR : RH j r h) : Sp mX10_fewestSwitches [vr 0 0, vr 5 j] h (fun z g => z = some (vi (r_few r)) ∧ Fr tml [] h g) := by
  have h8 := hW.1
  have hp := p8 hW.1
  have hw : r_wound r ≤ 2 ^ r.1 - 1 := lbc_le _ _ _ _
  have hpc : pc_ (r_wound r) ≤ 32 := pct_le _ 32
  refine Sp.of rfl kX10_fewestSwitches (Nat.le_of_ble_eq_true rfl) ?_
  have Lo : ∀ (n m : Nat) (g : HH), m + n = pc_ (r_wound r) / 2 + 1 → Fr tml [] h g → AW mX10_fewestSwitches (fun z g => z = some (vi (oi (fso r (r_wound r) n m))) ∧ Fr tml [] h g) 11 [(0, vr 0 0), (1, vr 5 j), (2, vi (r_wound r : Int)), (3, vi m)] [] g := by
    intro n
    induction n with
    | zero =>
      intro m g hm hF
      refine u_iloadn (k := 7) rfl rfl ?_
      refine u_iloadn (k := 8) rfl rfl ?_
      refine i_stat1 (M' := mJ6_bitCount_0f7a4) (k := 9) rfl lRX10_289 oJ6_bitCount_0f7a4 vJ6_bitCount_0f7a4 ⟨Nat.le_of_ble_eq_true rfl, Nat.le_of_ble_eq_true rfl⟩ rfl (Nat.le_of_ble_eq_true rfl) (j_bitCount (r_wound r) g (by omega)) ?_
      refine a_iconst (k := 10) rfl ?_
      refine u_idiv (k := 11) rfl (by omega) (by omega) ?_
      refine a_icmp_gt (k := 12) rfl (fun c_18 => ?_) (fun c_18 => ?_)
      · refine a_iconst (k := 48) rfl ?_
        refine a_ireturn (k := 49) rfl rfl ?_
        exact ⟨rfl, hF⟩
      · omega
    | succ n ih =>
      intro m g hm hF
      have Li : ∀ (q s : Nat) (g : HH), s + q = r_wound r + 1 → fso r (r_wound r) (n + 1) m = (match fsi r (r_wound r) m q s with
          | some s => some s
          | none => fso r (r_wound r) n (m + 1)) → Fr tml [] h g → AW mX10_fewestSwitches (fun z g => z = some (vi (oi (fso r (r_wound r) (n + 1) m))) ∧ Fr tml [] h g) 24 [(0, vr 0 0), (1, vr 5 j), (2, vi (r_wound r : Int)), (3, vi m), (4, vi s)] [] g := by
        intro q
        induction q with
        | zero =>
          intro s g hs he hF
          rw [he]
          refine u_iload (k := 15) rfl rfl ?_
          refine u_iloadn (k := 16) rfl rfl ?_
          refine a_icmp_gt (k := 17) rfl (fun c_27 => ?_) (fun c_27 => ?_)
          · refine u_iinc (k := 46) (lv' := [(3, _), (0, _), (1, _), (2, _), (4, _)]) rfl rfl (Nat.le_of_ble_eq_true rfl) (by omega) rfl ?_
            refine a_goto (k := 47) rfl ?_
            refine a_sub [1, 2, 3, 0] rfl ?_
            exact ih (m + 1) g (by omega) hF
          · omega
        | succ q ih2 =>
          intro s g hs he hF
          have hRg := hR.tml hF
          have T78 : ∀ (g : HH) (z : Int), ¬ ((ndiff s (r_wound r) = 0 ∧ pc_ s = m) ∧ lft r.2.2 r.1 s 0 8 (r_wound r) = 0) → Fr tml [] h g → AW mX10_fewestSwitches (fun z g => z = some (vi (oi (fso r (r_wound r) (n + 1) m))) ∧ Fr tml [] h g) 78 [(5, vi z), (0, vr 0 0), (1, vr 5 j), (2, vi (r_wound r : Int)), (3, vi m), (4, vi s)] [] g := by
            intro g z hno hF
            refine u_iinc (k := 44) (lv' := [(4, _), (5, _), (0, _), (1, _), (2, _), (3, _)]) rfl rfl (Nat.le_of_ble_eq_true rfl) (by omega) rfl ?_
            refine a_goto (k := 45) rfl ?_
            refine a_sub [2, 3, 4, 5, 0] rfl ?_
            refine ih2 (s + 1) g (by omega) ?_ hF
            rw [he, fsi_no hno]
          have T53 : ∀ (b : Nat), (b = 1 ↔ (ndiff s (r_wound r) = 0 ∧ pc_ s = m)) → b ≤ 1 → AW mX10_fewestSwitches (fun z g => z = some (vi (oi (fso r (r_wound r) (n + 1) m))) ∧ Fr tml [] h g) 53 [(0, vr 0 0), (1, vr 5 j), (2, vi (r_wound r : Int)), (3, vi m), (4, vi s)] [vi b] g := by
            intro b hb hb1
            refine a_istore (k := 31) (lv' := [(5, _), (0, _), (1, _), (2, _), (3, _), (4, _)]) rfl (Nat.le_of_ble_eq_true rfl) rfl ?_
            refine u_iload (k := 32) rfl rfl ?_
            refine a_if_eq (k := 33) rfl (fun c_57 => ?_) (fun c_57 => ?_)
            · exact T78 g _ (fun z => by have := hb.mpr z.1; omega) hF
            · refine u_aloadn (k := 34) rfl rfl ?_
              refine a_getr (k := 35) rfl fRX10_55 rfl rfl rfl ?_
              refine u_aloadn (k := 36) rfl rfl ?_
              refine u_iloadn (k := 37) rfl rfl ?_
              refine u_iload (k := 38) rfl rfl ?_
              refine a_iconst (k := 39) rfl ?_
              refine ui_virt4 (M' := mX3_leftOf) (k := 40) rfl lRX10_285 oX3_leftOf vX3_leftOf ⟨Nat.le_of_ble_eq_true rfl, Nat.le_of_ble_eq_true rfl⟩ rfl rfl (Nat.le_of_ble_eq_true rfl) (x_leftOf j _ _ (r_wound r) s 0 _ g (r_RPof hW hRg) (by omega) (by omega) (by omega)) (by intro r g hp; exact ⟨_, hp.1⟩) (fun z g2 hg2 => ?_)
              obtain ⟨hr, hF2⟩ := hg2; cases hr
              refine a_if_ne (k := 41) rfl (fun c_72 => ?_) (fun c_72 => ?_)
              · exact T78 g2 _ (fun z => c_72 (by rw [z.2]; rfl)) (hF.tr hF2 (fun _ q => q) (fun _ q => Or.inl q))
              · refine u_iload (k := 42) rfl rfl ?_
                refine a_ireturn (k := 43) rfl rfl ?_
                refine ⟨?_, hF.tr hF2 (fun _ q => q) (fun _ q => Or.inl q)⟩
                rw [he, fsi_yes ⟨hb.mp (by omega), Int.ofNat.inj c_72⟩]
                rfl
          refine u_iload (k := 15) rfl rfl ?_
          refine u_iloadn (k := 16) rfl rfl ?_
          refine a_icmp_gt (k := 17) rfl (fun c_27 => ?_) (fun c_27 => ?_)
          · omega
          · refine u_iload (k := 18) rfl rfl ?_
            refine u_iloadn (k := 19) rfl rfl ?_
            refine a_iconst (k := 20) rfl ?_
            refine a_ixor (k := 21) rfl ?_
            refine a_iand (k := 22) rfl ?_
            rw [iandn_nat (by omega) (by omega)]
            refine a_if_ne (k := 23) rfl (fun c_36 => ?_) (fun c_36 => ?_)
            · refine a_iconst (k := 30) rfl ?_
              first | exact T53 1 (by omega) (by omega) | exact T53 0 (by omega) (by omega)
            · refine u_iload (k := 24) rfl rfl ?_
              refine i_stat1 (M' := mJ6_bitCount_0f7a4) (k := 25) rfl lRX10_289 oJ6_bitCount_0f7a4 vJ6_bitCount_0f7a4 ⟨Nat.le_of_ble_eq_true rfl, Nat.le_of_ble_eq_true rfl⟩ rfl (Nat.le_of_ble_eq_true rfl) (j_bitCount s g (by omega)) ?_
              refine u_iloadn (k := 26) rfl rfl ?_
              refine a_icmp_ne (k := 27) rfl (fun c_45 => ?_) (fun c_45 => ?_)
              · refine a_iconst (k := 30) rfl ?_
                first | exact T53 1 (by omega) (by omega) | exact T53 0 (by omega) (by omega)
              · refine a_iconst (k := 28) rfl ?_
                refine a_goto (k := 29) rfl ?_
                first | exact T53 1 (by omega) (by omega) | exact T53 0 (by omega) (by omega)
      refine u_iloadn (k := 7) rfl rfl ?_
      refine u_iloadn (k := 8) rfl rfl ?_
      refine i_stat1 (M' := mJ6_bitCount_0f7a4) (k := 9) rfl lRX10_289 oJ6_bitCount_0f7a4 vJ6_bitCount_0f7a4 ⟨Nat.le_of_ble_eq_true rfl, Nat.le_of_ble_eq_true rfl⟩ rfl (Nat.le_of_ble_eq_true rfl) (j_bitCount (r_wound r) g (by omega)) ?_
      refine a_iconst (k := 10) rfl ?_
      refine u_idiv (k := 11) rfl (by omega) (by omega) ?_
      refine a_icmp_gt (k := 12) rfl (fun c_18 => ?_) (fun c_18 => ?_)
      · omega
      · refine a_iconst (k := 13) rfl ?_
        refine a_istore (k := 14) (lv' := [(4, _), (0, _), (1, _), (2, _), (3, _)]) rfl (Nat.le_of_ble_eq_true rfl) rfl ?_
        refine a_sub [1, 2, 3, 4, 0] rfl ?_
        exact Li (r_wound r + 1) 0 g (by omega) rfl hF
  refine u_aloadn (k := 0) rfl rfl ?_
  refine a_getr (k := 1) rfl fRX10_55 rfl rfl rfl ?_
  refine u_aloadn (k := 2) rfl rfl ?_
  refine ui_virt1 (M' := mX3_leftByCurls) (k := 3) rfl lRX10_294 oX3_leftByCurls vX3_leftByCurls ⟨Nat.le_of_ble_eq_true rfl, Nat.le_of_ble_eq_true rfl⟩ rfl rfl (Nat.le_of_ble_eq_true rfl) (x_leftByCurls j _ _ _ h (r_RPof hW hR)) (by intro r g hp; exact ⟨_, hp.1⟩) (fun z g hg => ?_)
  obtain ⟨hr, hF⟩ := hg; cases hr
  refine a_istoren (k := 4) (lv' := [(2, _), (0, _), (1, _)]) rfl (Nat.le_of_ble_eq_true rfl) rfl ?_
  refine a_iconst (k := 5) rfl ?_
  refine a_istoren (k := 6) (lv' := [(3, _), (2, _), (0, _), (1, _)]) rfl (Nat.le_of_ble_eq_true rfl) rfl ?_
  refine a_sub [2, 3, 1, 0] rfl ?_
  exact Lo (pc_ (r_wound r) / 2 + 1) 0 g (by omega) hF
