theorem FC.tr {h g g' : HH} (h1 : FC h g) (h2 : FC g g') : FC h g' := fun t i k ht => by rw [h2 t i k ht]; exact h1 t i k ht
theorem hT4 (k : Nat) : ∀ q ∈ [(1, 0), (2, 0), (6, 5 + k), (5, 5 + k)], (∀ z, ¬ rel q.1 q.2 z) ∨ q = (5, 5 + k) ∨ q = (6, 5 + k) := by
  intro q hq
  simp at hq
  rcases hq with rfl | rfl | rfl | rfl <;> simp [rel]
theorem hT1 (k : Nat) : ∀ q ∈ [(6, 5 + k)], (∀ z, ¬ rel q.1 q.2 z) ∨ q = (5, 5 + k) ∨ q = (6, 5 + k) := by
  intro q hq
  simp at hq
  rcases hq with rfl
  simp
theorem FC4 {k : Nat} {h g : HH} (hF : Fr [(1, 0), (2, 0), (6, 5 + k), (5, 5 + k)] [] h g) : FC h g := FC.rf.fr hF (by simp) (by simp)
theorem WA.setR {B : Nat} {σ : AS} (hW : WA B σ) {k : Nat} {r : Rp} (hr : WR r) : WA B (σ.setR k r) := by
  refine ⟨⟨hW.now.1, hW.now.2.1, fun k' hk' => ?_⟩, hW.L, hW.tx, hW.drawn, hW.cnt, hW.hist, hW.ents, hW.img⟩
  show WR (un σ.now.2.2 k r k')
  by_cases he : k' = k
  · subst he; rw [un_eq]; exact hr
  · rw [un_ne _ _ he]; exact hW.now.2.2 k' hk'
def o_reverse (σ : AS) (k : Int) : Int × AS := σ.on k fun q => (((σ.now.2.2 q).1 : Int), σ.rem.setR q (r_rev (σ.now.2.2 q)))
theorem c_reverse {B : Nat} {σ : AS} {h : HH} (hW : WA B σ) (hC : CR σ h) (k : Int) : Sp mX10_reverse [vr 0 0, vi k] h (OP (o_reverse σ k) h) := by
  rcases kcase k σ.now.1 with hk | ⟨q, rfl, hk⟩
  · rw [show o_reverse σ k = _ from on_no hk]
    refine Sp.of rfl kX10_reverse (Nat.le_of_ble_eq_true rfl) ?_
    refine u_aloadn (k := 0) rfl rfl ?_
    refine a_getr (k := 1) rfl fRX10_26 rfl rfl rfl ?_
    refine u_iloadn (k := 2) rfl rfl ?_
    refine r_virt1 (M' := mX9_ropeOf) (k := 3) rfl lRX10_141 oX9_ropeOf vX9_ropeOf ⟨Nat.le_of_ble_eq_true rfl, Nat.le_of_ble_eq_true rfl⟩ rfl rfl (Nat.le_of_ble_eq_true rfl) (x_ropeNo 1 k h (hC.no hk)) ?_
    refine a_astorenN (k := 4) (lv' := [(2, _), (0, _), (1, _)]) rfl (Nat.le_of_ble_eq_true rfl) rfl ?_
    refine u_aloadnN (k := 5) rfl rfl ?_
    refine a_nonnullN (k := 6) rfl ?_
    refine a_ldc (k := 7) rfl nRX10_145 ⟨by decide, by decide⟩ ?_
    refine a_ireturn (k := 8) rfl rfl ?_
    exact ⟨rfl, hC, FC.rf⟩
  · have h5 : q < 5 := by have := hW.now.1; omega
    rw [show o_reverse σ (q : Int) = _ from on_yes hk]
    refine Sp.of rfl kX10_reverse (Nat.le_of_ble_eq_true rfl) ?_
    refine u_aloadn (k := 0) rfl rfl ?_
    refine a_getr (k := 1) rfl fRX10_26 rfl rfl rfl ?_
    refine u_iloadn (k := 2) rfl rfl ?_
    refine r_virt1 (M' := mX9_ropeOf) (k := 3) rfl lRX10_141 oX9_ropeOf vX9_ropeOf ⟨Nat.le_of_ble_eq_true rfl, Nat.le_of_ble_eq_true rfl⟩ rfl rfl (Nat.le_of_ble_eq_true rfl) (x_ropeOf 1 q h (hC.yes hk) h5) ?_
    refine a_astoren (k := 4) (lv' := [(2, _), (0, _), (1, _)]) rfl (Nat.le_of_ble_eq_true rfl) rfl ?_
    refine u_aloadn (k := 5) rfl rfl ?_
    refine a_nonnullR (k := 6) rfl ?_
    refine u_aloadn (k := 9) rfl rfl ?_
    refine a_getr (k := 10) rfl fRX10_33 rfl rfl rfl ?_
    refine u_aloadn (k := 11) rfl rfl ?_
    refine a_getr (k := 12) rfl fRX10_26 rfl rfl rfl ?_
    refine uv_virt1 (M' := mX2_remember) (k := 13) rfl lRX10_196 oX2_remember vX2_remember ⟨Nat.le_of_ble_eq_true rfl, Nat.le_of_ble_eq_true rfl⟩ rfl rfl (Nat.le_of_ble_eq_true rfl) (x_rem hW hC) (by intro r g hp; exact hp.1) (fun g hg => ?_)
    obtain ⟨-, hC1, -, -, hFC⟩ := hg; have hR := hC1.RP hW.rem hk
    refine u_aloadn (k := 14) rfl rfl ?_
    refine uv_virt0 (M' := mX6_goTheOtherWay) (k := 15) rfl lRX10_213 oX6_goTheOtherWay vX6_goTheOtherWay ⟨Nat.le_of_ble_eq_true rfl, Nat.le_of_ble_eq_true rfl⟩ rfl rfl (Nat.le_of_ble_eq_true rfl) (x_otherWay (5 + q) _ _ _ g hR.1 hR.2.1 hR.2.2.1 hR.2.2.2.1 hR.2.2.2.2.1 hR.2.2.2.2.2) (by intro r g hp; exact hp.1) (fun g2 hg2 => ?_)
    obtain ⟨-, hN, hF⟩ := hg2
    refine u_aloadn (k := 16) rfl rfl ?_
    refine a_geti (k := 17) rfl fRX10_146 rfl rfl ?_
    rw [hN.1]
    refine a_ireturn (k := 18) rfl rfl ?_
    exact ⟨rfl, hC1.rope hW.rem hk hF (hT4 q) (by simp) hN, hFC.tr (FC4 hF)⟩
def o_roll (σ : AS) (k : Int) : Int × AS := σ.on k fun q => (if 0 < (σ.now.2.2 q).1 then ((r_roll (σ.now.2.2 q)).2.2 0 : Int) else -1, σ.rem.setR q (r_roll (σ.now.2.2 q)))
theorem c_roll {B : Nat} {σ : AS} {h : HH} (hW : WA B σ) (hC : CR σ h) (k : Int) : Sp mX10_roll [vr 0 0, vi k] h (OP (o_roll σ k) h) := by
  rcases kcase k σ.now.1 with hk | ⟨q, rfl, hk⟩
  · rw [show o_roll σ k = _ from on_no hk]
    refine Sp.of rfl kX10_roll (Nat.le_of_ble_eq_true rfl) ?_
    refine u_aloadn (k := 0) rfl rfl ?_
    refine a_getr (k := 1) rfl fRX10_26 rfl rfl rfl ?_
    refine u_iloadn (k := 2) rfl rfl ?_
    refine r_virt1 (M' := mX9_ropeOf) (k := 3) rfl lRX10_141 oX9_ropeOf vX9_ropeOf ⟨Nat.le_of_ble_eq_true rfl, Nat.le_of_ble_eq_true rfl⟩ rfl rfl (Nat.le_of_ble_eq_true rfl) (x_ropeNo 1 k h (hC.no hk)) ?_
    refine a_astorenN (k := 4) (lv' := [(2, _), (0, _), (1, _)]) rfl (Nat.le_of_ble_eq_true rfl) rfl ?_
    refine u_aloadnN (k := 5) rfl rfl ?_
    refine a_nonnullN (k := 6) rfl ?_
    refine a_ldc (k := 7) rfl nRX10_145 ⟨by decide, by decide⟩ ?_
    refine a_ireturn (k := 8) rfl rfl ?_
    exact ⟨rfl, hC, FC.rf⟩
  · have h5 : q < 5 := by have := hW.now.1; omega
    rw [show o_roll σ (q : Int) = _ from on_yes hk]
    refine Sp.of rfl kX10_roll (Nat.le_of_ble_eq_true rfl) ?_
    refine u_aloadn (k := 0) rfl rfl ?_
    refine a_getr (k := 1) rfl fRX10_26 rfl rfl rfl ?_
    refine u_iloadn (k := 2) rfl rfl ?_
    refine r_virt1 (M' := mX9_ropeOf) (k := 3) rfl lRX10_141 oX9_ropeOf vX9_ropeOf ⟨Nat.le_of_ble_eq_true rfl, Nat.le_of_ble_eq_true rfl⟩ rfl rfl (Nat.le_of_ble_eq_true rfl) (x_ropeOf 1 q h (hC.yes hk) h5) ?_
    refine a_astoren (k := 4) (lv' := [(2, _), (0, _), (1, _)]) rfl (Nat.le_of_ble_eq_true rfl) rfl ?_
    refine u_aloadn (k := 5) rfl rfl ?_
    refine a_nonnullR (k := 6) rfl ?_
    refine u_aloadn (k := 9) rfl rfl ?_
    refine a_getr (k := 10) rfl fRX10_33 rfl rfl rfl ?_
    refine u_aloadn (k := 11) rfl rfl ?_
    refine a_getr (k := 12) rfl fRX10_26 rfl rfl rfl ?_
    refine uv_virt1 (M' := mX2_remember) (k := 13) rfl lRX10_196 oX2_remember vX2_remember ⟨Nat.le_of_ble_eq_true rfl, Nat.le_of_ble_eq_true rfl⟩ rfl rfl (Nat.le_of_ble_eq_true rfl) (x_rem hW hC) (by intro r g hp; exact hp.1) (fun g hg => ?_)
    obtain ⟨-, hC1, -, -, hFC⟩ := hg; have hR := hC1.RP hW.rem hk
    refine u_aloadn (k := 14) rfl rfl ?_
    refine uv_virt0 (M' := mX6_rollOnce) (k := 15) rfl lRX10_219 oX6_rollOnce vX6_rollOnce ⟨Nat.le_of_ble_eq_true rfl, Nat.le_of_ble_eq_true rfl⟩ rfl rfl (Nat.le_of_ble_eq_true rfl) (x_rollOnce (5 + q) _ _ _ g hR.1 hR.2.1 hR.2.2.1 hR.2.2.2.1 hR.2.2.2.2.1 hR.2.2.2.2.2) (by intro r g hp; exact hp.1) (fun g2 hg2 => ?_)
    obtain ⟨-, hN, hF⟩ := hg2
    refine u_aloadn (k := 16) rfl rfl ?_
    refine a_iconst (k := 17) rfl ?_
    refine i_virt1 (M' := mX6_passAt) (k := 18) rfl lRX10_168 oX6_passAt vX6_passAt ⟨Nat.le_of_ble_eq_true rfl, Nat.le_of_ble_eq_true rfl⟩ rfl rfl (Nat.le_of_ble_eq_true rfl) (x_passAt (5 + q) _ 0 g2 hN.1 hR.2.1) ?_
    refine a_ireturn (k := 19) rfl rfl ?_
    refine ⟨?_, hC1.rope hW.rem hk hF (hT4 q) (by simp) hN, hFC.tr (FC4 hF)⟩
    dsimp only
    by_cases hz : 0 < (σ.now.2.2 q).1
    · rw [if_pos hz]
      refine congrArg (fun z => some (vi z)) ((if_pos ⟨Int.le_refl _, ?_⟩).trans (hN.2.2 0 ?_))
      · show 0 < 2 * (σ.now.2.2 q).1
        omega
      · show (0 : Int) < 2 * ((σ.now.2.2 q).1 : Int)
        omega
    · rw [if_neg hz]
      refine congrArg (fun z => some (vi z)) (if_neg (fun z => ?_))
      have z2 : (0 : Int) < 2 * ((σ.now.2.2 q).1 : Int) := z.2
      omega
def o_mirror (σ : AS) (k : Int) : Int × AS := σ.on k fun q => (((σ.now.2.2 q).1 : Int), σ.rem.setR q (r_sw (σ.now.2.2 q) (2 ^ (σ.now.2.2 q).1 - 1)))
theorem RH_sw {j : Nat} {r : Rp} {S : Nat} {h g : HH} (hR : RP j r.1 r.2.2 r.2.1 h) (hs : ∀ i, i < 2 * r.1 → g 6 j i = (swf r.2.2 S i : Int)) (hF : Fr [(6, j)] [] h g) : RH j (r_sw r S) g := ⟨by rw [hF 5 j 2 (by simp) (by simp)]; exact hR.1, by rw [hF 5 j 3 (by simp) (by simp)]; exact hR.2.2.1, hs⟩
theorem p8 {c : Nat} (h : c ≤ 8) : 0 < 2 ^ c ∧ 2 ^ c ≤ 256 := ⟨Nat.pow_pos (by omega), Nat.pow_le_pow_right (by omega) h⟩
theorem c_mirror {B : Nat} {σ : AS} {h : HH} (hW : WA B σ) (hC : CR σ h) (k : Int) : Sp mX10_mirror [vr 0 0, vi k] h (OP (o_mirror σ k) h) := by
  rcases kcase k σ.now.1 with hk | ⟨q, rfl, hk⟩
  · rw [show o_mirror σ k = _ from on_no hk]
    refine Sp.of rfl kX10_mirror (Nat.le_of_ble_eq_true rfl) ?_
    refine u_aloadn (k := 0) rfl rfl ?_
    refine a_getr (k := 1) rfl fRX10_26 rfl rfl rfl ?_
    refine u_iloadn (k := 2) rfl rfl ?_
    refine r_virt1 (M' := mX9_ropeOf) (k := 3) rfl lRX10_141 oX9_ropeOf vX9_ropeOf ⟨Nat.le_of_ble_eq_true rfl, Nat.le_of_ble_eq_true rfl⟩ rfl rfl (Nat.le_of_ble_eq_true rfl) (x_ropeNo 1 k h (hC.no hk)) ?_
    refine a_astorenN (k := 4) (lv' := [(2, _), (0, _), (1, _)]) rfl (Nat.le_of_ble_eq_true rfl) rfl ?_
    refine u_aloadnN (k := 5) rfl rfl ?_
    refine a_nonnullN (k := 6) rfl ?_
    refine a_ldc (k := 7) rfl nRX10_145 ⟨by decide, by decide⟩ ?_
    refine a_ireturn (k := 8) rfl rfl ?_
    exact ⟨rfl, hC, FC.rf⟩
  · have h5 : q < 5 := by have := hW.now.1; omega
    have hp := p8 (hW.now.2.2 q hk).1
    rw [show o_mirror σ (q : Int) = _ from on_yes hk]
    refine Sp.of rfl kX10_mirror (Nat.le_of_ble_eq_true rfl) ?_
    refine u_aloadn (k := 0) rfl rfl ?_
    refine a_getr (k := 1) rfl fRX10_26 rfl rfl rfl ?_
    refine u_iloadn (k := 2) rfl rfl ?_
    refine r_virt1 (M' := mX9_ropeOf) (k := 3) rfl lRX10_141 oX9_ropeOf vX9_ropeOf ⟨Nat.le_of_ble_eq_true rfl, Nat.le_of_ble_eq_true rfl⟩ rfl rfl (Nat.le_of_ble_eq_true rfl) (x_ropeOf 1 q h (hC.yes hk) h5) ?_
    refine a_astoren (k := 4) (lv' := [(2, _), (0, _), (1, _)]) rfl (Nat.le_of_ble_eq_true rfl) rfl ?_
    refine u_aloadn (k := 5) rfl rfl ?_
    refine a_nonnullR (k := 6) rfl ?_
    refine u_aloadn (k := 9) rfl rfl ?_
    refine a_getr (k := 10) rfl fRX10_33 rfl rfl rfl ?_
    refine u_aloadn (k := 11) rfl rfl ?_
    refine a_getr (k := 12) rfl fRX10_26 rfl rfl rfl ?_
    refine uv_virt1 (M' := mX2_remember) (k := 13) rfl lRX10_196 oX2_remember vX2_remember ⟨Nat.le_of_ble_eq_true rfl, Nat.le_of_ble_eq_true rfl⟩ rfl rfl (Nat.le_of_ble_eq_true rfl) (x_rem hW hC) (by intro r g hp; exact hp.1) (fun g hg => ?_)
    obtain ⟨-, hC1, -, -, hFC⟩ := hg; have hR := hC1.RP hW.rem hk
    refine u_aloadn (k := 14) rfl rfl ?_
    refine u_aloadn (k := 15) rfl rfl ?_
    refine i_virt0 (M' := mX6_everyCrossing) (k := 16) rfl lRX10_216 oX6_everyCrossing vX6_everyCrossing ⟨Nat.le_of_ble_eq_true rfl, Nat.le_of_ble_eq_true rfl⟩ rfl rfl (Nat.le_of_ble_eq_true rfl) (x_every (5 + q) _ g hR.1 hR.2.1) ?_
    refine uv_virt1 (M' := mX6_switchSet) (k := 17) rfl lRX10_210 oX6_switchSet vX6_switchSet ⟨Nat.le_of_ble_eq_true rfl, Nat.le_of_ble_eq_true rfl⟩ rfl rfl (Nat.le_of_ble_eq_true rfl) (x_switchSet (5 + q) _ _ _ g hR.1 hR.2.1 hR.2.2.2.2.1 hR.2.2.2.2.2 (show 2 ^ (σ.now.2.2 q).1 - 1 < 2 ^ 31 by omega)) (by intro r g hp; exact hp.1) (fun g2 hg2 => ?_)
    obtain ⟨-, hN, hF⟩ := hg2
    refine u_aloadn (k := 18) rfl rfl ?_
    refine a_geti (k := 19) rfl fRX10_146 rfl rfl ?_
    rw [hF 5 (5 * 1 + q) 2 (by simp) (by simp), show g 5 (5 * 1 + q) 2 = ((σ.now.2.2 q).1 : Int) from hR.1]
    refine a_ireturn (k := 20) rfl rfl ?_
    exact ⟨rfl, hC1.rope hW.rem hk hF (hT1 q) (by simp) (RH_sw hR hN hF), hFC.tr (FC.rf.fr hF (by simp) (by simp))⟩
def o_turn (σ : AS) (k d : Int) : Int × AS := σ.on k fun q => if 0 ≤ d ∧ d < ((σ.now.2.2 q).1 : Int) then ((r_ways (r_sw (σ.now.2.2 q) (2 ^ d.toNat)) 3 : Int), σ.rem.setR q (r_sw (σ.now.2.2 q) (2 ^ d.toNat))) else (UNK, σ)
theorem CR.RH {σ : AS} {h : HH} {k : Nat} (hC : CR σ h) (hk : k < σ.now.1) : RH (5 + k) (σ.now.2.2 k) h := hC.now.2.2 k hk
theorem CR.tcl {B : Nat} {σ : AS} {h g : HH} (hW : WA B σ) (hC : CR σ h) (hF : Fr tcl [] h g) : CR σ g := hC.scr hW hF (by simp [Jvm.Pilot.CPretzelProofLaw_law_r5939_cc273b.tcl, rel]) (by simp)
theorem FC_tcl {h g : HH} (hF : Fr tcl [] h g) : FC h g := FC.rf.fr hF (by simp [tcl]) (by simp)
theorem c_turn {B : Nat} {σ : AS} {h : HH} (hW : WA B σ) (hC : CR σ h) (k d : Int) : Sp mX10_turn [vr 0 0, vi k, vi d] h (OP (o_turn σ k d) h) := by
  rcases kcase k σ.now.1 with hk | ⟨q, rfl, hk⟩
  · rw [show o_turn σ k d = _ from on_no hk]
    refine Sp.of rfl kX10_turn (Nat.le_of_ble_eq_true rfl) ?_
    refine u_aloadn (k := 0) rfl rfl ?_
    refine a_getr (k := 1) rfl fRX10_26 rfl rfl rfl ?_
    refine u_iloadn (k := 2) rfl rfl ?_
    refine r_virt1 (M' := mX9_ropeOf) (k := 3) rfl lRX10_141 oX9_ropeOf vX9_ropeOf ⟨Nat.le_of_ble_eq_true rfl, Nat.le_of_ble_eq_true rfl⟩ rfl rfl (Nat.le_of_ble_eq_true rfl) (x_ropeNo 1 k h (hC.no hk)) ?_
    refine a_astorenN (k := 4) (lv' := [(3, _), (0, _), (1, _), (2, _)]) rfl (Nat.le_of_ble_eq_true rfl) rfl ?_
    refine u_aloadnN (k := 5) rfl rfl ?_
    refine a_nullN (k := 6) rfl ?_
    refine a_ldc (k := 11) rfl nRX10_145 ⟨by decide, by decide⟩ ?_
    refine a_ireturn (k := 12) rfl rfl ?_
    exact ⟨rfl, hC, FC.rf⟩
  · have h5 : q < 5 := by have := hW.now.1; omega
    have hWr := hW.now.2.2 q hk
    have h8 := hWr.1
    have hp := p8 hWr.1
    have hR0 := hC.RP hW hk
    rw [show o_turn σ (q : Int) d = _ from on_yes hk]
    by_cases hd : 0 ≤ d ∧ d < ((σ.now.2.2 q).1 : Int)
    · obtain ⟨e, rfl⟩ : ∃ e : Nat, d = (e : Int) := ⟨d.toNat, by omega⟩
      have he : (2 ^ e : Nat) < 2 ^ 31 := Nat.pow_lt_pow_right (by omega) (by omega)
      rw [if_pos hd, Int.toNat_natCast]
      refine Sp.of rfl kX10_turn (Nat.le_of_ble_eq_true rfl) ?_
      refine u_aloadn (k := 0) rfl rfl ?_
      refine a_getr (k := 1) rfl fRX10_26 rfl rfl rfl ?_
      refine u_iloadn (k := 2) rfl rfl ?_
      refine r_virt1 (M' := mX9_ropeOf) (k := 3) rfl lRX10_141 oX9_ropeOf vX9_ropeOf ⟨Nat.le_of_ble_eq_true rfl, Nat.le_of_ble_eq_true rfl⟩ rfl rfl (Nat.le_of_ble_eq_true rfl) (x_ropeOf 1 q h (hC.yes hk) h5) ?_
      refine a_astoren (k := 4) (lv' := [(3, _), (0, _), (1, _), (2, _)]) rfl (Nat.le_of_ble_eq_true rfl) rfl ?_
      refine u_aloadn (k := 5) rfl rfl ?_
      refine a_nullR (k := 6) rfl ?_
      refine u_aloadn (k := 7) rfl rfl ?_
      refine u_iloadn (k := 8) rfl rfl ?_
      refine i_virt1 (M' := mX6_has) (k := 9) rfl lRX10_180 oX6_has vX6_has ⟨Nat.le_of_ble_eq_true rfl, Nat.le_of_ble_eq_true rfl⟩ rfl rfl (Nat.le_of_ble_eq_true rfl) (x_has (5 + q) _ e h hR0.1) ?_
      refine a_if_ne (k := 10) rfl (fun c_18 => ?_) (fun c_18 => ?_)
      · refine u_aloadn (k := 13) rfl rfl ?_
        refine a_getr (k := 14) rfl fRX10_33 rfl rfl rfl ?_
        refine u_aloadn (k := 15) rfl rfl ?_
        refine a_getr (k := 16) rfl fRX10_26 rfl rfl rfl ?_
        refine uv_virt1 (M' := mX2_remember) (k := 17) rfl lRX10_196 oX2_remember vX2_remember ⟨Nat.le_of_ble_eq_true rfl, Nat.le_of_ble_eq_true rfl⟩ rfl rfl (Nat.le_of_ble_eq_true rfl) (x_rem hW hC) (by intro r g hp; exact hp.1) (fun g hg => ?_)
        obtain ⟨-, hC1, -, -, hFC⟩ := hg; have hR := hC1.RP hW.rem hk
        refine u_aloadn (k := 18) rfl rfl ?_
        refine a_iconst (k := 19) rfl ?_
        refine u_iloadn (k := 20) rfl rfl ?_
        refine a_ishl (k := 21) rfl ?_
        rw [shl1 (by omega)]
        refine uv_virt1 (M' := mX6_switchSet) (k := 22) rfl lRX10_210 oX6_switchSet vX6_switchSet ⟨Nat.le_of_ble_eq_true rfl, Nat.le_of_ble_eq_true rfl⟩ rfl rfl (Nat.le_of_ble_eq_true rfl) (x_switchSet (5 + q) _ _ _ g hR.1 hR.2.1 hR.2.2.2.2.1 hR.2.2.2.2.2 he) (by intro r g hp; exact hp.1) (fun g2 hg2 => ?_)
        obtain ⟨-, hN, hF⟩ := hg2; have hRs := RH_sw hR hN hF
        refine u_aloadn (k := 23) rfl rfl ?_
        refine a_getr (k := 24) rfl fRX10_69 rfl rfl rfl ?_
        refine u_aloadn (k := 25) rfl rfl ?_
        refine a_iconst (k := 26) rfl ?_
        refine ui_virt2 (M' := mX1_waysBy) (k := 27) rfl lRX10_154 oX1_waysBy vX1_waysBy ⟨Nat.le_of_ble_eq_true rfl, Nat.le_of_ble_eq_true rfl⟩ rfl rfl (Nat.le_of_ble_eq_true rfl) (y_ways (WR_sw hWr) hRs 3 (by omega) (by omega)) (by intro r g hp; exact ⟨_, hp.1⟩) (fun r g3 hg3 => ?_)
        obtain ⟨hr, hF3⟩ := hg3; cases hr
        refine a_ireturn (k := 28) rfl rfl ?_
        exact ⟨rfl, (hC1.rope hW.rem hk hF (hT1 q) (by simp) hRs).tcl (hW.rem.setR (WR_sw hWr)) hF3, (hFC.tr (FC.rf.fr hF (by simp) (by simp))).tr (FC_tcl hF3)⟩
      · rw [if_pos hd] at c_18; omega
    · rw [if_neg hd]
      refine Sp.of rfl kX10_turn (Nat.le_of_ble_eq_true rfl) ?_
      refine u_aloadn (k := 0) rfl rfl ?_
      refine a_getr (k := 1) rfl fRX10_26 rfl rfl rfl ?_
      refine u_iloadn (k := 2) rfl rfl ?_
      refine r_virt1 (M' := mX9_ropeOf) (k := 3) rfl lRX10_141 oX9_ropeOf vX9_ropeOf ⟨Nat.le_of_ble_eq_true rfl, Nat.le_of_ble_eq_true rfl⟩ rfl rfl (Nat.le_of_ble_eq_true rfl) (x_ropeOf 1 q h (hC.yes hk) h5) ?_
      refine a_astoren (k := 4) (lv' := [(3, _), (0, _), (1, _), (2, _)]) rfl (Nat.le_of_ble_eq_true rfl) rfl ?_
      refine u_aloadn (k := 5) rfl rfl ?_
      refine a_nullR (k := 6) rfl ?_
      refine u_aloadn (k := 7) rfl rfl ?_
      refine u_iloadn (k := 8) rfl rfl ?_
      refine i_virt1 (M' := mX6_has) (k := 9) rfl lRX10_180 oX6_has vX6_has ⟨Nat.le_of_ble_eq_true rfl, Nat.le_of_ble_eq_true rfl⟩ rfl rfl (Nat.le_of_ble_eq_true rfl) (x_has (5 + q) _ d h hR0.1) ?_
      refine a_if_ne (k := 10) rfl (fun c_18 => ?_) (fun c_18 => ?_)
      · rw [if_neg hd] at c_18; omega
      · refine a_ldc (k := 11) rfl nRX10_145 ⟨by decide, by decide⟩ ?_
        refine a_ireturn (k := 12) rfl rfl ?_
        exact ⟨rfl, hC, FC.rf⟩
def o_curl (σ : AS) (k i : Int) (o : Bool) : Int × AS := σ.on k fun q => if 0 ≤ i ∧ i ≤ 2 * ((σ.now.2.2 q).1 : Int) then (if (σ.now.2.2 q).1 < 8 then ((((σ.now.2.2 q).1 + 1 : Nat) : Int), σ.rem.setR q (r_curl (σ.now.2.2 q) i.toNat (b01 o).toNat)) else (FUL, σ)) else (OUT, σ)
theorem b01_n (o : Bool) : b01 o = (((b01 o).toNat : Nat) : Int) ∧ (b01 o).toNat < 2 := by cases o <;> decide
theorem c_curl {B : Nat} {σ : AS} {h : HH} (hW : WA B σ) (hC : CR σ h) (k i : Int) (o : Bool) : Sp mX10_curl [vr 0 0, vi k, vi i, vi (b01 o)] h (OP (o_curl σ k i o) h) := by
  rcases kcase k σ.now.1 with hk | ⟨q, rfl, hk⟩
  · rw [show o_curl σ k i o = _ from on_no hk]
    refine Sp.of rfl kX10_curl (Nat.le_of_ble_eq_true rfl) ?_
    refine u_aloadn (k := 0) rfl rfl ?_
    refine a_getr (k := 1) rfl fRX10_26 rfl rfl rfl ?_
    refine u_iloadn (k := 2) rfl rfl ?_
    refine r_virt1 (M' := mX9_ropeOf) (k := 3) rfl lRX10_141 oX9_ropeOf vX9_ropeOf ⟨Nat.le_of_ble_eq_true rfl, Nat.le_of_ble_eq_true rfl⟩ rfl rfl (Nat.le_of_ble_eq_true rfl) (x_ropeNo 1 k h (hC.no hk)) ?_
    refine a_astoreNl (k := 4) (lv' := [(4, _), (0, _), (1, _), (2, _), (3, _)]) rfl (Nat.le_of_ble_eq_true rfl) rfl ?_
    refine u_aloadN (k := 5) rfl rfl ?_
    refine a_nonnullN (k := 6) rfl ?_
    refine a_ldc (k := 7) rfl nRX10_145 ⟨by decide, by decide⟩ ?_
    refine a_ireturn (k := 8) rfl rfl ?_
    exact ⟨rfl, hC, FC.rf⟩
  · have h5 : q < 5 := by have := hW.now.1; omega
    have h8 := (hW.now.2.2 q hk).1
    have hR0 := hC.RP hW hk
    rw [show o_curl σ (q : Int) i o = _ from on_yes hk]
    obtain ⟨b1, b2⟩ := b01_n o
    by_cases hi : 0 ≤ i ∧ i ≤ 2 * ((σ.now.2.2 q).1 : Int)
    · obtain ⟨e, rfl⟩ : ∃ e : Nat, i = (e : Int) := ⟨i.toNat, by omega⟩
      rw [if_pos hi, Int.toNat_natCast]
      by_cases hf : (σ.now.2.2 q).1 < 8
      · rw [if_pos hf]
        refine Sp.of rfl kX10_curl (Nat.le_of_ble_eq_true rfl) ?_
        refine u_aloadn (k := 0) rfl rfl ?_
        refine a_getr (k := 1) rfl fRX10_26 rfl rfl rfl ?_
        refine u_iloadn (k := 2) rfl rfl ?_
        refine r_virt1 (M' := mX9_ropeOf) (k := 3) rfl lRX10_141 oX9_ropeOf vX9_ropeOf ⟨Nat.le_of_ble_eq_true rfl, Nat.le_of_ble_eq_true rfl⟩ rfl rfl (Nat.le_of_ble_eq_true rfl) (x_ropeOf 1 q h (hC.yes hk) h5) ?_
        refine a_astore (k := 4) (lv' := [(4, _), (0, _), (1, _), (2, _), (3, _)]) rfl (Nat.le_of_ble_eq_true rfl) rfl ?_
        refine u_aload (k := 5) rfl rfl ?_
        refine a_nonnullR (k := 6) rfl ?_
        refine u_iloadn (k := 9) rfl rfl ?_
        refine a_if_lt (k := 10) rfl (fun c_19 => ?_) (fun c_19 => ?_)
        · omega
        · refine u_iloadn (k := 11) rfl rfl ?_
          refine u_aload (k := 12) rfl rfl ?_
          refine i_virt0 (M' := mX6_length) (k := 13) rfl lRX10_203 oX6_length vX6_length ⟨Nat.le_of_ble_eq_true rfl, Nat.le_of_ble_eq_true rfl⟩ rfl rfl (Nat.le_of_ble_eq_true rfl) (x_length (5 + q) _ h hR0.1 hR0.2.1) ?_
          refine a_icmp_le (k := 14) rfl (fun c_28 => ?_) (fun c_28 => ?_)
          · refine u_aload (k := 17) rfl rfl ?_
            refine a_geti (k := 18) rfl fRX10_146 rfl rfl ?_
            rw [show h 5 (5 * 1 + q) 2 = ((σ.now.2.2 q).1 : Int) from hR0.1]
            refine a_bipush (k := 19) rfl ?_
            refine a_icmp_lt (k := 20) rfl (fun c_41 => ?_) (fun c_41 => ?_)
            · refine u_aloadn (k := 23) rfl rfl ?_
              refine a_getr (k := 24) rfl fRX10_33 rfl rfl rfl ?_
              refine u_aloadn (k := 25) rfl rfl ?_
              refine a_getr (k := 26) rfl fRX10_26 rfl rfl rfl ?_
              refine uv_virt1 (M' := mX2_remember) (k := 27) rfl lRX10_196 oX2_remember vX2_remember ⟨Nat.le_of_ble_eq_true rfl, Nat.le_of_ble_eq_true rfl⟩ rfl rfl (Nat.le_of_ble_eq_true rfl) (x_rem hW hC) (by intro r g hp; exact hp.1) (fun g hg => ?_)
              obtain ⟨-, hC1, -, -, hFC⟩ := hg; have hR := hC1.RP hW.rem hk
              refine u_aload (k := 28) rfl rfl ?_
              refine u_iloadn (k := 29) rfl rfl ?_
              refine u_iloadn (k := 30) rfl rfl ?_
              rw [b1]
              refine uv_virt2 (M' := mX6_addCurl) (k := 31) rfl lRX10_206 oX6_addCurl vX6_addCurl ⟨Nat.le_of_ble_eq_true rfl, Nat.le_of_ble_eq_true rfl⟩ rfl rfl (Nat.le_of_ble_eq_true rfl) (x_addCurl (5 + q) _ _ e _ _ g hR.1 hf hR.2.2.1 hR.2.2.2.1 hR.2.2.2.2.1 hR.2.2.2.2.2 (show e ≤ 2 * (σ.now.2.2 q).1 by omega) b2) (by intro r g hp; exact hp.1) (fun g2 hg2 => ?_)
              obtain ⟨-, hN, hF⟩ := hg2
              refine u_aload (k := 32) rfl rfl ?_
              refine a_geti (k := 33) rfl fRX10_146 rfl rfl ?_
              rw [hN.1]
              refine a_ireturn (k := 34) rfl rfl ?_
              exact ⟨rfl, hC1.rope hW.rem hk hF (hT4 q) (by simp) hN, hFC.tr (FC4 hF)⟩
            · omega
          · omega
      · rw [if_neg hf]
        refine Sp.of rfl kX10_curl (Nat.le_of_ble_eq_true rfl) ?_
        refine u_aloadn (k := 0) rfl rfl ?_
        refine a_getr (k := 1) rfl fRX10_26 rfl rfl rfl ?_
        refine u_iloadn (k := 2) rfl rfl ?_
        refine r_virt1 (M' := mX9_ropeOf) (k := 3) rfl lRX10_141 oX9_ropeOf vX9_ropeOf ⟨Nat.le_of_ble_eq_true rfl, Nat.le_of_ble_eq_true rfl⟩ rfl rfl (Nat.le_of_ble_eq_true rfl) (x_ropeOf 1 q h (hC.yes hk) h5) ?_
        refine a_astore (k := 4) (lv' := [(4, _), (0, _), (1, _), (2, _), (3, _)]) rfl (Nat.le_of_ble_eq_true rfl) rfl ?_
        refine u_aload (k := 5) rfl rfl ?_
        refine a_nonnullR (k := 6) rfl ?_
        refine u_iloadn (k := 9) rfl rfl ?_
        refine a_if_lt (k := 10) rfl (fun c_19 => ?_) (fun c_19 => ?_)
        · omega
        · refine u_iloadn (k := 11) rfl rfl ?_
          refine u_aload (k := 12) rfl rfl ?_
          refine i_virt0 (M' := mX6_length) (k := 13) rfl lRX10_203 oX6_length vX6_length ⟨Nat.le_of_ble_eq_true rfl, Nat.le_of_ble_eq_true rfl⟩ rfl rfl (Nat.le_of_ble_eq_true rfl) (x_length (5 + q) _ h hR0.1 hR0.2.1) ?_
          refine a_icmp_le (k := 14) rfl (fun c_28 => ?_) (fun c_28 => ?_)
          · refine u_aload (k := 17) rfl rfl ?_
            refine a_geti (k := 18) rfl fRX10_146 rfl rfl ?_
            rw [show h 5 (5 * 1 + q) 2 = ((σ.now.2.2 q).1 : Int) from hR0.1]
            refine a_bipush (k := 19) rfl ?_
            refine a_icmp_lt (k := 20) rfl (fun c_41 => ?_) (fun c_41 => ?_)
            · omega
            · refine a_ldc (k := 21) rfl nRX10_92 ⟨by decide, by decide⟩ ?_
              refine a_ireturn (k := 22) rfl rfl ?_
              exact ⟨rfl, hC, FC.rf⟩
          · omega
    · rw [if_neg hi]
      refine Sp.of rfl kX10_curl (Nat.le_of_ble_eq_true rfl) ?_
      refine u_aloadn (k := 0) rfl rfl ?_
      refine a_getr (k := 1) rfl fRX10_26 rfl rfl rfl ?_
      refine u_iloadn (k := 2) rfl rfl ?_
      refine r_virt1 (M' := mX9_ropeOf) (k := 3) rfl lRX10_141 oX9_ropeOf vX9_ropeOf ⟨Nat.le_of_ble_eq_true rfl, Nat.le_of_ble_eq_true rfl⟩ rfl rfl (Nat.le_of_ble_eq_true rfl) (x_ropeOf 1 q h (hC.yes hk) h5) ?_
      refine a_astore (k := 4) (lv' := [(4, _), (0, _), (1, _), (2, _), (3, _)]) rfl (Nat.le_of_ble_eq_true rfl) rfl ?_
      refine u_aload (k := 5) rfl rfl ?_
      refine a_nonnullR (k := 6) rfl ?_
      refine u_iloadn (k := 9) rfl rfl ?_
      refine a_if_lt (k := 10) rfl (fun c_19 => ?_) (fun c_19 => ?_)
      · refine a_ldc (k := 15) rfl nRX10_84 ⟨by decide, by decide⟩ ?_
        refine a_ireturn (k := 16) rfl rfl ?_
        exact ⟨rfl, hC, FC.rf⟩
      · refine u_iloadn (k := 11) rfl rfl ?_
        refine u_aload (k := 12) rfl rfl ?_
        refine i_virt0 (M' := mX6_length) (k := 13) rfl lRX10_203 oX6_length vX6_length ⟨Nat.le_of_ble_eq_true rfl, Nat.le_of_ble_eq_true rfl⟩ rfl rfl (Nat.le_of_ble_eq_true rfl) (x_length (5 + q) _ h hR0.1 hR0.2.1) ?_
        refine a_icmp_le (k := 14) rfl (fun c_28 => ?_) (fun c_28 => ?_)
        · omega
        · refine a_ldc (k := 15) rfl nRX10_84 ⟨by decide, by decide⟩ ?_
          refine a_ireturn (k := 16) rfl rfl ?_
          exact ⟨rfl, hC, FC.rf⟩
