def o_pretzel (σ : AS) (k w : Int) : Int × AS := σ.on k fun q => (if w = 0 then ((σ.now.2.2 q).1 : Int) else if w = 1 then ((σ.now.2.2 q).2.1 : Int) else if w = 2 then (r_ways (σ.now.2.2 q) 3 : Int) else if w = 3 then (r_ways (σ.now.2.2 q) 5 : Int) else if w = 4 then (r_weak (σ.now.2.2 q) : Int) else if w = 5 then r_few (σ.now.2.2 q) else if w = 6 then (r_odd (σ.now.2.2 q) : Int) else OUT, σ)
theorem c_pretzel {B : Nat} {σ : AS} {h : HH} (hW : WA B σ) (hC : CR σ h) (k w : Int) : Sp mX10_pretzel [vr 0 0, vi k, vi w] h (OP (o_pretzel σ k w) h) := by
  rcases kcase k σ.now.1 with hk | ⟨q, rfl, hk⟩
  · rw [show o_pretzel σ k w = _ from on_no hk]
    refine Sp.of rfl kX10_pretzel (Nat.le_of_ble_eq_true rfl) ?_
    refine u_aloadn (k := 0) rfl rfl ?_
    refine a_getr (k := 1) rfl fRX10_26 rfl rfl rfl ?_
    refine u_iloadn (k := 2) rfl rfl ?_
    refine r_virt1 (M' := mX9_ropeOf) (k := 3) rfl lRX10_141 oX9_ropeOf vX9_ropeOf ⟨Nat.le_of_ble_eq_true rfl, Nat.le_of_ble_eq_true rfl⟩ rfl rfl (Nat.le_of_ble_eq_true rfl) (x_ropeNo 1 k h (hC.no hk)) ?_
    refine a_astorenN (k := 4) (lv' := [(3, _), (0, _), (1, _), (2, _)]) rfl (Nat.le_of_ble_eq_true rfl) rfl ?_
    refine u_aloadnN (k := 5) rfl rfl ?_
    refine a_nonnullN (k := 6) rfl ?_
    refine a_ldc (k := 7) rfl nRX10_145 ⟨by decide, by decide⟩ ?_
    refine a_ireturn (k := 8) rfl rfl ?_
    exact ⟨rfl, hC, FC.rf⟩
  · have h5 : q < 5 := by have := hW.now.1; omega
    have hWr := hW.now.2.2 q hk
    have hR := hC.RH hk
    rw [show o_pretzel σ (q : Int) w = _ from on_yes hk]
    refine Sp.of rfl kX10_pretzel (Nat.le_of_ble_eq_true rfl) ?_
    refine u_aloadn (k := 0) rfl rfl ?_
    refine a_getr (k := 1) rfl fRX10_26 rfl rfl rfl ?_
    refine u_iloadn (k := 2) rfl rfl ?_
    refine r_virt1 (M' := mX9_ropeOf) (k := 3) rfl lRX10_141 oX9_ropeOf vX9_ropeOf ⟨Nat.le_of_ble_eq_true rfl, Nat.le_of_ble_eq_true rfl⟩ rfl rfl (Nat.le_of_ble_eq_true rfl) (x_ropeOf 1 q h (hC.yes hk) h5) ?_
    refine a_astoren (k := 4) (lv' := [(3, _), (0, _), (1, _), (2, _)]) rfl (Nat.le_of_ble_eq_true rfl) rfl ?_
    refine u_aloadn (k := 5) rfl rfl ?_
    refine a_nonnullR (k := 6) rfl ?_
    refine u_iloadn (k := 9) rfl rfl ?_
    rcases (show (w < 0 ∨ 6 < w) ∨ w = 0 ∨ w = 1 ∨ w = 2 ∨ w = 3 ∨ w = 4 ∨ w = 5 ∨ w = 6 by omega) with c_17 | c_17 | c_17 | c_17 | c_17 | c_17 | c_17 | c_17
    · refine a_tabOut (k := 10) (t := 107) rfl c_17 (by decide) ?_
      refine a_ldc (k := 40) rfl nRX10_84 ⟨by decide, by decide⟩ ?_
      refine a_ireturn (k := 41) rfl rfl ?_
      refine ⟨?_, hC, FC.rf⟩
      dsimp only
      rw [if_neg (by omega), if_neg (by omega), if_neg (by omega), if_neg (by omega), if_neg (by omega), if_neg (by omega), if_neg (by omega)]
    · refine a_tabIn (k := 10) (o := 43) (t := 60) rfl (by omega) (by omega) (by rw [c_17]; rfl) (by decide) ?_
      refine u_aloadn (k := 11) rfl rfl ?_
      refine a_geti (k := 12) rfl fRX10_146 rfl rfl ?_
      rw [show h 5 (5 * 1 + q) 2 = ((σ.now.2.2 q).1 : Int) from hR.1]
      refine a_ireturn (k := 13) rfl rfl ?_
      exact ⟨by subst c_17; rfl, hC, FC.rf⟩
    · refine a_tabIn (k := 10) (o := 48) (t := 65) rfl (by omega) (by omega) (by rw [c_17]; rfl) (by decide) ?_
      refine u_aloadn (k := 14) rfl rfl ?_
      refine a_geti (k := 15) rfl fRX10_151 rfl rfl ?_
      rw [show h 5 (5 * 1 + q) 3 = ((σ.now.2.2 q).2.1 : Int) from hR.2.1]
      refine a_ireturn (k := 16) rfl rfl ?_
      exact ⟨by subst c_17; rfl, hC, FC.rf⟩
    · refine a_tabIn (k := 10) (o := 53) (t := 70) rfl (by omega) (by omega) (by rw [c_17]; rfl) (by decide) ?_
      refine u_aloadn (k := 17) rfl rfl ?_
      refine a_getr (k := 18) rfl fRX10_69 rfl rfl rfl ?_
      refine u_aloadn (k := 19) rfl rfl ?_
      refine a_iconst (k := 20) rfl ?_
      refine ui_virt2 (M' := mX1_waysBy) (k := 21) rfl lRX10_154 oX1_waysBy vX1_waysBy ⟨Nat.le_of_ble_eq_true rfl, Nat.le_of_ble_eq_true rfl⟩ rfl rfl (Nat.le_of_ble_eq_true rfl) (y_ways hWr hR 3 (by omega) (by omega)) (by intro r g hp; exact ⟨_, hp.1⟩) (fun z g hg => ?_)
      obtain ⟨hr, hF⟩ := hg; cases hr
      refine a_ireturn (k := 22) rfl rfl ?_
      exact ⟨by subst c_17; rfl, hC.tcl hW hF, FC_tcl hF⟩
    · refine a_tabIn (k := 10) (o := 63) (t := 80) rfl (by omega) (by omega) (by rw [c_17]; rfl) (by decide) ?_
      refine u_aloadn (k := 23) rfl rfl ?_
      refine a_getr (k := 24) rfl fRX10_69 rfl rfl rfl ?_
      refine u_aloadn (k := 25) rfl rfl ?_
      refine a_iconst (k := 26) rfl ?_
      refine ui_virt2 (M' := mX1_waysBy) (k := 27) rfl lRX10_154 oX1_waysBy vX1_waysBy ⟨Nat.le_of_ble_eq_true rfl, Nat.le_of_ble_eq_true rfl⟩ rfl rfl (Nat.le_of_ble_eq_true rfl) (y_ways hWr hR 5 (by omega) (by omega)) (by intro r g hp; exact ⟨_, hp.1⟩) (fun z g hg => ?_)
      obtain ⟨hr, hF⟩ := hg; cases hr
      refine a_ireturn (k := 28) rfl rfl ?_
      exact ⟨by subst c_17; rfl, hC.tcl hW hF, FC_tcl hF⟩
    · refine a_tabIn (k := 10) (o := 73) (t := 90) rfl (by omega) (by omega) (by rw [c_17]; rfl) (by decide) ?_
      refine u_aloadn (k := 29) rfl rfl ?_
      refine u_aloadn (k := 30) rfl rfl ?_
      refine ui_virt1 (M' := mX10_weakOnes) (k := 31) rfl lRX10_158 oX10_weakOnes vX10_weakOnes ⟨Nat.le_of_ble_eq_true rfl, Nat.le_of_ble_eq_true rfl⟩ rfl rfl (Nat.le_of_ble_eq_true rfl) (x_weak hWr hR) (by intro r g hp; exact ⟨_, hp.1⟩) (fun z g hg => ?_)
      obtain ⟨hr, hF⟩ := hg; cases hr
      refine a_ireturn (k := 32) rfl rfl ?_
      exact ⟨by subst c_17; rfl, hC.tml hW hF, FC_tml hF⟩
    · refine a_tabIn (k := 10) (o := 79) (t := 96) rfl (by omega) (by omega) (by rw [c_17]; rfl) (by decide) ?_
      refine u_aloadn (k := 33) rfl rfl ?_
      refine u_aloadn (k := 34) rfl rfl ?_
      refine ui_virt1 (M' := mX10_fewestSwitches) (k := 35) rfl lRX10_162 oX10_fewestSwitches vX10_fewestSwitches ⟨Nat.le_of_ble_eq_true rfl, Nat.le_of_ble_eq_true rfl⟩ rfl rfl (Nat.le_of_ble_eq_true rfl) (x_few hWr hR) (by intro r g hp; exact ⟨_, hp.1⟩) (fun z g hg => ?_)
      obtain ⟨hr, hF⟩ := hg; cases hr
      refine a_ireturn (k := 36) rfl rfl ?_
      exact ⟨by subst c_17; rfl, hC.tml hW hF, FC_tml hF⟩
    · refine a_tabIn (k := 10) (o := 85) (t := 102) rfl (by omega) (by omega) (by rw [c_17]; rfl) (by decide) ?_
      refine u_aloadn (k := 37) rfl rfl ?_
      refine ui_stat1 (M' := mX10_oddOnes) (k := 38) rfl lRX10_165 oX10_oddOnes vX10_oddOnes ⟨Nat.le_of_ble_eq_true rfl, Nat.le_of_ble_eq_true rfl⟩ rfl (Nat.le_of_ble_eq_true rfl) (x_odd hWr hR) (by intro r g hp; exact ⟨_, hp.1⟩) (fun z g hg => ?_)
      obtain ⟨hr, hg⟩ := hg; cases hr; subst hg
      refine a_ireturn (k := 39) rfl rfl ?_
      exact ⟨by subst c_17; rfl, hC, FC.rf⟩
def o_colour (σ : AS) (k d : Int) : Int × AS := σ.on k fun q => (if 0 ≤ d ∧ d < pts (σ.now.2.2 q).1 then r_col (σ.now.2.2 q) d.toNat else -1, σ)
theorem c_colour {B : Nat} {σ : AS} {h : HH} (hW : WA B σ) (hC : CR σ h) (k d : Int) : Sp mX10_colour [vr 0 0, vi k, vi d] h (OP (o_colour σ k d) h) := by
  rcases kcase k σ.now.1 with hk | ⟨q, rfl, hk⟩
  · rw [show o_colour σ k d = _ from on_no hk]
    refine Sp.of rfl kX10_colour (Nat.le_of_ble_eq_true rfl) ?_
    refine u_aloadn (k := 0) rfl rfl ?_
    refine a_getr (k := 1) rfl fRX10_26 rfl rfl rfl ?_
    refine u_iloadn (k := 2) rfl rfl ?_
    refine r_virt1 (M' := mX9_ropeOf) (k := 3) rfl lRX10_141 oX9_ropeOf vX9_ropeOf ⟨Nat.le_of_ble_eq_true rfl, Nat.le_of_ble_eq_true rfl⟩ rfl rfl (Nat.le_of_ble_eq_true rfl) (x_ropeNo 1 k h (hC.no hk)) ?_
    refine a_astorenN (k := 4) (lv' := [(3, _), (0, _), (1, _), (2, _)]) rfl (Nat.le_of_ble_eq_true rfl) rfl ?_
    refine u_aloadnN (k := 5) rfl rfl ?_
    refine a_nonnullN (k := 6) rfl ?_
    refine a_ldc (k := 7) rfl nRX10_145 ⟨by decide, by decide⟩ ?_
    refine a_goto (k := 8) rfl ?_
    refine a_ireturn (k := 14) rfl rfl ?_
    exact ⟨rfl, hC, FC.rf⟩
  · have h5 : q < 5 := by have := hW.now.1; omega
    rw [show o_colour σ (q : Int) d = _ from on_yes hk]
    refine Sp.of rfl kX10_colour (Nat.le_of_ble_eq_true rfl) ?_
    refine u_aloadn (k := 0) rfl rfl ?_
    refine a_getr (k := 1) rfl fRX10_26 rfl rfl rfl ?_
    refine u_iloadn (k := 2) rfl rfl ?_
    refine r_virt1 (M' := mX9_ropeOf) (k := 3) rfl lRX10_141 oX9_ropeOf vX9_ropeOf ⟨Nat.le_of_ble_eq_true rfl, Nat.le_of_ble_eq_true rfl⟩ rfl rfl (Nat.le_of_ble_eq_true rfl) (x_ropeOf 1 q h (hC.yes hk) h5) ?_
    refine a_astoren (k := 4) (lv' := [(3, _), (0, _), (1, _), (2, _)]) rfl (Nat.le_of_ble_eq_true rfl) rfl ?_
    refine u_aloadn (k := 5) rfl rfl ?_
    refine a_nonnullR (k := 6) rfl ?_
    refine u_aloadn (k := 9) rfl rfl ?_
    refine a_getr (k := 10) rfl fRX10_69 rfl rfl rfl ?_
    refine u_aloadn (k := 11) rfl rfl ?_
    refine u_iloadn (k := 12) rfl rfl ?_
    refine ui_virt2 (M' := mX1_firstColourOf) (k := 13) rfl lRX10_268 oX1_firstColourOf vX1_firstColourOf ⟨Nat.le_of_ble_eq_true rfl, Nat.le_of_ble_eq_true rfl⟩ rfl rfl (Nat.le_of_ble_eq_true rfl) (y_col (hW.now.2.2 q hk) (hC.RH hk) d) (by intro r g hp; exact ⟨_, hp.1⟩) (fun z g hg => ?_)
    obtain ⟨hr, hF⟩ := hg; cases hr
    refine a_ireturn (k := 14) rfl rfl ?_
    exact ⟨rfl, hC.tcl hW hF, FC_tcl hF⟩
/-! tried: what was there before doesn't count -/
noncomputable def r_try (r : Rp) (B0 : Nat → Int) : WT := (ta r.2.2 r.1 r.2.1 (2 ^ r.1 - 1) (2 ^ r.1) ((ui (fun _ => -1) (2 ^ r.1 - 1) 0, ui B0 (2 ^ r.1 - 1) (-1)), (0, (r.1 : Int), 0, -1))).2
def EQB (x y : FB) : Prop := x.1 = y.1 ∧ ∀ T, x.1 T ≠ -1 → x.2 T = y.2 T
theorem EQB.rl1 {S a v : Nat} {x y : FB} (h : EQB x y) (hS : x.1 S ≠ -1) (h0 : ∀ T, -1 ≤ x.1 T) : EQB (rl1 S a v x) (rl1 S a v y) ∧ ∀ T, -1 ≤ (rl1 S a v x).1 T := by
  obtain ⟨h1, h2⟩ := h
  have hf : fsv S a v x = fsv S a v y := by unfold fsv; rw [h2 S hS]
  have hRC : RC S a v x ↔ RC S a v y := by
    unfold RC
    rw [← h1, hf]
    by_cases hT : x.1 (ndiff S (tkb v)) = -1
    · simp [hT]
    · rw [h2 _ hT]
  unfold Jvm.Pilot.CPretzelProofLaw_law_r5939_cc273b.rl1
  by_cases hc : RC S a v x
  · rw [if_pos hc, if_pos (hRC.mp hc)]
    refine ⟨⟨?_, fun T hT => ?_⟩, fun T => ?_⟩
    · dsimp only
      rw [h1]
    · dsimp only at hT ⊢
      unfold ui at hT ⊢
      by_cases he : T = ndiff S (tkb v)
      · rw [if_pos he, if_pos he, hf]
      · rw [if_neg he] at hT
        rw [if_neg he, if_neg he]
        exact h2 T hT
    · dsimp only
      unfold ui
      have := h0 S
      have := h0 T
      split <;> omega
  · rw [if_neg hc, if_neg (fun z => hc (hRC.mpr z))]
    exact ⟨⟨h1, h2⟩, h0⟩
theorem rl1_S {S a v : Nat} {x : FB} (hS : x.1 S ≠ -1) (h0 : ∀ T, -1 ≤ x.1 T) : (rl1 S a v x).1 S ≠ -1 := by
  have := h0 S
  by_cases hc : RC S a v x
  · rw [rl1_p hc]
    dsimp only
    unfold ui
    split <;> omega
  · rw [rl1_n hc]; exact hS
theorem EQB.rli {S a : Nat} {l : List Nat} {x y : FB} (h : EQB x y) (hS : x.1 S ≠ -1) (h0 : ∀ T, -1 ≤ x.1 T) : ∀ i, EQB (rli S a l x i) (rli S a l y i) ∧ (rli S a l x i).1 S ≠ -1 ∧ ∀ T, -1 ≤ (rli S a l x i).1 T
  | 0 => ⟨h, hS, h0⟩
  | i + 1 => by
    obtain ⟨a1, a2, a3⟩ := EQB.rli (a := a) (l := l) h hS h0 i
    have b := a1.rl1 (a := a) (v := fn l i) a2 a3
    exact ⟨b.1, rl1_S a2 a3, b.2⟩
theorem EQB.tstep {f : Nat → Nat} {c s a n : Nat} {x y : FB × WT} (h : EQB x.1 y.1) (hw : x.2 = y.2) (h0 : ∀ T, -1 ≤ x.1.1 T) : EQB (tstep f c s a n x).1 (tstep f c s a n y).1 ∧ (tstep f c s a n x).2 = (tstep f c s a n y).2 ∧ ∀ T, -1 ≤ (tstep f c s a n x).1.1 T := by
  by_cases hn : x.1.1 n = -1
  · rw [tstep_n hn, tstep_n (by rw [← h.1]; exact hn)]
    exact ⟨h, hw, h0⟩
  · rw [tstep_p hn, tstep_p (by rw [← h.1]; exact hn)]
    obtain ⟨a1, a2, a3⟩ := h.rli (a := a) (l := mls f c n 0 s) hn h0 (mls f c n 0 s).length
    refine ⟨a1, ?_, a3⟩
    dsimp only
    unfold wg
    rw [hw, ← h.1, ← h.2 n hn]
theorem EQB.ta {f : Nat → Nat} {c s a : Nat} : ∀ {n : Nat} {x y : FB × WT}, EQB x.1 y.1 → x.2 = y.2 → (∀ T, -1 ≤ x.1.1 T) → (ta f c s a n x).2 = (ta f c s a n y).2
  | 0, _, _, _, hw, _ => hw
  | n + 1, x, y, h, hw, h0 => by
    obtain ⟨a1, a2, a3⟩ := h.tstep (f := f) (c := c) (s := s) (a := a) (n := n) hw h0
    have z := EQB.ta (f := f) (c := c) (s := s) (a := a) (n := n) a1 a2 a3
    exact z
theorem r_try_B (r : Rp) (B0 B1 : Nat → Int) : r_try r B0 = r_try r B1 := by
  unfold r_try
  refine EQB.ta ⟨rfl, fun T hT => ?_⟩ rfl (fun T => ?_)
  · dsimp only at hT ⊢
    unfold ui at hT ⊢
    by_cases he : T = 2 ^ r.1 - 1
    · rw [if_pos he, if_pos he]
    · rw [if_neg he] at hT
      exact absurd rfl hT
  · dsimp only
    unfold ui
    split <;> simp
noncomputable def o_toShake (σ : AS) (k w : Int) : Int × AS := σ.on k fun q => if 0 ≤ w ∧ w ≤ 3 then (if w = 0 then (r_try (σ.now.2.2 q) (fun _ => 0)).2.1 else if w = 1 then (r_try (σ.now.2.2 q) (fun _ => 0)).2.2.1 else if w = 2 then ((r_try (σ.now.2.2 q) (fun _ => 0)).1 : Int) else (r_try (σ.now.2.2 q) (fun _ => 0)).2.2.2, σ) else (OUT, σ)
theorem c_toShake {B : Nat} {σ : AS} {h : HH} (hW : WA B σ) (hC : CR σ h) (k w : Int) : Sp mX10_toShake [vr 0 0, vi k, vi w] h (OP (o_toShake σ k w) h) := by
  rcases kcase k σ.now.1 with hk | ⟨q, rfl, hk⟩
  · rw [show o_toShake σ k w = _ from on_no hk]
    refine Sp.of rfl kX10_toShake (Nat.le_of_ble_eq_true rfl) ?_
    refine u_aloadn (k := 0) rfl rfl ?_
    refine a_getr (k := 1) rfl fRX10_26 rfl rfl rfl ?_
    refine u_iloadn (k := 2) rfl rfl ?_
    refine r_virt1 (M' := mX9_ropeOf) (k := 3) rfl lRX10_141 oX9_ropeOf vX9_ropeOf ⟨Nat.le_of_ble_eq_true rfl, Nat.le_of_ble_eq_true rfl⟩ rfl rfl (Nat.le_of_ble_eq_true rfl) (x_ropeNo 1 k h (hC.no hk)) ?_
    refine a_astorenN (k := 4) (lv' := [(3, _), (0, _), (1, _), (2, _)]) rfl (Nat.le_of_ble_eq_true rfl) rfl ?_
    refine u_aloadnN (k := 5) rfl rfl ?_
    refine a_nonnullN (k := 6) rfl ?_
    refine a_ldc (k := 7) rfl nRX10_145 ⟨by decide, by decide⟩ ?_
    refine a_ireturn (k := 8) rfl rfl ?_
    exact ⟨rfl, hC, FC.rf⟩
  · have h5 : q < 5 := by have := hW.now.1; omega
    rw [show o_toShake σ (q : Int) w = _ from on_yes hk]
    by_cases hw : 0 ≤ w ∧ w ≤ 3
    · rw [if_pos hw]
      have key : ∀ g : HH, HWt (r_try (σ.now.2.2 q) (fun _ => 0)) g → Fr tsh [] h g → AW mX10_toShake (OP (if w = 0 then (r_try (σ.now.2.2 q) (fun _ => 0)).2.1 else if w = 1 then (r_try (σ.now.2.2 q) (fun _ => 0)).2.2.1 else if w = 2 then ((r_try (σ.now.2.2 q) (fun _ => 0)).1 : Int) else (r_try (σ.now.2.2 q) (fun _ => 0)).2.2.2, σ) h) 40 [(3, vr 5 (5 * 1 + q)), (0, vr 0 0), (1, vi q), (2, vi w)] [] g := by
        intro g hT hF
        have hC' : CR σ g := hC.scr hW hF (by simp [tsh, rel]) (by simp)
        have hfc : FC h g := FC.rf.fr hF (by simp [tsh]) (by simp)
        refine u_iloadn (k := 22) rfl rfl ?_
        rcases (show (w < 0 ∨ 2 < w) ∨ w = 0 ∨ w = 1 ∨ w = 2 by omega) with c_41 | c_41 | c_41 | c_41
        · refine a_tabOut (k := 23) (t := 92) rfl c_41 (by decide) ?_
          refine u_aloadn (k := 36) rfl rfl ?_
          refine a_getr (k := 37) rfl fRX10_62 rfl rfl rfl ?_
          refine a_geti (k := 38) rfl fRX10_252 rfl rfl ?_
          rw [hT.2.2.2]
          refine a_ireturn (k := 39) rfl rfl ?_
          refine ⟨?_, hC', hfc⟩
          dsimp only
          rw [if_neg (by omega), if_neg (by omega), if_neg (by omega)]
        · refine a_tabIn (k := 23) (o := 27) (t := 68) rfl (by omega) (by omega) (by rw [c_41]; rfl) (by decide) ?_
          refine u_aloadn (k := 24) rfl rfl ?_
          refine a_getr (k := 25) rfl fRX10_62 rfl rfl rfl ?_
          refine a_geti (k := 26) rfl fRX10_243 rfl rfl ?_
          rw [hT.2.1]
          refine a_ireturn (k := 27) rfl rfl ?_
          exact ⟨by subst c_41; rfl, hC', hfc⟩
        · refine a_tabIn (k := 23) (o := 35) (t := 76) rfl (by omega) (by omega) (by rw [c_41]; rfl) (by decide) ?_
          refine u_aloadn (k := 28) rfl rfl ?_
          refine a_getr (k := 29) rfl fRX10_62 rfl rfl rfl ?_
          refine a_geti (k := 30) rfl fRX10_246 rfl rfl ?_
          rw [hT.2.2.1]
          refine a_ireturn (k := 31) rfl rfl ?_
          exact ⟨by subst c_41; rfl, hC', hfc⟩
        · refine a_tabIn (k := 23) (o := 43) (t := 84) rfl (by omega) (by omega) (by rw [c_41]; rfl) (by decide) ?_
          refine u_aloadn (k := 32) rfl rfl ?_
          refine a_getr (k := 33) rfl fRX10_62 rfl rfl rfl ?_
          refine a_geti (k := 34) rfl fRX10_249 rfl rfl ?_
          rw [hT.1]
          refine a_ireturn (k := 35) rfl rfl ?_
          exact ⟨by subst c_41; rfl, hC', hfc⟩
      refine Sp.of rfl kX10_toShake (Nat.le_of_ble_eq_true rfl) ?_
      refine u_aloadn (k := 0) rfl rfl ?_
      refine a_getr (k := 1) rfl fRX10_26 rfl rfl rfl ?_
      refine u_iloadn (k := 2) rfl rfl ?_
      refine r_virt1 (M' := mX9_ropeOf) (k := 3) rfl lRX10_141 oX9_ropeOf vX9_ropeOf ⟨Nat.le_of_ble_eq_true rfl, Nat.le_of_ble_eq_true rfl⟩ rfl rfl (Nat.le_of_ble_eq_true rfl) (x_ropeOf 1 q h (hC.yes hk) h5) ?_
      refine a_astoren (k := 4) (lv' := [(3, _), (0, _), (1, _), (2, _)]) rfl (Nat.le_of_ble_eq_true rfl) rfl ?_
      refine u_aloadn (k := 5) rfl rfl ?_
      refine a_nonnullR (k := 6) rfl ?_
      refine u_iloadn (k := 9) rfl rfl ?_
      refine a_if_lt (k := 10) rfl (fun c_17 => ?_) (fun c_17 => ?_)
      · omega
      · refine u_iloadn (k := 11) rfl rfl ?_
        refine a_iconst (k := 12) rfl ?_
        refine a_icmp_le (k := 13) rfl (fun c_22 => ?_) (fun c_22 => ?_)
        · refine u_aloadn (k := 16) rfl rfl ?_
          refine a_getr (k := 17) rfl fRX10_62 rfl rfl rfl ?_
          refine u_aloadn (k := 18) rfl rfl ?_
          refine u_aloadn (k := 19) rfl rfl ?_
          refine a_getr (k := 20) rfl fRX10_55 rfl rfl rfl ?_
          refine uv_virt2 (M' := mX8_tryAll) (k := 21) rfl lRX10_239 oX8_tryAll vX8_tryAll ⟨Nat.le_of_ble_eq_true rfl, Nat.le_of_ble_eq_true rfl⟩ rfl rfl (Nat.le_of_ble_eq_true rfl) (x_tryAll (5 + q) _ _ _ h (hC.RP hW hk)) (by intro r g hp; exact hp.1) (fun g hg => ?_)
          obtain ⟨-, hT, hF⟩ := hg
          refine key g ?_ hF
          rw [r_try_B (σ.now.2.2 q) (fun _ => 0) (h 24 0)]
          exact hT
        · omega
    · rw [if_neg hw]
      refine Sp.of rfl kX10_toShake (Nat.le_of_ble_eq_true rfl) ?_
      refine u_aloadn (k := 0) rfl rfl ?_
      refine a_getr (k := 1) rfl fRX10_26 rfl rfl rfl ?_
      refine u_iloadn (k := 2) rfl rfl ?_
      refine r_virt1 (M' := mX9_ropeOf) (k := 3) rfl lRX10_141 oX9_ropeOf vX9_ropeOf ⟨Nat.le_of_ble_eq_true rfl, Nat.le_of_ble_eq_true rfl⟩ rfl rfl (Nat.le_of_ble_eq_true rfl) (x_ropeOf 1 q h (hC.yes hk) h5) ?_
      refine a_astoren (k := 4) (lv' := [(3, _), (0, _), (1, _), (2, _)]) rfl (Nat.le_of_ble_eq_true rfl) rfl ?_
      refine u_aloadn (k := 5) rfl rfl ?_
      refine a_nonnullR (k := 6) rfl ?_
      refine u_iloadn (k := 9) rfl rfl ?_
      refine a_if_lt (k := 10) rfl (fun c_17 => ?_) (fun c_17 => ?_)
      · refine a_ldc (k := 14) rfl nRX10_84 ⟨by decide, by decide⟩ ?_
        refine a_ireturn (k := 15) rfl rfl ?_
        exact ⟨rfl, hC, FC.rf⟩
      · refine u_iloadn (k := 11) rfl rfl ?_
        refine a_iconst (k := 12) rfl ?_
        refine a_icmp_le (k := 13) rfl (fun c_22 => ?_) (fun c_22 => ?_)
        · omega
        · refine a_ldc (k := 14) rfl nRX10_84 ⟨by decide, by decide⟩ ?_
          refine a_ireturn (k := 15) rfl rfl ?_
          exact ⟨rfl, hC, FC.rf⟩
def r_fewu (r : Rp) : Nat := pc_ (r_left r 0 0)
theorem lft_le (f : Nat → Nat) (c W H : Nat) : ∀ n S, lft f c W H n S ≤ S
  | 0, S => Nat.le_refl S
  | n + 1, S => by
    unfold lft
    split
    · exact Nat.le_refl S
    · exact Nat.le_trans (lft_le f c W H n _) (ndiff_le _ _)
theorem x_fewu {j : Nat} {r : Rp} {h : HH} (hW : WR r) (hR : RH j r h) : Sp mX10_fewestUnsalted [vr 0 0, vr 5 j] h (fun z g => z = some (vi (r_fewu r : Int)) ∧ Fr tml [] h g) := by
  have hp := p8 hW.1
  have hl : r_left r 0 0 ≤ 2 ^ r.1 - 1 := lft_le _ _ _ _ _ _
  refine Sp.of rfl kX10_fewestUnsalted (Nat.le_of_ble_eq_true rfl) ?_
  refine u_aloadn (k := 0) rfl rfl ?_
  refine a_getr (k := 1) rfl fRX10_55 rfl rfl rfl ?_
  refine u_aloadn (k := 2) rfl rfl ?_
  refine u_aloadn (k := 3) rfl rfl ?_
  refine i_virt0 (M' := mX6_everyCrossing) (k := 4) rfl lRX10_216 oX6_everyCrossing vX6_everyCrossing ⟨Nat.le_of_ble_eq_true rfl, Nat.le_of_ble_eq_true rfl⟩ rfl rfl (Nat.le_of_ble_eq_true rfl) (x_every j _ h hR.1 hW.1) ?_
  refine a_iconst (k := 5) rfl ?_
  refine a_iconst (k := 6) rfl ?_
  refine ui_virt4 (M' := mX3_leftOf) (k := 7) rfl lRX10_285 oX3_leftOf vX3_leftOf ⟨Nat.le_of_ble_eq_true rfl, Nat.le_of_ble_eq_true rfl⟩ rfl rfl (Nat.le_of_ble_eq_true rfl) (x_leftOf j _ _ _ 0 0 _ h (r_RPof hW hR) (show 2 ^ r.1 - 1 < 2 ^ 31 by omega) (by omega) (by omega)) (by intro r g hp; exact ⟨_, hp.1⟩) (fun z g2 hg2 => ?_)
  obtain ⟨hr, hF2⟩ := hg2; cases hr
  refine i_stat1 (M' := mJ6_bitCount_0f7a4) (k := 8) rfl lRX10_289 oJ6_bitCount_0f7a4 vJ6_bitCount_0f7a4 ⟨Nat.le_of_ble_eq_true rfl, Nat.le_of_ble_eq_true rfl⟩ rfl (Nat.le_of_ble_eq_true rfl) (j_bitCount (r_left r 0 0) g2 (by omega)) ?_
  refine a_ireturn (k := 9) rfl rfl ?_
  exact ⟨rfl, hF2⟩
def o_tells (σ : AS) (k q : Int) : Int × AS := σ.two k q fun a b => ((if r_ways (σ.now.2.2 a) 3 = r_ways (σ.now.2.2 b) 3 then 0 else 1) + (if r_ways (σ.now.2.2 a) 5 = r_ways (σ.now.2.2 b) 5 then 0 else 2) + (if r_fewu (σ.now.2.2 a) = r_fewu (σ.now.2.2 b) then 0 else 4), σ)
theorem RH.tcl {j : Nat} {r : Rp} {h g : HH} (hR : RH j r h) (hF : Fr tcl [] h g) : RH j r g := hR.keep (fun k => hF 5 j k (by simp [Jvm.Pilot.CPretzelProofLaw_law_r5939_cc273b.tcl]) (by simp)) (fun k => hF 6 j k (by simp [Jvm.Pilot.CPretzelProofLaw_law_r5939_cc273b.tcl]) (by simp))
theorem c_tells {B : Nat} {σ : AS} {h : HH} (hW : WA B σ) (hC : CR σ h) (k q : Int) : Sp mX10_tells [vr 0 0, vi k, vi q] h (OP (o_tells σ k q) h) := by
  rcases kcase k σ.now.1 with hk | ⟨a, rfl, hk⟩
  · rw [show o_tells σ k q = (UNK, σ) from if_neg (by omega)]
    rcases kcase q σ.now.1 with hq | ⟨b, rfl, hq⟩
    · show Sp mX10_tells _ h _
      refine Sp.of rfl kX10_tells (Nat.le_of_ble_eq_true rfl) ?_
      refine u_aloadn (k := 0) rfl rfl ?_
      refine a_getr (k := 1) rfl fRX10_26 rfl rfl rfl ?_
      refine u_iloadn (k := 2) rfl rfl ?_
      refine r_virt1 (M' := mX9_ropeOf) (k := 3) rfl lRX10_141 oX9_ropeOf vX9_ropeOf ⟨Nat.le_of_ble_eq_true rfl, Nat.le_of_ble_eq_true rfl⟩ rfl rfl (Nat.le_of_ble_eq_true rfl) (x_ropeNo 1 k h (hC.no hk)) ?_
      refine a_astorenN (k := 4) (lv' := [(3, _), (0, _), (1, _), (2, _)]) rfl (Nat.le_of_ble_eq_true rfl) rfl ?_
      refine u_aloadn (k := 5) rfl rfl ?_
      refine a_getr (k := 6) rfl fRX10_26 rfl rfl rfl ?_
      refine u_iloadn (k := 7) rfl rfl ?_
      refine r_virt1 (M' := mX9_ropeOf) (k := 8) rfl lRX10_141 oX9_ropeOf vX9_ropeOf ⟨Nat.le_of_ble_eq_true rfl, Nat.le_of_ble_eq_true rfl⟩ rfl rfl (Nat.le_of_ble_eq_true rfl) (x_ropeNo 1 q h (hC.no hq)) ?_
      refine a_astoreNl (k := 9) (lv' := [(4, _), (3, _), (0, _), (1, _), (2, _)]) rfl (Nat.le_of_ble_eq_true rfl) rfl ?_
      refine u_aloadnN (k := 10) rfl rfl ?_
      refine a_nullN (k := 11) rfl ?_
      refine a_ldc (k := 17) rfl nRX10_145 ⟨by decide, by decide⟩ ?_
      refine a_ireturn (k := 18) rfl rfl ?_
      exact ⟨rfl, hC, FC.rf⟩
    · show Sp mX10_tells _ h _
      refine Sp.of rfl kX10_tells (Nat.le_of_ble_eq_true rfl) ?_
      refine u_aloadn (k := 0) rfl rfl ?_
      refine a_getr (k := 1) rfl fRX10_26 rfl rfl rfl ?_
      refine u_iloadn (k := 2) rfl rfl ?_
      refine r_virt1 (M' := mX9_ropeOf) (k := 3) rfl lRX10_141 oX9_ropeOf vX9_ropeOf ⟨Nat.le_of_ble_eq_true rfl, Nat.le_of_ble_eq_true rfl⟩ rfl rfl (Nat.le_of_ble_eq_true rfl) (x_ropeNo 1 k h (hC.no hk)) ?_
      refine a_astorenN (k := 4) (lv' := [(3, _), (0, _), (1, _), (2, _)]) rfl (Nat.le_of_ble_eq_true rfl) rfl ?_
      refine u_aloadn (k := 5) rfl rfl ?_
      refine a_getr (k := 6) rfl fRX10_26 rfl rfl rfl ?_
      refine u_iloadn (k := 7) rfl rfl ?_
      refine r_virt1 (M' := mX9_ropeOf) (k := 8) rfl lRX10_141 oX9_ropeOf vX9_ropeOf ⟨Nat.le_of_ble_eq_true rfl, Nat.le_of_ble_eq_true rfl⟩ rfl rfl (Nat.le_of_ble_eq_true rfl) (x_ropeOf 1 b h (hC.yes hq) (by have := hW.now.1; omega)) ?_
      refine a_astore (k := 9) (lv' := [(4, _), (3, _), (0, _), (1, _), (2, _)]) rfl (Nat.le_of_ble_eq_true rfl) rfl ?_
      refine u_aloadnN (k := 10) rfl rfl ?_
      refine a_nullN (k := 11) rfl ?_
      refine a_ldc (k := 17) rfl nRX10_145 ⟨by decide, by decide⟩ ?_
      refine a_ireturn (k := 18) rfl rfl ?_
      exact ⟨rfl, hC, FC.rf⟩
  · rcases kcase q σ.now.1 with hq | ⟨b, rfl, hq⟩
    · rw [show o_tells σ (a : Int) q = (UNK, σ) from if_neg (by omega)]
      refine Sp.of rfl kX10_tells (Nat.le_of_ble_eq_true rfl) ?_
      refine u_aloadn (k := 0) rfl rfl ?_
      refine a_getr (k := 1) rfl fRX10_26 rfl rfl rfl ?_
      refine u_iloadn (k := 2) rfl rfl ?_
      refine r_virt1 (M' := mX9_ropeOf) (k := 3) rfl lRX10_141 oX9_ropeOf vX9_ropeOf ⟨Nat.le_of_ble_eq_true rfl, Nat.le_of_ble_eq_true rfl⟩ rfl rfl (Nat.le_of_ble_eq_true rfl) (x_ropeOf 1 a h (hC.yes hk) (by have := hW.now.1; omega)) ?_
      refine a_astoren (k := 4) (lv' := [(3, _), (0, _), (1, _), (2, _)]) rfl (Nat.le_of_ble_eq_true rfl) rfl ?_
      refine u_aloadn (k := 5) rfl rfl ?_
      refine a_getr (k := 6) rfl fRX10_26 rfl rfl rfl ?_
      refine u_iloadn (k := 7) rfl rfl ?_
      refine r_virt1 (M' := mX9_ropeOf) (k := 8) rfl lRX10_141 oX9_ropeOf vX9_ropeOf ⟨Nat.le_of_ble_eq_true rfl, Nat.le_of_ble_eq_true rfl⟩ rfl rfl (Nat.le_of_ble_eq_true rfl) (x_ropeNo 1 q h (hC.no hq)) ?_
      refine a_astoreNl (k := 9) (lv' := [(4, _), (3, _), (0, _), (1, _), (2, _)]) rfl (Nat.le_of_ble_eq_true rfl) rfl ?_
      refine u_aloadn (k := 10) rfl rfl ?_
      refine a_nullR (k := 11) rfl ?_
      refine u_aloadN (k := 12) rfl rfl ?_
      refine a_nullN (k := 13) rfl ?_
      refine a_ldc (k := 17) rfl nRX10_145 ⟨by decide, by decide⟩ ?_
      refine a_ireturn (k := 18) rfl rfl ?_
      exact ⟨rfl, hC, FC.rf⟩
    · by_cases hab : a = b
      · rw [show o_tells σ (a : Int) (b : Int) = (UNK, σ) from if_neg (by omega)]
        refine Sp.of rfl kX10_tells (Nat.le_of_ble_eq_true rfl) ?_
        refine u_aloadn (k := 0) rfl rfl ?_
        refine a_getr (k := 1) rfl fRX10_26 rfl rfl rfl ?_
        refine u_iloadn (k := 2) rfl rfl ?_
        refine r_virt1 (M' := mX9_ropeOf) (k := 3) rfl lRX10_141 oX9_ropeOf vX9_ropeOf ⟨Nat.le_of_ble_eq_true rfl, Nat.le_of_ble_eq_true rfl⟩ rfl rfl (Nat.le_of_ble_eq_true rfl) (x_ropeOf 1 a h (hC.yes hk) (by have := hW.now.1; omega)) ?_
        refine a_astoren (k := 4) (lv' := [(3, _), (0, _), (1, _), (2, _)]) rfl (Nat.le_of_ble_eq_true rfl) rfl ?_
        refine u_aloadn (k := 5) rfl rfl ?_
        refine a_getr (k := 6) rfl fRX10_26 rfl rfl rfl ?_
        refine u_iloadn (k := 7) rfl rfl ?_
        refine r_virt1 (M' := mX9_ropeOf) (k := 8) rfl lRX10_141 oX9_ropeOf vX9_ropeOf ⟨Nat.le_of_ble_eq_true rfl, Nat.le_of_ble_eq_true rfl⟩ rfl rfl (Nat.le_of_ble_eq_true rfl) (x_ropeOf 1 b h (hC.yes hq) (by have := hW.now.1; omega)) ?_
        refine a_astore (k := 9) (lv' := [(4, _), (3, _), (0, _), (1, _), (2, _)]) rfl (Nat.le_of_ble_eq_true rfl) rfl ?_
        refine u_aloadn (k := 10) rfl rfl ?_
        refine a_nullR (k := 11) rfl ?_
        refine u_aload (k := 12) rfl rfl ?_
        refine a_nullR (k := 13) rfl ?_
        refine u_iloadn (k := 14) rfl rfl ?_
        refine u_iloadn (k := 15) rfl rfl ?_
        refine a_icmp_ne (k := 16) rfl (fun c_30 => ?_) (fun c_30 => ?_)
        · omega
        · refine a_ldc (k := 17) rfl nRX10_145 ⟨by decide, by decide⟩ ?_
          refine a_ireturn (k := 18) rfl rfl ?_
          exact ⟨rfl, hC, FC.rf⟩
      · have hWa := hW.now.2.2 a hk
        have hWb := hW.now.2.2 b hq
        rw [show o_tells σ (a : Int) (b : Int) = _ from two_yes hk hq hab]
        have T89 : ∀ (g : HH) (v : Int), v = (if r_ways (σ.now.2.2 a) 3 = r_ways (σ.now.2.2 b) 3 then 0 else 1) + (if r_ways (σ.now.2.2 a) 5 = r_ways (σ.now.2.2 b) 5 then 0 else 2) → CR σ g → FC h g → AW mX10_tells (OP ((if r_ways (σ.now.2.2 a) 3 = r_ways (σ.now.2.2 b) 3 then 0 else 1) + (if r_ways (σ.now.2.2 a) 5 = r_ways (σ.now.2.2 b) 5 then 0 else 2) + (if r_fewu (σ.now.2.2 a) = r_fewu (σ.now.2.2 b) then 0 else 4), σ) h) 89 [(5, vi v), (4, vr 5 (5 * 1 + b)), (3, vr 5 (5 * 1 + a)), (0, vr 0 0), (1, vi a), (2, vi b)] [] g := by
          intro g v hv hC hfc
          have hv1 : 0 ≤ v ∧ v ≤ 3 := by rw [hv]; split <;> split <;> omega
          refine u_aloadn (k := 45) rfl rfl ?_
          refine u_aloadn (k := 46) rfl rfl ?_
          refine ui_virt1 (M' := mX10_fewestUnsalted) (k := 47) rfl lRX10_262 oX10_fewestUnsalted vX10_fewestUnsalted ⟨Nat.le_of_ble_eq_true rfl, Nat.le_of_ble_eq_true rfl⟩ rfl rfl (Nat.le_of_ble_eq_true rfl) (x_fewu hWa (hC.RH hk)) (by intro r g hp; exact ⟨_, hp.1⟩) (fun z g1 hg1 => ?_)
          obtain ⟨hr, hF1⟩ := hg1; cases hr
          refine u_aloadn (k := 48) rfl rfl ?_
          refine u_aload (k := 49) rfl rfl ?_
          refine ui_virt1 (M' := mX10_fewestUnsalted) (k := 50) rfl lRX10_262 oX10_fewestUnsalted vX10_fewestUnsalted ⟨Nat.le_of_ble_eq_true rfl, Nat.le_of_ble_eq_true rfl⟩ rfl rfl (Nat.le_of_ble_eq_true rfl) (x_fewu hWb ((hC.RH hq).tml hF1)) (by intro r g hp; exact ⟨_, hp.1⟩) (fun z g2 hg2 => ?_)
          obtain ⟨hr, hF2⟩ := hg2; cases hr
          refine a_icmp_eq (k := 51) rfl (fun c_100 => ?_) (fun c_100 => ?_)
          · refine u_iload (k := 53) rfl rfl ?_
            refine a_ireturn (k := 54) rfl rfl ?_
            have hC2 := (hC.tml hW hF1).tml hW hF2
            have hfc2 := (hfc.tr (FC_tml hF1)).tr (FC_tml hF2)
            first
              | (refine ⟨?_, hC2, hfc2⟩; dsimp only; rw [if_pos (show r_fewu (σ.now.2.2 a) = r_fewu (σ.now.2.2 b) by omega), ← hv]; congr 2; omega)
              | (refine ⟨?_, hC2, hfc2⟩; dsimp only; rw [if_neg (show ¬ r_fewu (σ.now.2.2 a) = r_fewu (σ.now.2.2 b) by omega), ← hv])
          · refine u_iinc (k := 52) (lv' := [(5, _), (4, _), (3, _), (0, _), (1, _), (2, _)]) rfl rfl (Nat.le_of_ble_eq_true rfl) (by omega) rfl ?_
            refine u_iload (k := 53) rfl rfl ?_
            refine a_ireturn (k := 54) rfl rfl ?_
            have hC2 := (hC.tml hW hF1).tml hW hF2
            have hfc2 := (hfc.tr (FC_tml hF1)).tr (FC_tml hF2)
            first
              | (refine ⟨?_, hC2, hfc2⟩; dsimp only; rw [if_pos (show r_fewu (σ.now.2.2 a) = r_fewu (σ.now.2.2 b) by omega), ← hv]; congr 2; omega)
              | (refine ⟨?_, hC2, hfc2⟩; dsimp only; rw [if_neg (show ¬ r_fewu (σ.now.2.2 a) = r_fewu (σ.now.2.2 b) by omega), ← hv])
        have T64 : ∀ (g : HH) (v : Int), v = (if r_ways (σ.now.2.2 a) 3 = r_ways (σ.now.2.2 b) 3 then 0 else 1) → CR σ g → FC h g → AW mX10_tells (OP ((if r_ways (σ.now.2.2 a) 3 = r_ways (σ.now.2.2 b) 3 then 0 else 1) + (if r_ways (σ.now.2.2 a) 5 = r_ways (σ.now.2.2 b) 5 then 0 else 2) + (if r_fewu (σ.now.2.2 a) = r_fewu (σ.now.2.2 b) then 0 else 4), σ) h) 64 [(5, vi v), (4, vr 5 (5 * 1 + b)), (3, vr 5 (5 * 1 + a)), (0, vr 0 0), (1, vi a), (2, vi b)] [] g := by
          intro g v hv hC hfc
          have hv1 : 0 ≤ v ∧ v ≤ 1 := by rw [hv]; split <;> omega
          refine u_aloadn (k := 33) rfl rfl ?_
          refine a_getr (k := 34) rfl fRX10_69 rfl rfl rfl ?_
          refine u_aloadn (k := 35) rfl rfl ?_
          refine a_iconst (k := 36) rfl ?_
          refine ui_virt2 (M' := mX1_waysBy) (k := 37) rfl lRX10_154 oX1_waysBy vX1_waysBy ⟨Nat.le_of_ble_eq_true rfl, Nat.le_of_ble_eq_true rfl⟩ rfl rfl (Nat.le_of_ble_eq_true rfl) (y_ways hWa (hC.RH hk) 5 (by omega) (by omega)) (by intro r g hp; exact ⟨_, hp.1⟩) (fun z g1 hg1 => ?_)
          obtain ⟨hr, hF1⟩ := hg1; cases hr
          refine u_aloadn (k := 38) rfl rfl ?_
          refine a_getr (k := 39) rfl fRX10_69 rfl rfl rfl ?_
          refine u_aload (k := 40) rfl rfl ?_
          refine a_iconst (k := 41) rfl ?_
          refine ui_virt2 (M' := mX1_waysBy) (k := 42) rfl lRX10_154 oX1_waysBy vX1_waysBy ⟨Nat.le_of_ble_eq_true rfl, Nat.le_of_ble_eq_true rfl⟩ rfl rfl (Nat.le_of_ble_eq_true rfl) (y_ways hWb ((hC.RH hq).tcl hF1) 5 (by omega) (by omega)) (by intro r g hp; exact ⟨_, hp.1⟩) (fun z g2 hg2 => ?_)
          obtain ⟨hr, hF2⟩ := hg2; cases hr
          refine a_icmp_eq (k := 43) rfl (fun c_83 => ?_) (fun c_83 => ?_)
          · have hC2 := (hC.tcl hW hF1).tcl hW hF2
            have hfc2 := (hfc.tr (FC_tcl hF1)).tr (FC_tcl hF2)
            first
              | (refine T89 g2 _ ?_ hC2 hfc2; rw [← hv, if_pos (show r_ways (σ.now.2.2 a) 5 = r_ways (σ.now.2.2 b) 5 by omega)]; omega)
              | (refine T89 g2 _ ?_ hC2 hfc2; rw [← hv, if_neg (show ¬ r_ways (σ.now.2.2 a) 5 = r_ways (σ.now.2.2 b) 5 by omega)])
          · refine u_iinc (k := 44) (lv' := [(5, _), (4, _), (3, _), (0, _), (1, _), (2, _)]) rfl rfl (Nat.le_of_ble_eq_true rfl) (by omega) rfl ?_
            have hC2 := (hC.tcl hW hF1).tcl hW hF2
            have hfc2 := (hfc.tr (FC_tcl hF1)).tr (FC_tcl hF2)
            first
              | (refine T89 g2 _ ?_ hC2 hfc2; rw [← hv, if_pos (show r_ways (σ.now.2.2 a) 5 = r_ways (σ.now.2.2 b) 5 by omega)]; omega)
              | (refine T89 g2 _ ?_ hC2 hfc2; rw [← hv, if_neg (show ¬ r_ways (σ.now.2.2 a) 5 = r_ways (σ.now.2.2 b) 5 by omega)])
        refine Sp.of rfl kX10_tells (Nat.le_of_ble_eq_true rfl) ?_
        refine u_aloadn (k := 0) rfl rfl ?_
        refine a_getr (k := 1) rfl fRX10_26 rfl rfl rfl ?_
        refine u_iloadn (k := 2) rfl rfl ?_
        refine r_virt1 (M' := mX9_ropeOf) (k := 3) rfl lRX10_141 oX9_ropeOf vX9_ropeOf ⟨Nat.le_of_ble_eq_true rfl, Nat.le_of_ble_eq_true rfl⟩ rfl rfl (Nat.le_of_ble_eq_true rfl) (x_ropeOf 1 a h (hC.yes hk) (by have := hW.now.1; omega)) ?_
        refine a_astoren (k := 4) (lv' := [(3, _), (0, _), (1, _), (2, _)]) rfl (Nat.le_of_ble_eq_true rfl) rfl ?_
        refine u_aloadn (k := 5) rfl rfl ?_
        refine a_getr (k := 6) rfl fRX10_26 rfl rfl rfl ?_
        refine u_iloadn (k := 7) rfl rfl ?_
        refine r_virt1 (M' := mX9_ropeOf) (k := 8) rfl lRX10_141 oX9_ropeOf vX9_ropeOf ⟨Nat.le_of_ble_eq_true rfl, Nat.le_of_ble_eq_true rfl⟩ rfl rfl (Nat.le_of_ble_eq_true rfl) (x_ropeOf 1 b h (hC.yes hq) (by have := hW.now.1; omega)) ?_
        refine a_astore (k := 9) (lv' := [(4, _), (3, _), (0, _), (1, _), (2, _)]) rfl (Nat.le_of_ble_eq_true rfl) rfl ?_
        refine u_aloadn (k := 10) rfl rfl ?_
        refine a_nullR (k := 11) rfl ?_
        refine u_aload (k := 12) rfl rfl ?_
        refine a_nullR (k := 13) rfl ?_
        refine u_iloadn (k := 14) rfl rfl ?_
        refine u_iloadn (k := 15) rfl rfl ?_
        refine a_icmp_ne (k := 16) rfl (fun c_30 => ?_) (fun c_30 => ?_)
        · refine a_iconst (k := 19) rfl ?_
          refine a_istore (k := 20) (lv' := [(5, _), (4, _), (3, _), (0, _), (1, _), (2, _)]) rfl (Nat.le_of_ble_eq_true rfl) rfl ?_
          refine u_aloadn (k := 21) rfl rfl ?_
          refine a_getr (k := 22) rfl fRX10_69 rfl rfl rfl ?_
          refine u_aloadn (k := 23) rfl rfl ?_
          refine a_iconst (k := 24) rfl ?_
          refine ui_virt2 (M' := mX1_waysBy) (k := 25) rfl lRX10_154 oX1_waysBy vX1_waysBy ⟨Nat.le_of_ble_eq_true rfl, Nat.le_of_ble_eq_true rfl⟩ rfl rfl (Nat.le_of_ble_eq_true rfl) (y_ways hWa (hC.RH hk) 3 (by omega) (by omega)) (by intro r g hp; exact ⟨_, hp.1⟩) (fun z g1 hg1 => ?_)
          obtain ⟨hr, hF1⟩ := hg1; cases hr
          refine u_aloadn (k := 26) rfl rfl ?_
          refine a_getr (k := 27) rfl fRX10_69 rfl rfl rfl ?_
          refine u_aload (k := 28) rfl rfl ?_
          refine a_iconst (k := 29) rfl ?_
          refine ui_virt2 (M' := mX1_waysBy) (k := 30) rfl lRX10_154 oX1_waysBy vX1_waysBy ⟨Nat.le_of_ble_eq_true rfl, Nat.le_of_ble_eq_true rfl⟩ rfl rfl (Nat.le_of_ble_eq_true rfl) (y_ways hWb ((hC.RH hq).tcl hF1) 3 (by omega) (by omega)) (by intro r g hp; exact ⟨_, hp.1⟩) (fun z g2 hg2 => ?_)
          obtain ⟨hr, hF2⟩ := hg2; cases hr
          refine a_icmp_eq (k := 31) rfl (fun c_58 => ?_) (fun c_58 => ?_)
          · have hC2 := (hC.tcl hW hF1).tcl hW hF2
            have hfc2 := (FC_tcl hF1).tr (FC_tcl hF2)
            first
              | (refine T64 g2 _ ?_ hC2 hfc2; rw [if_pos (show r_ways (σ.now.2.2 a) 3 = r_ways (σ.now.2.2 b) 3 by omega)])
              | (refine T64 g2 _ ?_ hC2 hfc2; rw [if_neg (show ¬ r_ways (σ.now.2.2 a) 3 = r_ways (σ.now.2.2 b) 3 by omega)]; rfl)
          · refine u_iinc (k := 32) (lv' := [(5, _), (4, _), (3, _), (0, _), (1, _), (2, _)]) rfl rfl (Nat.le_of_ble_eq_true rfl) (by omega) rfl ?_
            have hC2 := (hC.tcl hW hF1).tcl hW hF2
            have hfc2 := (FC_tcl hF1).tr (FC_tcl hF2)
            first
              | (refine T64 g2 _ ?_ hC2 hfc2; rw [if_pos (show r_ways (σ.now.2.2 a) 3 = r_ways (σ.now.2.2 b) 3 by omega)])
              | (refine T64 g2 _ ?_ hC2 hfc2; rw [if_neg (show ¬ r_ways (σ.now.2.2 a) 3 = r_ways (σ.now.2.2 b) 3 by omega)]; rfl)
        · omega
/-! none is eaten -/
def whl (q : Nat) : Nat → Nat
  | 0 => 1000000000
  | n + 1 => whl q n * q / 100
theorem whl_le {q : Nat} (hq : q ≤ 100) : ∀ n, whl q n ≤ 1000000000
  | 0 => Nat.le_refl _
  | n + 1 => by
    have h := whl_le hq n
    have : whl q n * q ≤ whl q n * 100 := Nat.mul_le_mul_left _ hq
    show whl q n * q / 100 ≤ 1000000000
    omega
def o_whole (σ : AS) (n q : Int) : Int × AS := if (0 ≤ n ∧ n ≤ 60) ∧ (0 ≤ q ∧ q ≤ 100) then ((whl q.toNat n.toNat : Int), σ) else (OUT, σ)
theorem c_whole {σ : AS} {h : HH} (hC : CR σ h) (n q : Int) : Sp mX10_whole [vr 0 0, vi n, vi q] h (OP (o_whole σ n q) h) := by
  by_cases hn : (0 ≤ n ∧ n ≤ 60) ∧ (0 ≤ q ∧ q ≤ 100)
  · rw [show o_whole σ n q = _ from if_pos hn]
    obtain ⟨a, rfl⟩ : ∃ a : Nat, n = (a : Int) := ⟨n.toNat, by omega⟩
    obtain ⟨b, rfl⟩ : ∃ b : Nat, q = (b : Int) := ⟨q.toNat, by omega⟩
    rw [Int.toNat_natCast, Int.toNat_natCast]
    have hb : b ≤ 100 := by omega
    refine Sp.of rfl kX10_whole (Nat.le_of_ble_eq_true rfl) ?_
    have Lp : ∀ (d i : Nat), i + d = a → AW mX10_whole (OP ((whl b a : Int), σ) h) 30 [(5, vi i), (3, vl (whl b i : Int)), (0, vr 0 0), (1, vi a), (2, vi b)] [] h := by
      intro d
      induction d with
      | zero =>
        intro i hi
        have h1 := whl_le hb i
        refine u_iload (k := 16) rfl rfl ?_
        refine u_iloadn (k := 17) rfl rfl ?_
        refine a_icmp_ge (k := 18) rfl (fun c_33 => ?_) (fun c_33 => ?_)
        · refine u_lloadn (k := 28) rfl rfl ?_
          refine a_l2i (k := 29) rfl ?_
          rw [w3_id (by omega) (by omega)]
          refine a_ireturn (k := 30) rfl rfl ?_
          exact ⟨by rw [show i = a by omega], hC, FC.rf⟩
        · omega
      | succ d ih =>
        intro i hi
        have h1 := whl_le hb i
        have h2 : whl b i * b ≤ whl b i * 100 := Nat.mul_le_mul_left _ hb
        have e1 : ((whl b i : Int) * (b : Int)) = ((whl b i * b : Nat) : Int) := by rw [Int.natCast_mul]
        have e2 : (((whl b i * b : Nat) : Int).tdiv 100) = ((whl b (i + 1) : Nat) : Int) := by
          rw [Int.tdiv_eq_ediv_of_nonneg (by omega)]
          show _ = ((whl b i * b / 100 : Nat) : Int)
          omega
        have h3 := whl_le hb (i + 1)
        refine u_iload (k := 16) rfl rfl ?_
        refine u_iloadn (k := 17) rfl rfl ?_
        refine a_icmp_ge (k := 18) rfl (fun c_33 => ?_) (fun c_33 => ?_)
        · omega
        · refine u_lloadn (k := 19) rfl rfl ?_
          refine u_iloadn (k := 20) rfl rfl ?_
          refine a_i2l (k := 21) rfl ?_
          refine a_lmul (k := 22) rfl ?_
          rw [lm, e1, w6_id (by omega) (by omega)]
          refine a_ldc2 (k := 23) rfl nRX10_273 ⟨by decide, by decide⟩ ?_
          refine a_ldiv (k := 24) rfl (by decide) ?_
          rw [lq, e2, w6_id (by omega) (by omega)]
          refine a_lstoren (k := 25) (lv' := [(3, _), (5, _), (0, _), (1, _), (2, _)]) rfl (Nat.le_of_ble_eq_true rfl) rfl ?_
          refine u_iinc (k := 26) (lv' := [(5, _), (3, _), (0, _), (1, _), (2, _)]) rfl rfl (Nat.le_of_ble_eq_true rfl) (by omega) rfl ?_
          refine a_goto (k := 27) rfl ?_
          exact ih (i + 1) (by omega)
    refine u_iloadn (k := 0) rfl rfl ?_
    refine a_if_lt (k := 1) rfl (fun c_1 => ?_) (fun c_1 => ?_)
    · omega
    · refine u_iloadn (k := 2) rfl rfl ?_
      refine a_bipush (k := 3) rfl ?_
      refine a_icmp_gt (k := 4) rfl (fun c_7 => ?_) (fun c_7 => ?_)
      · omega
      · refine u_iloadn (k := 5) rfl rfl ?_
        refine a_if_lt (k := 6) rfl (fun c_11 => ?_) (fun c_11 => ?_)
        · omega
        · refine u_iloadn (k := 7) rfl rfl ?_
          refine a_bipush (k := 8) rfl ?_
          refine a_icmp_le (k := 9) rfl (fun c_17 => ?_) (fun c_17 => ?_)
          · refine a_ldc2 (k := 12) rfl nRX10_271 ⟨by decide, by decide⟩ ?_
            refine a_lstoren (k := 13) (lv' := [(3, _), (0, _), (1, _), (2, _)]) rfl (Nat.le_of_ble_eq_true rfl) rfl ?_
            refine a_iconst (k := 14) rfl ?_
            refine a_istore (k := 15) (lv' := [(5, _), (3, _), (0, _), (1, _), (2, _)]) rfl (Nat.le_of_ble_eq_true rfl) rfl ?_
            exact Lp a 0 (by omega)
          · omega
  · rw [show o_whole σ n q = _ from if_neg hn]
    refine Sp.of rfl kX10_whole (Nat.le_of_ble_eq_true rfl) ?_
    refine u_iloadn (k := 0) rfl rfl ?_
    refine a_if_lt (k := 1) rfl (fun c_1 => ?_) (fun c_1 => ?_)
    · refine a_ldc (k := 10) rfl nRX10_84 ⟨by decide, by decide⟩ ?_
      refine a_ireturn (k := 11) rfl rfl ?_
      exact ⟨rfl, hC, FC.rf⟩
    · refine u_iloadn (k := 2) rfl rfl ?_
      refine a_bipush (k := 3) rfl ?_
      refine a_icmp_gt (k := 4) rfl (fun c_7 => ?_) (fun c_7 => ?_)
      · refine a_ldc (k := 10) rfl nRX10_84 ⟨by decide, by decide⟩ ?_
        refine a_ireturn (k := 11) rfl rfl ?_
        exact ⟨rfl, hC, FC.rf⟩
      · refine u_iloadn (k := 5) rfl rfl ?_
        refine a_if_lt (k := 6) rfl (fun c_11 => ?_) (fun c_11 => ?_)
        · refine a_ldc (k := 10) rfl nRX10_84 ⟨by decide, by decide⟩ ?_
          refine a_ireturn (k := 11) rfl rfl ?_
          exact ⟨rfl, hC, FC.rf⟩
        · refine u_iloadn (k := 7) rfl rfl ?_
          refine a_bipush (k := 8) rfl ?_
          refine a_icmp_le (k := 9) rfl (fun c_17 => ?_) (fun c_17 => ?_)
          · omega
          · refine a_ldc (k := 10) rfl nRX10_84 ⟨by decide, by decide⟩ ?_
            refine a_ireturn (k := 11) rfl rfl ?_
            exact ⟨rfl, hC, FC.rf⟩
/-! the tray is laid -/
def ptray (p : PS) : Ty := (p.2.2.2.2.1.1, p.2.2.2.1, fun k => ((p.2.2.2.2.1.2 k).1 / 2, 0, rn (p.2.2.2.2.1.2 k).2))
def o_tray (σ : AS) : Int × AS := match rgo σ.tx σ.L with
  | .inr e => (-10 - (e.1 : Int), mkA σ.now σ.laid 0 σ.tx (e.2 : Int) σ.drawn σ.cnt σ.hist σ.ents σ.book σ.kept σ.img σ.iseed)
  | .inl p => if ed p then ((p.2.2.2.2.1.1 : Int), mkA (ptray p) (decide (p.1 = 4)) 0 σ.tx (-1) σ.drawn 0 σ.hist 0 σ.book (fun _ => false) σ.img σ.iseed) else (-11, mkA σ.now σ.laid 0 σ.tx (σ.L : Int) σ.drawn σ.cnt σ.hist σ.ents σ.book σ.kept σ.img σ.iseed)
theorem tray_good {σ : AS} {p : PS} (h : rgo σ.tx σ.L = .inl p) (he : ed p = true) : o_tray σ = ((p.2.2.2.2.1.1 : Int), mkA (ptray p) (decide (p.1 = 4)) 0 σ.tx (-1) σ.drawn 0 σ.hist 0 σ.book (fun _ => false) σ.img σ.iseed) := by
  unfold o_tray
  rw [h]
  exact if_pos he
theorem c_tray {B : Nat} {σ : AS} {h : HH} (hW : WA B σ) (hC : CR σ h) : Sp mX10_tray [vr 0 0] h (OP (o_tray σ) h) := by
  have hL2 := hW.L
  have h01 : h 7 0 11 = 0 ∨ h 7 0 11 = 1 := by rw [hC.htr]; cases σ.laid <;> simp [b01]
  have fr : ∀ g : HH, Fr trd krt h g → (∀ t i k, rel t i k → ¬ (t = 7 ∧ k = 11) → g t i k = h t i k) ∧ FC h g := fun g hF => ⟨fun t i k hr hn => hF t i k (by simp [trd]; unfold rel at hr; omega) (by simp [krt]; unfold rel at hr; omega), FC.rf.fr hF (by simp [trd]) (by simp [krt])⟩
  have bad : ∀ (g : HH) (v : Int) (e : Nat), Fr trd krt h g → g 7 0 10 = v → g 7 0 11 = h 7 0 11 → 0 < e → e ≤ 5 → o_tray σ = (-10 - (e : Int), mkA σ.now σ.laid 0 σ.tx v σ.drawn σ.cnt σ.hist σ.ents σ.book σ.kept σ.img σ.iseed) → AW mX10_tray (OP (o_tray σ) h) 7 [(0, vr 0 0)] [vi e] g := by
    intro g v e hF h10 h11 he1 he2 ho
    obtain ⟨f1, f2⟩ := fr g hF
    have kz : ∀ t i k, rel t i k → ¬ (t = 7) → ¬ (t = 0 ∧ k = 12) → put (put g 7 0 4 0) 0 0 12 v t i k = h t i k := fun t i k hr h7 h0 => by
      rw [put_ne (by omega), put_ne (by omega)]
      exact f1 t i k hr (by omega)
    rw [ho]
    refine a_istoren (k := 3) (lv' := [(1, _), (0, _)]) rfl (Nat.le_of_ble_eq_true rfl) rfl ?_
    refine u_aloadn (k := 4) rfl rfl ?_
    refine a_getr (k := 5) rfl fRX10_20 rfl rfl rfl ?_
    refine a_iconst (k := 6) rfl ?_
    refine a_puti (k := 7) rfl pRX10_89 rfl rfl ?_
    refine u_aloadn (k := 8) rfl rfl ?_
    refine u_aloadn (k := 9) rfl rfl ?_
    refine a_getr (k := 10) rfl fRX10_20 rfl rfl rfl ?_
    refine a_geti (k := 11) rfl fRX10_97 rfl rfl ?_
    rw [put_ne (by simp), h10]
    refine a_puti (k := 12) rfl pRX10_80 rfl rfl ?_
    refine u_iloadn (k := 13) rfl rfl ?_
    refine a_if_eq (k := 14) rfl (fun c_28 => ?_) (fun c_28 => ?_)
    · omega
    · refine a_bipush (k := 15) rfl ?_
      refine u_iloadn (k := 16) rfl rfl ?_
      refine u_isub (k := 17) rfl (by omega) ?_
      refine a_ireturn (k := 18) rfl rfl ?_
      refine ⟨rfl, hC.flds hW (fun t i k ht => ?_) (kz 10 0 1 (by simp [rel]) (by omega) (by omega)) rfl rfl (Nat.le_refl _) rfl (fun i hi hk => ⟨hk, by rw [kz 13 0 i (by simp [rel]) (by omega) (by omega)]; exact (hC.img i hi hk).2⟩) (by rw [kz 0 0 10 (by simp [rel]) (by omega) (by omega)]; exact hC.laid) (by rw [put_ne (by omega), put_ne (by omega), h11]; exact hC.htr) (by rw [put_ne (by omega), put_eq]; rfl) (fun i hi => absurd hi (Nat.not_lt_zero i)) (by rw [put_eq]; rfl) (by rw [kz 0 0 13 (by simp [rel]) (by omega) (by omega)]; exact hC.drawn) (by rw [kz 10 0 2 (by simp [rel]) (by omega) (by omega)]; exact hC.cnt) (by rw [kz 14 0 2 (by simp [rel]) (by omega) (by omega)]; exact hC.ents) (fun i hi => by rw [kz 15 0 i (by simp [rel]) (by omega) (by omega), kz 16 0 i (by simp [rel]) (by omega) (by omega)]; exact hC.book i hi) (by rw [kz 0 0 11 (by simp [rel]) (by omega) (by omega)]; exact hC.kept), (f2.pt (by omega)).pt (by omega)⟩
      exact kz t i k (by unfold rel; omega) (by omega) (by omega)
  have good : ∀ (g : HH) (p : PS), rgo σ.tx σ.L = .inl p → ed p = true → XR p g → g 7 0 10 = -1 → g 7 0 11 = (if p.1 = 4 then 1 else 0) → Fr trd krt h g → AW mX10_tray (OP (o_tray σ) h) 7 [(0, vr 0 0)] [vi 0] g := by
    intro g p hgo he hX h10 h11 hF
    obtain ⟨f1, f2⟩ := fr g hF
    obtain ⟨x1, x2, x3, x4, x5, x6, x7, x8, x9, x10, x11⟩ := hX
    rw [tray_good hgo he]
    have eh : (if p.1 = 4 then (1 : Int) else 0) = b01 (decide (p.1 = 4)) := by unfold b01; by_cases h4 : p.1 = 4 <;> simp [h4]
    refine a_istoren (k := 3) (lv' := [(1, _), (0, _)]) rfl (Nat.le_of_ble_eq_true rfl) rfl ?_
    refine u_aloadn (k := 4) rfl rfl ?_
    refine a_getr (k := 5) rfl fRX10_20 rfl rfl rfl ?_
    refine a_iconst (k := 6) rfl ?_
    refine a_puti (k := 7) rfl pRX10_89 rfl rfl ?_
    refine u_aloadn (k := 8) rfl rfl ?_
    refine u_aloadn (k := 9) rfl rfl ?_
    refine a_getr (k := 10) rfl fRX10_20 rfl rfl rfl ?_
    refine a_geti (k := 11) rfl fRX10_97 rfl rfl ?_
    rw [put_ne (by simp), h10]
    refine a_puti (k := 12) rfl pRX10_80 rfl rfl ?_
    refine u_iloadn (k := 13) rfl rfl ?_
    refine a_if_eq (k := 14) rfl (fun c_28 => ?_) (fun c_28 => ?_)
    · refine u_aloadn (k := 19) rfl rfl ?_
      refine a_getr (k := 20) rfl fRX10_26 rfl rfl rfl ?_
      refine u_aloadn (k := 21) rfl rfl ?_
      refine a_getr (k := 22) rfl fRX10_20 rfl rfl rfl ?_
      refine a_getr (k := 23) rfl fRX10_98 rfl rfl rfl ?_
      refine uv_virt1 (M' := mX9_copyFrom) (k := 24) rfl lRX10_101 oX9_copyFrom vX9_copyFrom ⟨Nat.le_of_ble_eq_true rfl, Nat.le_of_ble_eq_true rfl⟩ rfl rfl (Nat.le_of_ble_eq_true rfl) (x_tcopy 1 0 _ (by omega)) (by intro r g hp; exact hp.1) (fun g2 hg2 => ?_)
      obtain ⟨-, hT, hF2⟩ := hg2; have kz : ∀ t i k, t ≠ 3 → t ≠ 5 → t ≠ 6 → g2 t i k = put (put g 7 0 4 0) 0 0 12 (-1) t i k := fun t i k a b c => hF2 t i k (by rw [mem_tcs]; omega) (by simp)
      refine u_aloadn (k := 25) rfl rfl ?_
      refine u_aloadn (k := 26) rfl rfl ?_
      refine a_getr (k := 27) rfl fRX10_20 rfl rfl rfl ?_
      refine a_geti (k := 28) rfl fRX10_104 rfl rfl ?_
      rw [kz 7 0 11 (by omega) (by omega) (by omega), put_ne (by simp), put_ne (by simp), h11, eh]
      refine a_putz (k := 29) rfl pRX10_108 rfl rfl (by cases decide (p.1 = 4) <;> decide) ?_
      refine u_aloadn (k := 30) rfl rfl ?_
      refine a_getr (k := 31) rfl fRX10_48 rfl rfl rfl ?_
      refine a_iconst (k := 32) rfl ?_
      refine a_puti (k := 33) rfl pRX10_111 rfl rfl ?_
      refine u_aloadn (k := 34) rfl rfl ?_
      refine a_iconst (k := 35) rfl ?_
      refine a_puti (k := 36) rfl pRX10_114 rfl rfl ?_
      refine u_aloadn (k := 37) rfl rfl ?_
      refine a_getr (k := 38) rfl fRX10_33 rfl rfl rfl ?_
      refine v_virt0 (M' := mX2_forgetAll) (k := 39) rfl lRX10_117 oX2_forgetAll vX2_forgetAll ⟨Nat.le_of_ble_eq_true rfl, Nat.le_of_ble_eq_true rfl⟩ rfl rfl (Nat.le_of_ble_eq_true rfl) (x_forget _) ?_
      refine u_aloadn (k := 40) rfl rfl ?_
      refine a_getr (k := 41) rfl fRX10_26 rfl rfl rfl ?_
      refine a_geti (k := 42) rfl fRX10_120 rfl rfl ?_
      rw [put_ne (by simp), put_ne (by simp), put_ne (by simp), put_ne (by simp), hT.1, put_ne (by simp), put_ne (by simp), x8]
      refine a_ireturn (k := 43) rfl rfl ?_
      refine ⟨rfl, ⟨⟨?_, ?_, fun k hk => ?_⟩, ?_, ?_, ?_, fun i hi => absurd hi (Nat.not_lt_zero i), ?_, ?_, ?_, ?_, ?_, fun i hi => absurd hi (Nat.not_lt_zero i), ?_, fun i hi hi2 => by cases hi2⟩, (((((f2.pt (by omega)).pt (by omega)).fr hF2 tcs_lt (by simp)).pt (by omega)).pt (by omega)).pt (by omega) |>.pt (by omega)⟩
      · simp only [put_apply, Nat.reduceEqDiff, reduceIte, false_and, and_false, true_and, and_true, and_self, if_false, if_true, not_false_eq_true, not_true_eq_false, ne_eq]; rw [hT.1]; simp only [put_apply, Nat.reduceEqDiff, reduceIte, false_and, and_false, true_and, and_true, and_self, if_false, if_true, not_false_eq_true, not_true_eq_false, ne_eq]; exact x8
      · simp only [put_apply, Nat.reduceEqDiff, reduceIte, false_and, and_false, true_and, and_true, and_self, if_false, if_true, not_false_eq_true, not_true_eq_false, ne_eq]; rw [hT.2.1]; simp only [put_apply, Nat.reduceEqDiff, reduceIte, false_and, and_false, true_and, and_true, and_self, if_false, if_true, not_false_eq_true, not_true_eq_false, ne_eq]; exact x6
      · have hk : k < p.2.2.2.2.1.1 := hk
        obtain ⟨y1, y2, y3, y4, y5, y6⟩ := x10 k hk
        obtain ⟨d1, d2, d3⟩ := hT.2.2 k (by omega)
        have hm := RT_mny y4
        refine ⟨?_, ?_, fun i hi => ?_⟩
        · simp only [put_apply, Nat.reduceEqDiff, reduceIte, false_and, and_false, true_and, and_true, and_self, if_false, if_true, not_false_eq_true, not_true_eq_false, ne_eq]; rw [d1]; rw [put_ne (by omega), put_ne (by omega), show 5 * 0 + k = k by omega]; exact y1
        · simp only [put_apply, Nat.reduceEqDiff, reduceIte, false_and, and_false, true_and, and_true, and_self, if_false, if_true, not_false_eq_true, not_true_eq_false, ne_eq]; rw [d2]; rw [put_ne (by omega), put_ne (by omega), show 5 * 0 + k = k by omega]; exact y2
        · have hi : i < 2 * ((p.2.2.2.2.1.2 k).1 / 2) := hi
          simp only [put_apply, Nat.reduceEqDiff, reduceIte, false_and, and_false, true_and, and_true, and_self, if_false, if_true, not_false_eq_true, not_true_eq_false, ne_eq]
          rw [d3 i (by omega)]
          rw [put_ne (by omega), put_ne (by omega), show 5 * 0 + k = k by omega]; exact y3 i (by omega)
      · simp only [put_apply, Nat.reduceEqDiff, reduceIte, false_and, and_false, true_and, and_true, and_self, if_false, if_true, not_false_eq_true, not_true_eq_false, ne_eq]; rfl
      · simp only [put_apply, Nat.reduceEqDiff, reduceIte, false_and, and_false, true_and, and_true, and_self, if_false, if_true, not_false_eq_true, not_true_eq_false, ne_eq]; rw [kz 7 0 11 (by omega) (by omega) (by omega), put_ne (by simp), put_ne (by simp), h11]; exact eh
      · simp only [put_apply, Nat.reduceEqDiff, reduceIte, false_and, and_false, true_and, and_true, and_self, if_false, if_true, not_false_eq_true, not_true_eq_false, ne_eq]; rw [kz 7 0 4 (by omega) (by omega) (by omega)]; simp only [put_apply, Nat.reduceEqDiff, reduceIte, false_and, and_false, true_and, and_true, and_self, if_false, if_true, not_false_eq_true, not_true_eq_false, ne_eq]; rfl
      · simp only [put_apply, Nat.reduceEqDiff, reduceIte, false_and, and_false, true_and, and_true, and_self, if_false, if_true, not_false_eq_true, not_true_eq_false, ne_eq]; rw [kz 0 0 12 (by omega) (by omega) (by omega), put_eq]; rfl
      · simp only [put_apply, Nat.reduceEqDiff, reduceIte, false_and, and_false, true_and, and_true, and_self, if_false, if_true, not_false_eq_true, not_true_eq_false, ne_eq]; rw [kz 0 0 13 (by omega) (by omega) (by omega), put_ne (by simp), put_ne (by simp), f1 0 0 13 (by simp [rel]) (by omega)]; exact hC.drawn
      · simp only [put_apply, Nat.reduceEqDiff, reduceIte, false_and, and_false, true_and, and_true, and_self, if_false, if_true, not_false_eq_true, not_true_eq_false, ne_eq]; rfl
      · obtain ⟨n, hn, hn1, hH⟩ := hC.hist
        exact ⟨n, hn, by simp only [put_apply, Nat.reduceEqDiff, reduceIte, false_and, and_false, true_and, and_true, and_self, if_false, if_true, not_false_eq_true, not_true_eq_false, ne_eq]; rw [kz 10 0 1 (by omega) (by omega) (by omega), put_ne (by simp), put_ne (by simp), f1 10 0 1 (by simp [rel]) (by omega)]; exact hn1, fun i hi => absurd hi (Nat.not_lt_zero i)⟩
      · simp only [put_apply, Nat.reduceEqDiff, reduceIte, false_and, and_false, true_and, and_true, and_self, if_false, if_true, not_false_eq_true, not_true_eq_false, ne_eq]; rfl
      · simp only [put_apply, Nat.reduceEqDiff, reduceIte, false_and, and_false, true_and, and_true, and_self, if_false, if_true, not_false_eq_true, not_true_eq_false, ne_eq]; rfl
    · omega
  refine Sp.of rfl kX10_tray (Nat.le_of_ble_eq_true rfl) ?_
  refine u_aloadn (k := 0) rfl rfl ?_
  refine a_getr (k := 1) rfl fRX10_20 rfl rfl rfl ?_
  refine ui_virt0 (M' := mX5_readText) (k := 2) rfl lRX10_93 oX5_readText vX5_readText ⟨Nat.le_of_ble_eq_true rfl, Nat.le_of_ble_eq_true rfl⟩ rfl rfl (Nat.le_of_ble_eq_true rfl) (x_readText σ.L σ.tx h hC.L hW.L hC.tx hW.tx h01) (by intro r g hp; exact hp.1) (fun r g hg => ?_)
  obtain ⟨-, hT, hF⟩ := hg
  unfold RT_ at hT
  cases hgo : rgo σ.tx σ.L with
  | inr e =>
    rw [hgo] at hT
    obtain ⟨hr, h10, he1, he2, h11⟩ := hT
    cases hr
    exact bad g _ e.1 hF h10 h11 he1 he2 (by unfold o_tray; rw [hgo])
  | inl p =>
    rw [hgo] at hT
    obtain ⟨hX, hT⟩ := hT
    by_cases he : ed p = true
    · rw [if_pos he] at hT
      obtain ⟨hr, h10, h11⟩ := hT
      cases hr
      exact good g p hgo he hX h10 h11 hF
    · rw [if_neg he] at hT
      obtain ⟨hr, h10, h11⟩ := hT
      cases hr
      exact bad g _ 1 hF h10 h11 (by omega) (by omega) (by unfold o_tray; rw [hgo]; exact if_neg he)
