theorem m_isSameNo (n m s : Nat) (F : Nat → Nat) (h : HH) (hn : n ≤ 16) (hm : m ≤ 16) (hne : n ≠ m) (hR : RW n F s h) : SpI mX11_isSame [vr 40 0, vi m] h 0 h := by
  refine Sp.of rfl kX11_isSame (Nat.le_of_ble_eq_true rfl) ?_
  refine u_aloadn (k := 0) rfl rfl ?_
  refine a_geti (k := 1) rfl fRX11_156 rfl rfl ?_
  refine u_iloadn (k := 2) rfl rfl ?_
  rw [hR.1]
  refine a_icmp_ne (k := 3) rfl (fun c_5 => ?_) (fun c_5 => ?_)
  · refine a_iconst (k := 9) rfl ?_
    refine a_istoren (k := 10) (lv' := [(2, _), (0, _), (1, _)]) rfl (Nat.le_of_ble_eq_true rfl) rfl ?_
    refine a_iconst (k := 11) rfl ?_
    refine a_istoren (k := 12) (lv' := [(3, _), (2, _), (0, _), (1, _)]) rfl (Nat.le_of_ble_eq_true rfl) rfl ?_
    refine u_iloadn (k := 13) rfl rfl ?_
    refine u_aloadn (k := 14) rfl rfl ?_
    refine a_geti (k := 15) rfl fRX11_156 rfl rfl ?_
    rw [hR.1]
    refine a_icmp_ge (k := 16) rfl (fun c_28 => ?_) (fun c_28 => ?_)
    · refine u_iloadn (k := 60) rfl rfl ?_
      refine a_zreturn (k := 61) rfl rfl (by omega) ?_
      exact ⟨rfl, rfl⟩
    · refine u_aloadn (k := 17) rfl rfl ?_
      refine a_geti (k := 18) rfl fRX11_156 rfl rfl ?_
      refine u_iloadn (k := 19) rfl rfl ?_
      rw [hR.1]
      refine a_icmp_ne (k := 20) rfl (fun c_36 => ?_) (fun c_36 => ?_)
      · refine u_iloadn (k := 60) rfl rfl ?_
        refine a_zreturn (k := 61) rfl rfl (by omega) ?_
        exact ⟨rfl, rfl⟩
      · omega
  · omega
def tsm : List (Nat × Nat) := [(50, 0), (51, 0), (52, 0)]
theorem n_same {B : Nat} {σ : AS} {h : HH} (hW : WA B σ) (hM : MR σ h) (k q : Int) : Sp mX11_same [vr 40 0, vi k, vi q] h (MP (o_same σ k q) h) := by
  by_cases ht : (0 ≤ k ∧ k < σ.now.1) ∧ (0 ≤ q ∧ q < σ.now.1) ∧ k ≠ q
  · obtain ⟨a, rfl⟩ : ∃ a : Nat, k = (a : Int) := ⟨k.toNat, by omega⟩
    obtain ⟨b, rfl⟩ : ∃ b : Nat, q = (b : Int) := ⟨q.toNat, by omega⟩
    have hk : a < σ.now.1 := by omega
    have hq : b < σ.now.1 := by omega
    have hab : a ≠ b := by omega
    have h5 := hW.now.1
    have hWa := hW.now.2.2 a hk
    have hWb := hW.now.2.2 b hq
    have h8a := hWa.1
    have h8b := hWb.1
    have hsa := (p8 h8a).2
    have hsa2 := hWa.2.1
    have hit : istwo (a : Int) (b : Int) σ.now.1 = true := decide_eq_true ht
    rw [show o_same σ (a : Int) (b : Int) = _ from two_yes hk hq hab]
    have hsla : ∀ g, Fr tsm kwd h g → RM (2 + 18 * a) (σ.now.2.2 a) g := fun g hF => (hM.slot hk).keep h8a (fun k _ _ => hF 41 0 k (by simp [tsm]) (by simp [kwd]))
    have hslb := hM.slot hq
    generalize (σ.now.2.2 a) = ra at *
    generalize (σ.now.2.2 b) = rb at *
    have e4 : ∀ w, wys ra.2.2 rb.2.2 (2 * ra.1) (w + 1) = if cmT ra.2.2 rb.2.2 (2 * ra.1) (decide (w % 2 = 1)) (w / 2) (2 * ra.1) 0 then wys ra.2.2 rb.2.2 (2 * ra.1) w ||| 2 ^ w else wys ra.2.2 rb.2.2 (2 * ra.1) w := fun w => rfl
    have wl := wys_lt ra.2.2 rb.2.2 (2 * ra.1)
    have o0 : ∀ x : Nat, x < 2 ^ 31 → ior (x : Int) 0 = (x : Int) := fun x hx => (ior_nat (b := 0) hx (by omega)).trans (by rw [Nat.or_zero])
    have f16 : ∀ i, i < 2 * ra.1 → ra.2.2 i < 16 := hWa.2.2.1.s h8a
    refine Sp.of rfl kX11_same (Nat.le_of_ble_eq_true rfl) ?_
    have Lw : ∀ (m w : Nat) (g : HH), w + m = 4 → Fr tsm kwd h g → (∀ i, i < 2 * rb.1 → g 51 0 i = (rb.2.2 i : Int)) → AW mX11_same (MP ((if ra.1 = rb.1 then (wys ra.2.2 rb.2.2 (2 * ra.1) 4 : Int) else 0), σ) h) 56 [(5, vi w), (4, vi (if ra.1 = rb.1 then (wys ra.2.2 rb.2.2 (2 * ra.1) w : Int) else 0)), (3, vi ((2 * rb.1 : Nat) : Int)), (0, vr 40 0), (1, vi a), (2, vi b)] [] g := by
      intro m
      induction m with
      | zero =>
        intro w g hw hF h51
        have hw : w = 4 := by omega
        subst hw
        refine u_iload (k := 33) rfl rfl ?_
        refine a_iconst (k := 34) rfl ?_
        refine a_icmp_ge (k := 35) rfl (fun c_59 => ?_) (fun c_59 => ?_)
        · refine u_iload (k := 66) rfl rfl ?_
          refine a_ireturn (k := 67) rfl rfl ?_
          exact ⟨rfl, hM.scr hW (Fs_of hF (by simp [tms, tsm]) (by simp [kms, kwd])), Fr.mo hF (by simp [tsm]) (by simp [kwd])⟩
        · omega
      | succ m ih =>
        intro w g hw hF h51
        have nx : ∀ (g2 : HH) (v : Int), Fr tsm kwd h g2 → (∀ i, i < 2 * rb.1 → g2 51 0 i = (rb.2.2 i : Int)) → v = (if ra.1 = rb.1 then (wys ra.2.2 rb.2.2 (2 * ra.1) (w + 1) : Int) else 0) → AW mX11_same (MP ((if ra.1 = rb.1 then (wys ra.2.2 rb.2.2 (2 * ra.1) 4 : Int) else 0), σ) h) 111 [(5, vi w), (4, vi (if ra.1 = rb.1 then (wys ra.2.2 rb.2.2 (2 * ra.1) w : Int) else 0)), (3, vi ((2 * rb.1 : Nat) : Int)), (0, vr 40 0), (1, vi a), (2, vi b)] [vi v] g2 := by
          intro g2 v hF2 h2 hv
          subst hv
          refine a_istore (k := 63) (lv' := [(4, _), (5, _), (3, _), (0, _), (1, _), (2, _)]) rfl (Nat.le_of_ble_eq_true rfl) rfl ?_
          refine u_iinc (k := 64) (lv' := [(5, _), (4, _), (3, _), (0, _), (1, _), (2, _)]) rfl rfl (Nat.le_of_ble_eq_true rfl) (by omega) rfl ?_
          refine a_goto (k := 65) rfl ?_
          exact ih (w + 1) g2 (by omega) hF2 h2
        have T92 : ∀ g2 : HH, Fr tsm kwd h g2 → (∀ i, i < 2 * rb.1 → g2 51 0 i = (rb.2.2 i : Int)) → RW (2 * ra.1) (wyF ra.2.2 (2 * ra.1) w) ra.2.1 g2 → (∀ i, i < 2 * ra.1 → wyF ra.2.2 (2 * ra.1) w i < 52) → AW mX11_same (MP ((if ra.1 = rb.1 then (wys ra.2.2 rb.2.2 (2 * ra.1) 4 : Int) else 0), σ) h) 92 [(5, vi w), (4, vi (if ra.1 = rb.1 then (wys ra.2.2 rb.2.2 (2 * ra.1) w : Int) else 0)), (3, vi ((2 * rb.1 : Nat) : Int)), (0, vr 40 0), (1, vi a), (2, vi b)] [] g2 := by
          intro g2 hF2 h2 hR2 h52
          by_cases hc : ra.1 = rb.1
          · have hc2 : 2 * rb.1 = 2 * ra.1 := by omega
            have wl1 := wl w
            have hpw : 2 ^ w ≤ 2 ^ 4 := Nat.pow_le_pow_right (by omega) (by omega)
            have is := m_isSame (2 * ra.1) ra.2.1 (wyF ra.2.2 (2 * ra.1) w) rb.2.2 g2 (by omega) (by omega) hR2 h52 (fun i hi => h2 i (by omega))
            rw [← wy_eq (by omega) f16] at is
            rw [← hc2] at is
            simp only [if_pos hc] at nx ⊢
            refine u_iload (k := 52) rfl rfl ?_
            refine u_aloadn (k := 53) rfl rfl ?_
            refine u_iloadn (k := 54) rfl rfl ?_
            refine ui_virt1 (M' := mX11_isSame) (k := 55) rfl lRX11_273 oX11_isSame vX11_isSame ⟨Nat.le_of_ble_eq_true rfl, Nat.le_of_ble_eq_true rfl⟩ rfl rfl (Nat.le_of_ble_eq_true rfl) (is) (by intro r g hp; exact ⟨_, hp.1⟩) (fun z g3 hg3 => ?_)
            obtain ⟨hz, hF3⟩ := hg3; cases hz
            have hF4 : Fr tsm kwd h g3 := hF2.tr hF3 (by simp [tsm]) (by simp)
            have h3 : ∀ i, i < 2 * rb.1 → g3 51 0 i = (rb.2.2 i : Int) := fun i hi => by rw [hF3 51 0 i (by simp) (by simp)]; exact h2 i hi
            refine a_if_eq (k := 56) rfl (fun c_99 => ?_) (fun c_99 => ?_)
            · have e99 := b01_f c_99
              refine a_iconst (k := 61) rfl ?_
              refine a_ior (k := 62) rfl ?_
              first
                | rw [ior_nat (by omega) (by omega)]
                | rw [o0 _ (by omega)]
              first
                | exact nx g3 _ hF4 h3 (by rw [e4, ← hc2, if_pos e99])
                | exact nx g3 _ hF4 h3 (by rw [e4, ← hc2, if_neg (by rw [e99]; decide)])
            · have e99 := b01_t c_99
              refine a_iconst (k := 57) rfl ?_
              refine u_iload (k := 58) rfl rfl ?_
              refine a_ishl (k := 59) rfl ?_
              rw [shl1 (by omega)]
              refine a_goto (k := 60) rfl ?_
              refine a_ior (k := 62) rfl ?_
              first
                | rw [ior_nat (by omega) (by omega)]
                | rw [o0 _ (by omega)]
              first
                | exact nx g3 _ hF4 h3 (by rw [e4, ← hc2, if_pos e99])
                | exact nx g3 _ hF4 h3 (by rw [e4, ← hc2, if_neg (by rw [e99]; decide)])
          · simp only [if_neg hc] at nx ⊢
            refine u_iload (k := 52) rfl rfl ?_
            refine u_aloadn (k := 53) rfl rfl ?_
            refine u_iloadn (k := 54) rfl rfl ?_
            refine i_virt1 (M' := mX11_isSame) (k := 55) rfl lRX11_273 oX11_isSame vX11_isSame ⟨Nat.le_of_ble_eq_true rfl, Nat.le_of_ble_eq_true rfl⟩ rfl rfl (Nat.le_of_ble_eq_true rfl) (m_isSameNo (2 * ra.1) (2 * rb.1) _ _ g2 (by omega) (by omega) (by omega) hR2) ?_
            refine a_if_eq (k := 56) rfl (fun c_99 => ?_) (fun c_99 => ?_)
            · refine a_iconst (k := 61) rfl ?_
              refine a_ior (k := 62) rfl ?_
              rw [show ior 0 0 = 0 from o0 0 (by omega)]
              exact nx g2 0 hF2 h2 rfl
            · exact absurd rfl c_99
        have b16 : ∀ i, i < 2 * ra.1 → rvf ra.2.2 (2 * ra.1) i < 16 := fun i hi => f16 _ (by omega)
        have T79 : ∀ (g2 : HH) (F : Nat → Nat), Fr tsm kwd h g2 → (∀ i, i < 2 * rb.1 → g2 51 0 i = (rb.2.2 i : Int)) → RW (2 * ra.1) F ra.2.1 g2 → (∀ i, i < 2 * ra.1 → F i < 16) → wyF ra.2.2 (2 * ra.1) w = (if w ≤ 1 then F else swf F 255) → AW mX11_same (MP ((if ra.1 = rb.1 then (wys ra.2.2 rb.2.2 (2 * ra.1) 4 : Int) else 0), σ) h) 79 [(5, vi w), (4, vi (if ra.1 = rb.1 then (wys ra.2.2 rb.2.2 (2 * ra.1) w : Int) else 0)), (3, vi ((2 * rb.1 : Nat) : Int)), (0, vr 40 0), (1, vi a), (2, vi b)] [] g2 := by
          intro g2 F hF2 h2 hR2 h16 hy
          refine u_iload (k := 46) rfl rfl ?_
          refine a_iconst (k := 47) rfl ?_
          refine a_icmp_le (k := 48) rfl (fun c_82 => ?_) (fun c_82 => ?_)
          · rw [if_pos (by omega)] at hy
            exact T92 g2 hF2 h2 (by rw [hy]; exact hR2) (fun i hi => by rw [hy]; have := h16 i hi; omega)
          · refine u_aloadn (k := 49) rfl rfl ?_
            refine a_sipush (k := 50) rfl ?_
            refine uv_virt1 (M' := mX11_turns) (k := 51) rfl lRX11_239 oX11_turns vX11_turns ⟨Nat.le_of_ble_eq_true rfl, Nat.le_of_ble_eq_true rfl⟩ rfl rfl (Nat.le_of_ble_eq_true rfl) (m_turns _ _ 255 _ g2 (by omega) (by omega) hR2 (fun i hi => by have := h16 i hi; omega)) (by intro r g hp; exact hp.1) (fun g3 hg3 => ?_)
            obtain ⟨-, hR3, hF3⟩ := hg3
            rw [if_neg (by omega)] at hy
            exact T92 g3 (hF2.tr hF3 (by simp [tsm]) (by simp)) (fun i hi => by rw [hF3 51 0 i (by simp) (by simp)]; exact h2 i hi) (by rw [hy]; exact hR3) (fun i hi => by rw [hy]; have := h16 i hi; have := swf_div F 255 i; omega)
        have hw4 : w = 0 ∨ w = 1 ∨ w = 2 ∨ w = 3 := by omega
        refine u_iload (k := 33) rfl rfl ?_
        refine a_iconst (k := 34) rfl ?_
        refine a_icmp_ge (k := 35) rfl (fun c_59 => ?_) (fun c_59 => ?_)
        · omega
        · refine u_aloadn (k := 36) rfl rfl ?_
          refine u_iloadn (k := 37) rfl rfl ?_
          refine uv_virt1 (M' := mX11_loads) (k := 38) rfl lRX11_211 oX11_loads vX11_loads ⟨Nat.le_of_ble_eq_true rfl, Nat.le_of_ble_eq_true rfl⟩ rfl rfl (Nat.le_of_ble_eq_true rfl) (m_loads a ra g (by omega) h8a (hsla g hF)) (by intro r g hp; exact hp.1) (fun g2 hg2 => ?_)
          obtain ⟨-, hR2, hF2⟩ := hg2
          have hF3 : Fr tsm kwd h g2 := hF.tr hF2 (by simp [tsm]) (by simp [kwd])
          have h2 : ∀ i, i < 2 * rb.1 → g2 51 0 i = (rb.2.2 i : Int) := fun i hi => by rw [hF2 51 0 i (by simp) (by simp)]; exact h51 i hi
          refine u_iload (k := 39) rfl rfl ?_
          refine a_iconst (k := 40) rfl ?_
          refine u_irem (k := 41) rfl (by omega) (by omega) ?_
          refine a_iconst (k := 42) rfl ?_
          refine a_icmp_ne (k := 43) rfl (fun c_72 => ?_) (fun c_72 => ?_)
          · refine T79 g2 ra.2.2 hF3 h2 hR2 f16 ?_
            rcases hw4 with rfl | rfl | rfl | rfl
            · rfl
            · omega
            · rfl
            · omega
          · refine u_aloadn (k := 44) rfl rfl ?_
            refine uv_virt0 (M' := mX11_reverses) (k := 45) rfl lRX11_270 oX11_reverses vX11_reverses ⟨Nat.le_of_ble_eq_true rfl, Nat.le_of_ble_eq_true rfl⟩ rfl rfl (Nat.le_of_ble_eq_true rfl) (m_reverses _ _ _ g2 (by omega) hR2) (by intro r g hp; exact hp.1) (fun g3 hg3 => ?_)
            obtain ⟨-, hR3, hF4⟩ := hg3
            refine T79 g3 (rvf ra.2.2 (2 * ra.1)) (hF3.tr hF4 (by simp [tsm]) (by simp)) (fun i hi => by rw [hF4 51 0 i (by simp) (by simp)]; exact h2 i hi) hR3 b16 ?_
            rcases hw4 with rfl | rfl | rfl | rfl
            · omega
            · rfl
            · omega
            · rfl
    have Lc : ∀ (m r : Nat) (g : HH), r + m = 2 * rb.1 → RW (2 * rb.1) rb.2.2 rb.2.1 g → Fr tsm kwd h g → (∀ i, i < r → g 51 0 i = (rb.2.2 i : Int)) → AW mX11_same (MP ((if ra.1 = rb.1 then (wys ra.2.2 rb.2.2 (2 * ra.1) 4 : Int) else 0), σ) h) 19 [(3, vi r), (0, vr 40 0), (1, vi a), (2, vi b)] [] g := by
      intro m
      induction m with
      | zero =>
        intro r g hr hR hF h51
        have hr : r = 2 * rb.1 := by omega
        subst hr
        refine u_iloadn (k := 12) rfl rfl ?_
        refine u_aloadn (k := 13) rfl rfl ?_
        refine a_geti (k := 14) rfl fRX11_156 rfl rfl ?_
        rw [hR.1]
        refine a_icmp_ge (k := 15) rfl (fun c_24 => ?_) (fun c_24 => ?_)
        · refine u_aloadn (k := 26) rfl rfl ?_
          refine a_geti (k := 27) rfl fRX11_156 rfl rfl ?_
          rw [hR.1]
          refine a_istoren (k := 28) (lv' := [(3, _), (0, _), (1, _), (2, _)]) rfl (Nat.le_of_ble_eq_true rfl) rfl ?_
          refine a_iconst (k := 29) rfl ?_
          refine a_istore (k := 30) (lv' := [(4, _), (3, _), (0, _), (1, _), (2, _)]) rfl (Nat.le_of_ble_eq_true rfl) rfl ?_
          refine a_iconst (k := 31) rfl ?_
          refine a_istore (k := 32) (lv' := [(5, _), (4, _), (3, _), (0, _), (1, _), (2, _)]) rfl (Nat.le_of_ble_eq_true rfl) rfl ?_
          have := Lw 4 0 g (by omega) hF h51
          rw [show (if ra.1 = rb.1 then ((wys ra.2.2 rb.2.2 (2 * ra.1) 0 : Nat) : Int) else 0) = 0 by split <;> rfl] at this
          exact this
        · omega
      | succ m ih =>
        intro r g hr hR hF h51
        refine u_iloadn (k := 12) rfl rfl ?_
        refine u_aloadn (k := 13) rfl rfl ?_
        refine a_geti (k := 14) rfl fRX11_156 rfl rfl ?_
        rw [hR.1]
        refine a_icmp_ge (k := 15) rfl (fun c_24 => ?_) (fun c_24 => ?_)
        · omega
        · refine u_aloadn (k := 16) rfl rfl ?_
          refine a_getr (k := 17) rfl fRX11_45 rfl rfl rfl ?_
          refine u_iloadn (k := 18) rfl rfl ?_
          refine u_aloadn (k := 19) rfl rfl ?_
          refine a_getr (k := 20) rfl fRX11_42 rfl rfl rfl ?_
          refine u_iloadn (k := 21) rfl rfl ?_
          refine u_iald (k := 22) rfl rfl rfl (by omega) ?_
          rw [hR.2.2 r (by omega)]
          refine u_iast (k := 23) rfl rfl rfl (by omega) ?_
          refine u_iinc (k := 24) (lv' := [(3, _), (0, _), (1, _), (2, _)]) rfl rfl (Nat.le_of_ble_eq_true rfl) (by omega) rfl ?_
          refine a_goto (k := 25) rfl ?_
          refine ih (r + 1) _ (by omega) (hR.keep (by simp only [put_apply, Nat.reduceEqDiff, reduceIte, false_and, and_false, true_and, and_true, and_self, if_false, if_true, not_false_eq_true, not_true_eq_false, ne_eq]) (by simp only [put_apply, Nat.reduceEqDiff, reduceIte, false_and, and_false, true_and, and_true, and_self, if_false, if_true, not_false_eq_true, not_true_eq_false, ne_eq]) (fun k => by simp only [put_apply, Nat.reduceEqDiff, reduceIte, false_and, and_false, true_and, and_true, and_self, if_false, if_true, not_false_eq_true, not_true_eq_false, ne_eq])) (hF.p1 (by simp [tsm])) (fun i hi => ?_)
          by_cases he : i = r
          · subst he; rw [put_eq]
          · rw [put_ne (by simp [he])]; exact h51 i (by omega)
    refine u_aloadn (k := 0) rfl rfl ?_
    refine u_iloadn (k := 1) rfl rfl ?_
    refine u_iloadn (k := 2) rfl rfl ?_
    refine i_virt2 (M' := mX11_isTwo) (k := 3) rfl lRX11_267 oX11_isTwo vX11_isTwo ⟨Nat.le_of_ble_eq_true rfl, Nat.le_of_ble_eq_true rfl⟩ rfl rfl (Nat.le_of_ble_eq_true rfl) (hM.two hW a b) ?_
    rw [hit]
    refine a_if_ne (k := 4) rfl (fun c_6 => ?_) (fun c_6 => ?_)
    · refine u_aloadn (k := 7) rfl rfl ?_
      refine u_iloadn (k := 8) rfl rfl ?_
      refine uv_virt1 (M' := mX11_loads) (k := 9) rfl lRX11_211 oX11_loads vX11_loads ⟨Nat.le_of_ble_eq_true rfl, Nat.le_of_ble_eq_true rfl⟩ rfl rfl (Nat.le_of_ble_eq_true rfl) (m_loads b rb h (by omega) h8b hslb) (by intro r g hp; exact hp.1) (fun g2 hg2 => ?_)
      obtain ⟨-, hR2, hF2⟩ := hg2
      refine a_iconst (k := 10) rfl ?_
      refine a_istoren (k := 11) (lv' := [(3, _), (0, _), (1, _), (2, _)]) rfl (Nat.le_of_ble_eq_true rfl) rfl ?_
      exact Lc (2 * rb.1) 0 g2 (by omega) hR2 (hF2.mono (by simp [tsm]) (by simp [kwd])) (fun i hi => absurd hi (Nat.not_lt_zero i))
    · exact absurd c_6 (by decide)
  · have hit : istwo k q σ.now.1 = false := decide_eq_false ht
    rw [show o_same σ k q = (UNK, σ) from if_neg ht]
    refine Sp.of rfl kX11_same (Nat.le_of_ble_eq_true rfl) ?_
    refine u_aloadn (k := 0) rfl rfl ?_
    refine u_iloadn (k := 1) rfl rfl ?_
    refine u_iloadn (k := 2) rfl rfl ?_
    refine i_virt2 (M' := mX11_isTwo) (k := 3) rfl lRX11_267 oX11_isTwo vX11_isTwo ⟨Nat.le_of_ble_eq_true rfl, Nat.le_of_ble_eq_true rfl⟩ rfl rfl (Nat.le_of_ble_eq_true rfl) (hM.two hW k q) ?_
    rw [hit]
    refine a_if_ne (k := 4) rfl (fun c_6 => ?_) (fun c_6 => ?_)
    · exact absurd rfl c_6
    · refine a_ldc (k := 5) rfl nRX11_210 ⟨by decide, by decide⟩ ?_
      refine a_ireturn (k := 6) rfl rfl ?_
      exact ⟨rfl, hM, FMo.rf⟩
