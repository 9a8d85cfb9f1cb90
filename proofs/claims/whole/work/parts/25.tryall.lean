theorem mls_ML (f : Nat → Nat) (c S W H : Nat) : ML S (mls f c S W H) := by
  intro i hi
  have hv : fn (mls f c S W H) i ∈ mls f c S W H := by
    rw [fn, List.getD, List.getElem?_eq_getElem hi]
    simp
  obtain ⟨a, b, h1, h2, h3, h4, h5⟩ := mpre_mem.mp hv
  refine ⟨a, b, h1, h2, h5, ?_⟩
  simp only [mvp, Bool.and_eq_true] at h4
  have := h4.1
  rw [ndiff_bit] at this
  simp only [Bool.and_eq_true] at this
  exact this.1
noncomputable def tstep (f : Nat → Nat) (c s a n : Nat) (y : FB × WT) : FB × WT := by
  classical
  exact if y.1.1 n ≠ -1 then (rli n a (mls f c n 0 s) y.1 (mls f c n 0 s).length, wg y.1 n (y.2.1 + 1, y.2.2)) else y
theorem tstep_p {f : Nat → Nat} {c s a n : Nat} {y : FB × WT} (h : y.1.1 n ≠ -1) : tstep f c s a n y = (rli n a (mls f c n 0 s) y.1 (mls f c n 0 s).length, wg y.1 n (y.2.1 + 1, y.2.2)) := by unfold tstep; exact if_pos h
theorem tstep_n {f : Nat → Nat} {c s a n : Nat} {y : FB × WT} (h : y.1.1 n = -1) : tstep f c s a n y = y := by unfold tstep; exact if_neg (fun z => z h)
noncomputable def ta (f : Nat → Nat) (c s a : Nat) : Nat → FB × WT → FB × WT
  | 0, y => y
  | n + 1, y => ta f c s a n (tstep f c s a n y)
def tsh : List (Nat × Nat) := [(17, 0), (18, 0), (19, 0), (20, 0), (21, 0), (22, 0), (23, 0), (24, 0)]
theorem x_tryAll (j c s : Nat) (f : Nat → Nat) (h : HH) (hR : RP j c f s h) :
    Sp mX8_tryAll [vr 22 0, vr 5 j, vr 17 0] h (fun r g => r = none ∧ HWt (ta f c s (2 ^ c - 1) (2 ^ c) ((ui (fun _ => -1) (2 ^ c - 1) 0, ui (h 24 0) (2 ^ c - 1) (-1)), (0, (c : Int), 0, -1))).2 g ∧ Fr tsh [] h g) := by
  refine Sp.of rfl kX8_tryAll (Nat.le_of_ble_eq_true rfl) ?_
  have hp : 0 < 2 ^ c := Nat.pow_pos (by omega)
  have hq : 2 ^ c ≤ 2 ^ 8 := Nat.pow_le_pow_right (by omega) hR.2.1
  have L : ∀ (n : Nat) (y : FB × WT) (g : HH), n ≤ 2 ^ c → HB y.1 g → FO y.1 → HWt y.2 g → y.2.1 + n ≤ 2 ^ c → Fr tsh [] h g → AW mX8_tryAll (fun r g => r = none ∧ HWt (ta f c s (2 ^ c - 1) n y).2 g ∧ Fr tsh [] h g) 57 [(0, vr 22 0), (1, vr 5 j), (2, vr 17 0), (3, vi ((2 ^ c - 1 : Nat) : Int)), (4, vi ((n : Int) - 1))] [] g := by
    intro n
    induction n with
    | zero =>
      intro y g hn hB hO hw hs hF
      refine u_iload (k := 34) rfl rfl ?_
      refine a_if_lt (k := 35) rfl (fun c_59 => ?_) (fun c_59 => ?_)
      · refine a_return (k := 70) rfl rfl ?_
        exact ⟨rfl, hw, hF⟩
      · omega
    | succ n ih =>
      intro y g hn hB hO hw hs hF
      have em : ((n + 1 : Nat) : Int) - 1 = (n : Int) := by omega
      rw [em]
      have hb := (hB n (by omega)).1
      have ho := hO n (by omega)
      have et : ta f c s (2 ^ c - 1) (n + 1) y = ta f c s (2 ^ c - 1) n (tstep f c s (2 ^ c - 1) n y) := rfl
      have fin : ∀ g2 : HH, y.1.1 n ≠ -1 → Fr tsh [] h g2 → HWt (wg y.1 n (y.2.1 + 1, y.2.2)) g2 → HB y.1 g2 → LK f c n 0 s g2 → AW mX8_tryAll (fun r g => r = none ∧ HWt (ta f c s (2 ^ c - 1) (n + 1) y).2 g ∧ Fr tsh [] h g) 115 [(0, vr 22 0), (1, vr 5 j), (2, vr 17 0), (3, vi ((2 ^ c - 1 : Nat) : Int)), (4, vi n)] [vi (b01 (decide (n = 2 ^ c - 1))), vi n, vr 22 0] g2 := by
        intro g2 hne hF2 hw2 hB2 hLK
        have hwl : (wg y.1 n (y.2.1 + 1, y.2.2)).1 = y.2.1 + 1 := by
          by_cases hc : lx3 (pc_ n) (y.1.1 n) (y.1.2 n) (y.2.1 + 1, y.2.2)
          · rw [wg_p hc]
          · rw [wg_n hc]
        have h0 : 0 ≤ y.1.1 n := by omega
        refine u_aloadn (k := 66) rfl rfl ?_
        refine uv_virt3 (M' := mX8_followMoves) (k := 67) rfl lRX8_59 oX8_followMoves vX8_followMoves ⟨Nat.le_of_ble_eq_true rfl, Nat.le_of_ble_eq_true rfl⟩ rfl rfl (Nat.le_of_ble_eq_true rfl) (x_followMoves n (2 ^ c - 1) (mls f c n 0 s) y.1 g2 hLK.1 (mls_len f c n 0 s) (mls_ML f c n 0 s) (by omega) hB2 hO h0 (by omega)) (by intro r g hp; exact hp.1) (fun g3 hg3 => ?_)
        obtain ⟨-, b5, b6⟩ := hg3
        refine u_iinc (k := 68) (lv' := [(4, _), (0, _), (1, _), (2, _), (3, _)]) rfl rfl (Nat.le_of_ble_eq_true rfl) (by omega) rfl ?_
        refine a_goto (k := 69) rfl ?_
        refine a_sub [1, 2, 3, 4, 0] rfl ?_
        rw [et, tstep_p hne]
        exact ih _ g3 (by omega) b5 (rli_ok (mls_ML f c n 0 s) hO (by omega) h0 _ (Nat.le_refl _)).1 ⟨by rw [b6 22 0 2 (by simp) (by simp)]; exact hw2.1, by rw [b6 22 0 3 (by simp) (by simp)]; exact hw2.2.1, by rw [b6 22 0 4 (by simp) (by simp)]; exact hw2.2.2.1, by rw [b6 22 0 5 (by simp) (by simp)]; exact hw2.2.2.2⟩ (by dsimp only; omega) (hF2.tr b6 (by simp [tsh]) (by simp))
      refine u_iload (k := 34) rfl rfl ?_
      refine a_if_lt (k := 35) rfl (fun c_59 => ?_) (fun c_59 => ?_)
      · omega
      · refine u_aloadn (k := 36) rfl rfl ?_
        refine a_getr (k := 37) rfl fRX8_9 rfl rfl rfl ?_
        refine u_iload (k := 38) rfl rfl ?_
        refine u_iald (k := 39) rfl rfl rfl (by omega) ?_
        rw [hb]
        refine a_iconst (k := 40) rfl ?_
        refine a_icmp_eq (k := 41) rfl (fun c_70 => ?_) (fun c_70 => ?_)
        · refine u_iinc (k := 68) (lv' := [(4, _), (0, _), (1, _), (2, _), (3, _)]) rfl rfl (Nat.le_of_ble_eq_true rfl) (by omega) rfl ?_
          refine a_goto (k := 69) rfl ?_
          refine a_sub [1, 2, 3, 4, 0] rfl ?_
          rw [et, tstep_n (by omega)]; exact ih y g (by omega) hB hO hw (by omega) hF
        · refine u_aloadn (k := 42) rfl rfl ?_
          refine a_dup (k := 43) rfl rfl ?_
          refine a_geti (k := 44) rfl fRX8_30 rfl rfl ?_
          rw [hw.1]
          refine a_iconst (k := 45) rfl ?_
          refine u_iadd (k := 46) rfl (by omega) ?_
          refine a_puti (k := 47) rfl pRX8_30 rfl rfl ?_
          refine u_aloadn (k := 48) rfl rfl ?_
          refine u_iload (k := 49) rfl rfl ?_
          refine uv_virt1 (M' := mX8_weigh) (k := 50) rfl lRX8_46 oX8_weigh vX8_weigh ⟨Nat.le_of_ble_eq_true rfl, Nat.le_of_ble_eq_true rfl⟩ rfl rfl (Nat.le_of_ble_eq_true rfl) (x_weigh n y.1 (y.2.1 + 1, y.2.2) _ (by omega) (fun T hT => by simp only [put_apply, Nat.reduceEqDiff, reduceIte, false_and, and_false, true_and, and_true, and_self, if_false, if_true, not_false_eq_true, not_true_eq_false, ne_eq]; exact hB T hT) ⟨by rw [put_eq]; rfl, by simp only [put_apply, Nat.reduceEqDiff, reduceIte, false_and, and_false, true_and, and_true, and_self, if_false, if_true, not_false_eq_true, not_true_eq_false, ne_eq]; exact hw.2.1, by simp only [put_apply, Nat.reduceEqDiff, reduceIte, false_and, and_false, true_and, and_true, and_self, if_false, if_true, not_false_eq_true, not_true_eq_false, ne_eq]; exact hw.2.2.1, by simp only [put_apply, Nat.reduceEqDiff, reduceIte, false_and, and_false, true_and, and_true, and_self, if_false, if_true, not_false_eq_true, not_true_eq_false, ne_eq]; exact hw.2.2.2⟩) (by intro r g hp; exact hp.1) (fun g1 hg1 => ?_)
          obtain ⟨-, b1, b2⟩ := hg1; have hF1 : Fr tsh [] h g1 := (hF.p1 (by simp [tsh])).tr b2 (by simp) (by simp [tsh]); have hR1 : RP j c f s g1 := hR.fr hF1 (by simp [tsh]) (by simp [tsh]) (by simp) (by simp); have hs1 := hR1.2.2.1
          refine u_aloadn (k := 51) rfl rfl ?_
          refine u_aloadn (k := 52) rfl rfl ?_
          refine u_iload (k := 53) rfl rfl ?_
          refine a_iconst (k := 54) rfl ?_
          refine u_aloadn (k := 55) rfl rfl ?_
          refine a_geti (k := 56) rfl fRX8_50 rfl rfl ?_
          rw [hs1]
          refine uv_virt4 (M' := mX3_lookAt) (k := 57) rfl lRX8_53 oX3_lookAt vX3_lookAt ⟨Nat.le_of_ble_eq_true rfl, Nat.le_of_ble_eq_true rfl⟩ rfl rfl (Nat.le_of_ble_eq_true rfl) (x_lookAt j c s n 0 s f g1 hR1 (by omega) (by omega) (by have := hR.2.2.2.1; omega)) (by intro r g hp; exact hp.1) (fun g2 hg2 => ?_)
          obtain ⟨-, b3, b4⟩ := hg2
          refine u_aloadn (k := 58) rfl rfl ?_
          refine u_iload (k := 59) rfl rfl ?_
          refine u_iload (k := 60) rfl rfl ?_
          refine u_iloadn (k := 61) rfl rfl ?_
          refine a_icmp_ne (k := 62) rfl (fun c_107 => ?_) (fun c_107 => ?_)
          · have e9 : (0 : Int) = b01 (decide (n = 2 ^ c - 1)) := by rw [decide_eq_false (by omega)]; rfl
            refine a_iconst (k := 65) rfl ?_
            rw [e9]
            refine fin g2 (by omega) (hF1.tr b4 (by simp [tsh, tml]) (by simp)) ⟨by rw [b4 22 0 2 (by simp [tml]) (by simp)]; exact b1.1, by rw [b4 22 0 3 (by simp [tml]) (by simp)]; exact b1.2.1, by rw [b4 22 0 4 (by simp [tml]) (by simp)]; exact b1.2.2.1, by rw [b4 22 0 5 (by simp [tml]) (by simp)]; exact b1.2.2.2⟩ (fun T hT => ?_) b3
            rw [b4 23 0 T (by simp [tml]) (by simp), b4 24 0 T (by simp [tml]) (by simp), b2 23 0 T (by simp) (by simp), b2 24 0 T (by simp) (by simp), put_ne (by simp), put_ne (by simp)]
            exact hB T hT
          · have e9 : (1 : Int) = b01 (decide (n = 2 ^ c - 1)) := by rw [decide_eq_true (by omega)]; rfl
            refine a_iconst (k := 63) rfl ?_
            refine a_goto (k := 64) rfl ?_
            rw [e9]
            refine fin g2 (by omega) (hF1.tr b4 (by simp [tsh, tml]) (by simp)) ⟨by rw [b4 22 0 2 (by simp [tml]) (by simp)]; exact b1.1, by rw [b4 22 0 3 (by simp [tml]) (by simp)]; exact b1.2.1, by rw [b4 22 0 4 (by simp [tml]) (by simp)]; exact b1.2.2.1, by rw [b4 22 0 5 (by simp [tml]) (by simp)]; exact b1.2.2.2⟩ (fun T hT => ?_) b3
            rw [b4 23 0 T (by simp [tml]) (by simp), b4 24 0 T (by simp [tml]) (by simp), b2 23 0 T (by simp) (by simp), b2 24 0 T (by simp) (by simp), put_ne (by simp), put_ne (by simp)]
            exact hB T hT
  have e255 : iand ((2 ^ c - 1 : Nat) : Int) 255 = ((2 ^ c - 1 : Nat) : Int) := by
    have := iand_nat (a := 2 ^ c - 1) (b := 255) (by omega)
    rw [show ((255 : Nat) : Int) = 255 from rfl] at this
    rw [this, show (255 : Nat) = 2 ^ 8 - 1 from rfl, Nat.and_two_pow_sub_one_eq_mod, Nat.mod_eq_of_lt (by omega)]
  refine u_aloadn (k := 0) rfl rfl ?_
  refine i_virt0 (M' := mX6_everyCrossing) (k := 1) rfl lRX8_18 oX6_everyCrossing vX6_everyCrossing ⟨Nat.le_of_ble_eq_true rfl, Nat.le_of_ble_eq_true rfl⟩ rfl rfl (Nat.le_of_ble_eq_true rfl) (x_every j c h hR.1 hR.2.1) ?_
  refine a_sipush (k := 2) rfl ?_
  refine a_iand (k := 3) rfl ?_
  rw [e255]
  refine a_istoren (k := 4) (lv' := [(3, _), (0, _), (1, _), (2, _)]) rfl (Nat.le_of_ble_eq_true rfl) rfl ?_
  refine u_aloadn (k := 5) rfl rfl ?_
  refine a_getr (k := 6) rfl fRX8_9 rfl rfl rfl ?_
  refine a_iconst (k := 7) rfl ?_
  refine uv_stat2 (M' := mJ7_fill_53178) (k := 8) rfl lRX8_24 oJ7_fill_53178 vJ7_fill_53178 ⟨Nat.le_of_ble_eq_true rfl, Nat.le_of_ble_eq_true rfl⟩ rfl (Nat.le_of_ble_eq_true rfl) (j_fill 23 256 (-1) h rfl rfl (by omega) 0) (by intro r g hp; exact hp.1) (fun g1 hg1 => ?_)
  obtain ⟨-, b1, b2⟩ := hg1
  refine u_aloadn (k := 9) rfl rfl ?_
  refine a_getr (k := 10) rfl fRX8_9 rfl rfl rfl ?_
  refine u_iloadn (k := 11) rfl rfl ?_
  refine a_iconst (k := 12) rfl ?_
  refine u_iast (k := 13) rfl rfl rfl (by omega) ?_
  refine u_aloadn (k := 14) rfl rfl ?_
  refine a_getr (k := 15) rfl fRX8_15 rfl rfl rfl ?_
  refine u_iloadn (k := 16) rfl rfl ?_
  refine a_iconst (k := 17) rfl ?_
  refine u_iast (k := 18) rfl rfl rfl (by omega) ?_
  refine u_aloadn (k := 19) rfl rfl ?_
  refine a_iconst (k := 20) rfl ?_
  refine a_puti (k := 21) rfl pRX8_30 rfl rfl ?_
  refine u_aloadn (k := 22) rfl rfl ?_
  refine u_aloadn (k := 23) rfl rfl ?_
  refine a_geti (k := 24) rfl fRX8_34 rfl rfl ?_
  simp only [put_apply, Nat.reduceEqDiff, reduceIte, false_and, and_false, true_and, and_true, and_self, if_false, if_true, not_false_eq_true, not_true_eq_false, ne_eq]
  rw [b2 5 j 2 (by simp) (by simp), hR.1]
  refine a_puti (k := 25) rfl pRX8_37 rfl rfl ?_
  refine u_aloadn (k := 26) rfl rfl ?_
  refine a_iconst (k := 27) rfl ?_
  refine a_puti (k := 28) rfl pRX8_40 rfl rfl ?_
  refine u_aloadn (k := 29) rfl rfl ?_
  refine a_iconst (k := 30) rfl ?_
  refine a_puti (k := 31) rfl pRX8_43 rfl rfl ?_
  refine u_iloadn (k := 32) rfl rfl ?_
  refine a_istore (k := 33) (lv' := [(4, _), (3, _), (0, _), (1, _), (2, _)]) rfl (Nat.le_of_ble_eq_true rfl) rfl ?_
  refine a_sub [2, 3, 4, 1, 0] rfl ?_
  have e1 : (((2 ^ c - 1 : Nat) : Int)) = ((2 ^ c : Nat) : Int) - 1 := by omega
  refine a_eq (L (2 ^ c) ((ui (fun _ => -1) (2 ^ c - 1) 0, ui (h 24 0) (2 ^ c - 1) (-1)), (0, (c : Int), 0, -1)) _ (Nat.le_refl _) (fun T hT => ?_) (fun T hT => ?_) ⟨by simp only [put_apply, Nat.reduceEqDiff, reduceIte, false_and, and_false, true_and, and_true, and_self, if_false, if_true, not_false_eq_true, not_true_eq_false, ne_eq]; rfl, by simp only [put_apply, Nat.reduceEqDiff, reduceIte, false_and, and_false, true_and, and_true, and_self, if_false, if_true, not_false_eq_true, not_true_eq_false, ne_eq], by simp only [put_apply, Nat.reduceEqDiff, reduceIte, false_and, and_false, true_and, and_true, and_self, if_false, if_true, not_false_eq_true, not_true_eq_false, ne_eq], by simp only [put_apply, Nat.reduceEqDiff, reduceIte, false_and, and_false, true_and, and_true, and_self, if_false, if_true, not_false_eq_true, not_true_eq_false, ne_eq]⟩ (by simp) ?_) rfl (by rw [e1]; rfl) rfl rfl
  · refine ⟨?_, ?_⟩
    · simp only [put_apply, Nat.reduceEqDiff, reduceIte, false_and, and_false, true_and, and_true, and_self, if_false, if_true, not_false_eq_true, not_true_eq_false, ne_eq]
      unfold ui
      by_cases he : T = 2 ^ c - 1
      · simp [he]
      · simp [he]; exact b1 T hT
    · simp only [put_apply, Nat.reduceEqDiff, reduceIte, false_and, and_false, true_and, and_true, and_self, if_false, if_true, not_false_eq_true, not_true_eq_false, ne_eq]
      unfold ui
      by_cases he : T = 2 ^ c - 1
      · simp [he]
      · simp [he]; exact b2 24 0 T (by simp) (by simp)
  · unfold ui
    dsimp only
    split <;> omega
  · exact ((((((b2.mono (by simp [tsh]) (by simp)).p1 (by simp [tsh])).p1 (by simp [tsh])).p1 (by simp [tsh])).p1 (by simp [tsh])).p1 (by simp [tsh])).p1 (by simp [tsh])
