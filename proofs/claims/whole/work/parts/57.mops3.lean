theorem m_curls {B : Nat} {τ : AS} {g : HH} (hW : WA B τ) (hM : MR τ g) {k : Nat} (hk : k < τ.now.1) (a o : Nat) (ha : a ≤ 2 * (τ.now.2.2 k).1) (ho : o < 2) (hc : (τ.now.2.2 k).1 < 8) : Sp mX11_curls [vr 40 0, vi k, vi a, vi o] g (fun z g' => z = none ∧ MR (τ.setR k (r_curl (τ.now.2.2 k) a o)) g' ∧ FMo g g' ∧ RM (2 + 18 * k) (r_curl (τ.now.2.2 k) a o) g') := by
  have h5 := hW.now.1
  have hWr := hW.now.2.2 k hk
  have h8 := hWr.1
  have hs := (p8 h8).2
  have hs2 := hWr.2.1
  generalize hcc : (τ.now.2.2 k).1 = c at *
  generalize hff : (τ.now.2.2 k).2.2 = f at *
  generalize hss : (τ.now.2.2 k).2.1 = s at *
  refine Sp.of rfl kX11_curls (Nat.le_of_ble_eq_true rfl) ?_
  have fin : ∀ (g2 : HH) (z : Int), g2 40 0 20 = ((2 * c : Nat) : Int) → g2 40 0 24 = (s : Int) → (∀ i, i < 2 * c → i < a → g2 50 0 i = (f i : Int)) → (∀ i, a + 2 ≤ i → i < 2 * c + 2 → g2 50 0 i = (f (i - 2) : Int)) → Fr [(50, 0)] [(40, 0, 20), (40, 0, 24)] g g2 → AW mX11_curls (fun z g' => z = none ∧ MR (τ.setR k (r_curl (τ.now.2.2 k) a o)) g' ∧ FMo g g' ∧ RM (2 + 18 * k) (r_curl (τ.now.2.2 k) a o) g') 49 [(5, vi z), (4, vi c), (0, vr 40 0), (1, vi k), (2, vi a), (3, vi o)] [] g2 := by
    intro g2 z h20 h24 hlo hhi hF
    have T101 : ∀ g3 : HH, RW (2 * (c + 1)) (insf f c a o) s g3 → Fr [(50, 0)] [(40, 0, 20), (40, 0, 24)] g g3 → AW mX11_curls (fun z g' => z = none ∧ MR (τ.setR k (r_curl (τ.now.2.2 k) a o)) g' ∧ FMo g g' ∧ RM (2 + 18 * k) (r_curl (τ.now.2.2 k) a o) g') 101 [(5, vi z), (4, vi c), (0, vr 40 0), (1, vi k), (2, vi a), (3, vi o)] [] g3 := by
      intro g3 hR3 hF3
      have hV := VT_insf hWr.2.2.1 (a := a) (o := o) (by rw [hcc]; exact ha) ho
      rw [hcc, hff] at hV
      refine u_aloadn (k := 62) rfl rfl ?_
      refine u_iloadn (k := 63) rfl rfl ?_
      refine uv_virt1 (M' := mX11_stores) (k := 64) rfl lRX11_162 oX11_stores vX11_stores ⟨Nat.le_of_ble_eq_true rfl, Nat.le_of_ble_eq_true rfl⟩ rfl rfl (Nat.le_of_ble_eq_true rfl) (m_put (r_curl (τ.now.2.2 k) a o) hW (hM.scr hW (Fs_of hF3 (by simp [tms]) (by simp [kms]))) hk (by omega) (by omega) hR3 (hV.b (by omega)) (by unfold r_curl; rw [hcc]) (by unfold r_curl; rw [hcc, hff, hss]) (fun _ _ => by unfold r_curl; rw [hcc, hff])) (by intro r g hp; exact hp.1) (fun g4 hg4 => ?_)
      obtain ⟨-, hM4, hF4, hRM4⟩ := hg4
      refine a_return (k := 65) rfl rfl ?_
      exact ⟨rfl, hM4, (Fr.mo hF3 (by simp) (by simp)).tr (Fq.mo hF4 (by simp) (by simp)), hRM4⟩
    have rows : ∀ (x y : Int), x = ((2 * c + o : Nat) : Int) → y = ((2 * c + (1 - o) : Nat) : Int) → RW (2 * (c + 1)) (insf f c a o) s (put (put (put g2 50 0 a x) 50 0 (a + 1) y) 40 0 20 ((2 * c : Nat) + 2)) := by
      intro x y hx hy
      refine ⟨by rw [put_eq]; omega, by simp only [put_apply, Nat.reduceEqDiff, reduceIte, false_and, and_false, true_and, and_true, and_self, if_false, if_true, not_false_eq_true, not_true_eq_false, ne_eq]; exact h24, fun i hi => ?_⟩
      unfold insf
      rw [put_ne (by simp)]
      by_cases e1 : i = a + 1
      · subst e1
        rw [put_eq, if_neg (by omega), if_neg (by omega), if_pos rfl]
        exact hy
      · rw [put_ne (by simp [e1])]
        by_cases e2 : i = a
        · subst e2
          rw [put_eq, if_neg (by omega), if_pos rfl]
          exact hx
        · rw [put_ne (by simp [e2])]
          by_cases e3 : i < a
          · rw [if_pos e3]; exact hlo i (by omega) e3
          · rw [if_neg e3, if_neg e2, if_neg e1]; exact hhi i (by omega) (by omega)
    refine u_aloadn (k := 28) rfl rfl ?_
    refine a_getr (k := 29) rfl fRX11_42 rfl rfl rfl ?_
    refine u_iloadn (k := 30) rfl rfl ?_
    refine a_iconst (k := 31) rfl ?_
    refine u_iload (k := 32) rfl rfl ?_
    refine u_imul (k := 33) rfl (by omega) ?_
    refine u_iloadn (k := 34) rfl rfl ?_
    refine a_if_eq (k := 35) rfl (fun c_59 => ?_) (fun c_59 => ?_)
    · refine a_iconst (k := 38) rfl ?_
      refine u_iadd (k := 39) rfl (by omega) ?_
      refine u_iast (k := 40) rfl rfl rfl (by omega) ?_
      refine u_aloadn (k := 41) rfl rfl ?_
      refine a_getr (k := 42) rfl fRX11_42 rfl rfl rfl ?_
      refine u_iloadn (k := 43) rfl rfl ?_
      refine a_iconst (k := 44) rfl ?_
      refine u_iadd (k := 45) rfl (by omega) ?_
      refine a_iconst (k := 46) rfl ?_
      refine u_iload (k := 47) rfl rfl ?_
      refine u_imul (k := 48) rfl (by omega) ?_
      refine u_iloadn (k := 49) rfl rfl ?_
      refine a_if_eq (k := 50) rfl (fun c_81 => ?_) (fun c_81 => ?_)
      · refine a_iconst (k := 53) rfl ?_
        refine u_iadd (k := 54) rfl (by omega) ?_
        refine u_iastx (a + 1) (k := 55) rfl rfl rfl (by omega) (by omega) ?_
        refine u_aloadn (k := 56) rfl rfl ?_
        refine a_dup (k := 57) rfl rfl ?_
        refine a_geti (k := 58) rfl fRX11_156 rfl rfl ?_
        rw [put_ne (by simp), put_ne (by simp), h20]
        refine a_iconst (k := 59) rfl ?_
        refine u_iadd (k := 60) rfl (by omega) ?_
        refine a_puti (k := 61) rfl pRX11_156 rfl rfl ?_
        exact T101 _ (rows _ _ (by omega) (by omega)) (((hF.p1 (by simp)).p1 (by simp)).p2 (by simp))
      · refine a_iconst (k := 51) rfl ?_
        refine a_goto (k := 52) rfl ?_
        refine u_iadd (k := 54) rfl (by omega) ?_
        refine u_iastx (a + 1) (k := 55) rfl rfl rfl (by omega) (by omega) ?_
        refine u_aloadn (k := 56) rfl rfl ?_
        refine a_dup (k := 57) rfl rfl ?_
        refine a_geti (k := 58) rfl fRX11_156 rfl rfl ?_
        rw [put_ne (by simp), put_ne (by simp), h20]
        refine a_iconst (k := 59) rfl ?_
        refine u_iadd (k := 60) rfl (by omega) ?_
        refine a_puti (k := 61) rfl pRX11_156 rfl rfl ?_
        exact T101 _ (rows _ _ (by omega) (by omega)) (((hF.p1 (by simp)).p1 (by simp)).p2 (by simp))
    · refine a_iconst (k := 36) rfl ?_
      refine a_goto (k := 37) rfl ?_
      refine u_iadd (k := 39) rfl (by omega) ?_
      refine u_iast (k := 40) rfl rfl rfl (by omega) ?_
      refine u_aloadn (k := 41) rfl rfl ?_
      refine a_getr (k := 42) rfl fRX11_42 rfl rfl rfl ?_
      refine u_iloadn (k := 43) rfl rfl ?_
      refine a_iconst (k := 44) rfl ?_
      refine u_iadd (k := 45) rfl (by omega) ?_
      refine a_iconst (k := 46) rfl ?_
      refine u_iload (k := 47) rfl rfl ?_
      refine u_imul (k := 48) rfl (by omega) ?_
      refine u_iloadn (k := 49) rfl rfl ?_
      refine a_if_eq (k := 50) rfl (fun c_81 => ?_) (fun c_81 => ?_)
      · refine a_iconst (k := 53) rfl ?_
        refine u_iadd (k := 54) rfl (by omega) ?_
        refine u_iastx (a + 1) (k := 55) rfl rfl rfl (by omega) (by omega) ?_
        refine u_aloadn (k := 56) rfl rfl ?_
        refine a_dup (k := 57) rfl rfl ?_
        refine a_geti (k := 58) rfl fRX11_156 rfl rfl ?_
        rw [put_ne (by simp), put_ne (by simp), h20]
        refine a_iconst (k := 59) rfl ?_
        refine u_iadd (k := 60) rfl (by omega) ?_
        refine a_puti (k := 61) rfl pRX11_156 rfl rfl ?_
        exact T101 _ (rows _ _ (by omega) (by omega)) (((hF.p1 (by simp)).p1 (by simp)).p2 (by simp))
      · refine a_iconst (k := 51) rfl ?_
        refine a_goto (k := 52) rfl ?_
        refine u_iadd (k := 54) rfl (by omega) ?_
        refine u_iastx (a + 1) (k := 55) rfl rfl rfl (by omega) (by omega) ?_
        refine u_aloadn (k := 56) rfl rfl ?_
        refine a_dup (k := 57) rfl rfl ?_
        refine a_geti (k := 58) rfl fRX11_156 rfl rfl ?_
        rw [put_ne (by simp), put_ne (by simp), h20]
        refine a_iconst (k := 59) rfl ?_
        refine u_iadd (k := 60) rfl (by omega) ?_
        refine a_puti (k := 61) rfl pRX11_156 rfl rfl ?_
        exact T101 _ (rows _ _ (by omega) (by omega)) (((hF.p1 (by simp)).p1 (by simp)).p2 (by simp))
  have Lp : ∀ (d q : Nat) (g2 : HH), a + d = q → q ≤ 2 * c → g2 40 0 20 = ((2 * c : Nat) : Int) → g2 40 0 24 = (s : Int) → (∀ i, i < q → g2 50 0 i = (f i : Int)) → (∀ i, q + 2 ≤ i → i < 2 * c + 2 → g2 50 0 i = (f (i - 2) : Int)) → Fr [(50, 0)] [(40, 0, 20), (40, 0, 24)] g g2 → AW mX11_curls (fun z g' => z = none ∧ MR (τ.setR k (r_curl (τ.now.2.2 k) a o)) g' ∧ FMo g g' ∧ RM (2 + 18 * k) (r_curl (τ.now.2.2 k) a o) g') 21 [(5, vi ((q : Int) - 1)), (4, vi c), (0, vr 40 0), (1, vi k), (2, vi a), (3, vi o)] [] g2 := by
    intro d
    induction d with
    | zero =>
      intro q g2 hq hq2 h20 h24 hlo hhi hF
      refine u_iload (k := 13) rfl rfl ?_
      refine u_iloadn (k := 14) rfl rfl ?_
      refine a_icmp_lt (k := 15) rfl (fun c_24 => ?_) (fun c_24 => ?_)
      · exact fin g2 _ h20 h24 (fun i h1 h2 => hlo i (by omega)) (fun i h1 h2 => hhi i (by omega) h2) hF
      · omega
    | succ d ih =>
      intro q g2 hq hq2 h20 h24 hlo hhi hF
      have hv := hlo (q - 1) (by omega)
      refine u_iload (k := 13) rfl rfl ?_
      refine u_iloadn (k := 14) rfl rfl ?_
      refine a_icmp_lt (k := 15) rfl (fun c_24 => ?_) (fun c_24 => ?_)
      · omega
      · refine u_aloadn (k := 16) rfl rfl ?_
        refine a_getr (k := 17) rfl fRX11_42 rfl rfl rfl ?_
        refine u_iload (k := 18) rfl rfl ?_
        refine a_iconst (k := 19) rfl ?_
        refine u_iadd (k := 20) rfl (by omega) ?_
        refine u_aloadn (k := 21) rfl rfl ?_
        refine a_getr (k := 22) rfl fRX11_42 rfl rfl rfl ?_
        refine u_iload (k := 23) rfl rfl ?_
        refine u_ialdx (q - 1) (k := 24) rfl rfl rfl (by omega) (by omega) ?_
        rw [hv]
        refine u_iastx (q + 1) (k := 25) rfl rfl rfl (by omega) (by omega) ?_
        refine u_iinc (k := 26) (lv' := [(5, _), (4, _), (0, _), (1, _), (2, _), (3, _)]) rfl rfl (Nat.le_of_ble_eq_true rfl) (by omega) rfl ?_
        refine a_goto (k := 27) rfl ?_
        have := ih (q - 1) (put g2 50 0 (q + 1) (f (q - 1) : Int)) (by omega) (by omega) (by simp only [put_apply, Nat.reduceEqDiff, reduceIte, false_and, and_false, true_and, and_true, and_self, if_false, if_true, not_false_eq_true, not_true_eq_false, ne_eq]; exact h20) (by simp only [put_apply, Nat.reduceEqDiff, reduceIte, false_and, and_false, true_and, and_true, and_self, if_false, if_true, not_false_eq_true, not_true_eq_false, ne_eq]; exact h24) (fun i hi => by rw [put_ne (by simp; omega)]; exact hlo i (by omega)) (fun i h1 h2 => ?_) (hF.p1 (by simp))
        · rw [show (((q - 1 : Nat) : Int) - 1) = ((q : Int) - 1 + -1) by omega] at this
          exact this
        · by_cases he : i = q + 1
          · subst he; rw [put_eq, show q + 1 - 2 = q - 1 by omega]
          · rw [put_ne (by simp [he])]; exact hhi i (by omega) h2
  refine u_aloadn (k := 0) rfl rfl ?_
  refine u_iloadn (k := 1) rfl rfl ?_
  refine uv_virt1 (M' := mX11_loads) (k := 2) rfl lRX11_211 oX11_loads vX11_loads ⟨Nat.le_of_ble_eq_true rfl, Nat.le_of_ble_eq_true rfl⟩ rfl rfl (Nat.le_of_ble_eq_true rfl) (m_loads k _ g (by omega) (by omega) (hM.slot hk)) (by intro r g hp; exact hp.1) (fun g2 hg2 => ?_)
  obtain ⟨-, hR2, hF2⟩ := hg2; rw [hcc, hff, hss] at hR2
  refine u_aloadn (k := 3) rfl rfl ?_
  refine a_geti (k := 4) rfl fRX11_156 rfl rfl ?_
  rw [hR2.1]
  refine a_iconst (k := 5) rfl ?_
  refine u_idiv (k := 6) rfl (by omega) (by omega) ?_
  refine a_istore (k := 7) (lv' := [(4, _), (0, _), (1, _), (2, _), (3, _)]) rfl (Nat.le_of_ble_eq_true rfl) rfl ?_
  refine u_aloadn (k := 8) rfl rfl ?_
  refine a_geti (k := 9) rfl fRX11_156 rfl rfl ?_
  rw [hR2.1]
  refine a_iconst (k := 10) rfl ?_
  refine u_isub (k := 11) rfl (by omega) ?_
  refine a_istore (k := 12) (lv' := [(5, _), (4, _), (0, _), (1, _), (2, _), (3, _)]) rfl (Nat.le_of_ble_eq_true rfl) rfl ?_
  have := Lp (2 * c - a) (2 * c) g2 (by omega) (by omega) hR2.1 hR2.2.1 hR2.2.2 (fun i h1 h2 => by omega) hF2
  rw [show (((2 * c : Nat) : Int) / 2) = (c : Int) by omega]
  exact this
theorem n_curl {B : Nat} {σ : AS} {h : HH} (hW : WA B σ) (hM : MR σ h) (k i : Int) (o : Bool) : Sp mX11_curl [vr 40 0, vi k, vi i, vi (b01 o)] h (MP (o_curl σ k i o) h) := by
  rcases kcase k σ.now.1 with hk | ⟨q, rfl, hk⟩
  · rw [show o_curl σ k i o = _ from on_no hk]
    refine Sp.of rfl kX11_curl (Nat.le_of_ble_eq_true rfl) ?_
    refine u_aloadn (k := 0) rfl rfl ?_
    refine u_iloadn (k := 1) rfl rfl ?_
    refine i_virt1 (M' := mX11_isOne) (k := 2) rfl lRX11_206 oX11_isOne vX11_isOne ⟨Nat.le_of_ble_eq_true rfl, Nat.le_of_ble_eq_true rfl⟩ rfl rfl (Nat.le_of_ble_eq_true rfl) (hM.one hW k) ?_
    rw [one_no hk]
    refine a_if_ne (k := 3) rfl (fun c_5 => ?_) (fun c_5 => ?_)
    · exact absurd rfl c_5
    · refine a_ldc (k := 4) rfl nRX11_210 ⟨by decide, by decide⟩ ?_
      refine a_ireturn (k := 5) rfl rfl ?_
      exact ⟨rfl, hM, FMo.rf⟩
  · have h5 := hW.now.1
    have h8 := (hW.now.2.2 q hk).1
    rw [show o_curl σ (q : Int) i o = _ from on_yes hk]
    obtain ⟨b1, b2⟩ := b01_n o
    by_cases hi : 0 ≤ i ∧ i ≤ 2 * ((σ.now.2.2 q).1 : Int)
    · obtain ⟨e, rfl⟩ : ∃ e : Nat, i = (e : Int) := ⟨i.toNat, by omega⟩
      rw [if_pos hi, Int.toNat_natCast]
      by_cases hf : (σ.now.2.2 q).1 < 8
      · rw [if_pos hf]
        refine Sp.of rfl kX11_curl (Nat.le_of_ble_eq_true rfl) ?_
        refine u_aloadn (k := 0) rfl rfl ?_
        refine u_iloadn (k := 1) rfl rfl ?_
        refine i_virt1 (M' := mX11_isOne) (k := 2) rfl lRX11_206 oX11_isOne vX11_isOne ⟨Nat.le_of_ble_eq_true rfl, Nat.le_of_ble_eq_true rfl⟩ rfl rfl (Nat.le_of_ble_eq_true rfl) (hM.one hW q) ?_
        rw [one_yes hk]
        refine a_if_ne (k := 3) rfl (fun c_5 => ?_) (fun c_5 => ?_)
        · refine u_iloadn (k := 6) rfl rfl ?_
          refine a_i2l (k := 7) rfl ?_
          refine a_lconst (k := 8) rfl ?_
          refine u_aloadn (k := 9) rfl rfl ?_
          refine u_iloadn (k := 10) rfl rfl ?_
          refine i_virt1 (M' := mX11_passes) (k := 11) rfl lRX11_89 oX11_passes vX11_passes ⟨Nat.le_of_ble_eq_true rfl, Nat.le_of_ble_eq_true rfl⟩ rfl rfl (Nat.le_of_ble_eq_true rfl) (m_passes q _ h (by omega) (hM.slot hk)) ?_
          refine a_i2l (k := 12) rfl ?_
          refine i_stat3 (M' := mX11_in) (k := 13) rfl lRX11_81 oX11_in vX11_in ⟨Nat.le_of_ble_eq_true rfl, Nat.le_of_ble_eq_true rfl⟩ rfl (Nat.le_of_ble_eq_true rfl) (m_in e 0 _ h) ?_
          rw [inb_t (by omega)]
          refine a_if_ne (k := 14) rfl (fun c_23 => ?_) (fun c_23 => ?_)
          · refine u_aloadn (k := 17) rfl rfl ?_
            refine u_iloadn (k := 18) rfl rfl ?_
            refine i_virt1 (M' := mX11_crossings) (k := 19) rfl lRX11_92 oX11_crossings vX11_crossings ⟨Nat.le_of_ble_eq_true rfl, Nat.le_of_ble_eq_true rfl⟩ rfl rfl (Nat.le_of_ble_eq_true rfl) (m_crossings q _ h (by omega) (hM.slot hk)) ?_
            refine a_bipush (k := 20) rfl ?_
            refine a_icmp_ne (k := 21) rfl (fun c_36 => ?_) (fun c_36 => ?_)
            · refine u_aloadn (k := 24) rfl rfl ?_
              refine uv_virt0 (M' := mX11_known) (k := 25) rfl lRX11_280 oX11_known vX11_known ⟨Nat.le_of_ble_eq_true rfl, Nat.le_of_ble_eq_true rfl⟩ rfl rfl (Nat.le_of_ble_eq_true rfl) (m_known hW hM) (by intro r g hp; exact hp.1) (fun g1 hg1 => ?_)
              obtain ⟨-, hM1, hF1⟩ := hg1
              refine u_aloadn (k := 26) rfl rfl ?_
              refine u_iloadn (k := 27) rfl rfl ?_
              refine u_iloadn (k := 28) rfl rfl ?_
              refine u_iloadn (k := 29) rfl rfl ?_
              rw [b1]
              refine uv_virt3 (M' := mX11_curls) (k := 30) rfl lRX11_286 oX11_curls vX11_curls ⟨Nat.le_of_ble_eq_true rfl, Nat.le_of_ble_eq_true rfl⟩ rfl rfl (Nat.le_of_ble_eq_true rfl) (m_curls hW.rem hM1 hk e _ (show e ≤ 2 * (σ.now.2.2 q).1 by omega) b2 hf) (by intro r g hp; exact hp.1) (fun g2 hg2 => ?_)
              obtain ⟨-, hM2, hF2, hRM⟩ := hg2
              refine u_aloadn (k := 31) rfl rfl ?_
              refine u_iloadn (k := 32) rfl rfl ?_
              refine i_virt1 (M' := mX11_crossings) (k := 33) rfl lRX11_92 oX11_crossings vX11_crossings ⟨Nat.le_of_ble_eq_true rfl, Nat.le_of_ble_eq_true rfl⟩ rfl rfl (Nat.le_of_ble_eq_true rfl) (m_crossings q _ g2 (by omega) hRM) ?_
              refine a_ireturn (k := 34) rfl rfl ?_
              exact ⟨rfl, hM2, (FK.mo hF1).tr hF2⟩
            · omega
          · exact absurd c_23 (by decide)
        · exact absurd c_5 (by decide)
      · rw [if_neg hf]
        refine Sp.of rfl kX11_curl (Nat.le_of_ble_eq_true rfl) ?_
        refine u_aloadn (k := 0) rfl rfl ?_
        refine u_iloadn (k := 1) rfl rfl ?_
        refine i_virt1 (M' := mX11_isOne) (k := 2) rfl lRX11_206 oX11_isOne vX11_isOne ⟨Nat.le_of_ble_eq_true rfl, Nat.le_of_ble_eq_true rfl⟩ rfl rfl (Nat.le_of_ble_eq_true rfl) (hM.one hW q) ?_
        rw [one_yes hk]
        refine a_if_ne (k := 3) rfl (fun c_5 => ?_) (fun c_5 => ?_)
        · refine u_iloadn (k := 6) rfl rfl ?_
          refine a_i2l (k := 7) rfl ?_
          refine a_lconst (k := 8) rfl ?_
          refine u_aloadn (k := 9) rfl rfl ?_
          refine u_iloadn (k := 10) rfl rfl ?_
          refine i_virt1 (M' := mX11_passes) (k := 11) rfl lRX11_89 oX11_passes vX11_passes ⟨Nat.le_of_ble_eq_true rfl, Nat.le_of_ble_eq_true rfl⟩ rfl rfl (Nat.le_of_ble_eq_true rfl) (m_passes q _ h (by omega) (hM.slot hk)) ?_
          refine a_i2l (k := 12) rfl ?_
          refine i_stat3 (M' := mX11_in) (k := 13) rfl lRX11_81 oX11_in vX11_in ⟨Nat.le_of_ble_eq_true rfl, Nat.le_of_ble_eq_true rfl⟩ rfl (Nat.le_of_ble_eq_true rfl) (m_in e 0 _ h) ?_
          rw [inb_t (by omega)]
          refine a_if_ne (k := 14) rfl (fun c_23 => ?_) (fun c_23 => ?_)
          · refine u_aloadn (k := 17) rfl rfl ?_
            refine u_iloadn (k := 18) rfl rfl ?_
            refine i_virt1 (M' := mX11_crossings) (k := 19) rfl lRX11_92 oX11_crossings vX11_crossings ⟨Nat.le_of_ble_eq_true rfl, Nat.le_of_ble_eq_true rfl⟩ rfl rfl (Nat.le_of_ble_eq_true rfl) (m_crossings q _ h (by omega) (hM.slot hk)) ?_
            refine a_bipush (k := 20) rfl ?_
            refine a_icmp_ne (k := 21) rfl (fun c_36 => ?_) (fun c_36 => ?_)
            · omega
            · refine a_ldc (k := 22) rfl nRX11_101 ⟨by decide, by decide⟩ ?_
              refine a_ireturn (k := 23) rfl rfl ?_
              exact ⟨rfl, hM, FMo.rf⟩
          · exact absurd c_23 (by decide)
        · exact absurd c_5 (by decide)
    · rw [if_neg hi]
      refine Sp.of rfl kX11_curl (Nat.le_of_ble_eq_true rfl) ?_
      refine u_aloadn (k := 0) rfl rfl ?_
      refine u_iloadn (k := 1) rfl rfl ?_
      refine i_virt1 (M' := mX11_isOne) (k := 2) rfl lRX11_206 oX11_isOne vX11_isOne ⟨Nat.le_of_ble_eq_true rfl, Nat.le_of_ble_eq_true rfl⟩ rfl rfl (Nat.le_of_ble_eq_true rfl) (hM.one hW q) ?_
      rw [one_yes hk]
      refine a_if_ne (k := 3) rfl (fun c_5 => ?_) (fun c_5 => ?_)
      · refine u_iloadn (k := 6) rfl rfl ?_
        refine a_i2l (k := 7) rfl ?_
        refine a_lconst (k := 8) rfl ?_
        refine u_aloadn (k := 9) rfl rfl ?_
        refine u_iloadn (k := 10) rfl rfl ?_
        refine i_virt1 (M' := mX11_passes) (k := 11) rfl lRX11_89 oX11_passes vX11_passes ⟨Nat.le_of_ble_eq_true rfl, Nat.le_of_ble_eq_true rfl⟩ rfl rfl (Nat.le_of_ble_eq_true rfl) (m_passes q _ h (by omega) (hM.slot hk)) ?_
        refine a_i2l (k := 12) rfl ?_
        refine i_stat3 (M' := mX11_in) (k := 13) rfl lRX11_81 oX11_in vX11_in ⟨Nat.le_of_ble_eq_true rfl, Nat.le_of_ble_eq_true rfl⟩ rfl (Nat.le_of_ble_eq_true rfl) (m_in i 0 _ h) ?_
        rw [inb_f (by omega)]
        refine a_if_ne (k := 14) rfl (fun c_23 => ?_) (fun c_23 => ?_)
        · exact absurd rfl c_23
        · refine a_ldc (k := 15) rfl nRX11_97 ⟨by decide, by decide⟩ ?_
          refine a_ireturn (k := 16) rfl rfl ?_
          exact ⟨rfl, hM, FMo.rf⟩
      · exact absurd c_5 (by decide)
def istwo (k q : Int) (n : Nat) : Bool := decide ((0 ≤ k ∧ k < n) ∧ (0 ≤ q ∧ q < n) ∧ k ≠ q)
theorem MR.two {B : Nat} {σ : AS} {h : HH} (hW : WA B σ) (hM : MR σ h) (k q : Int) : SpI mX11_isTwo [vr 40 0, vi k, vi q] h (b01 (istwo k q σ.now.1)) h := by
  have e : ∀ v : Int, (v = 1 ↔ ((0 ≤ k ∧ k < σ.now.1) ∧ (0 ≤ q ∧ q < σ.now.1) ∧ k ≠ q)) → (v = 0 ∨ v = 1) → v = b01 (istwo k q σ.now.1) := by
    intro v hv h01
    unfold istwo b01
    by_cases hh : (0 ≤ k ∧ k < σ.now.1) ∧ (0 ≤ q ∧ q < σ.now.1) ∧ k ≠ q
    · rw [decide_eq_true hh]
      exact hv.mpr hh
    · rw [decide_eq_false hh]
      have : v ≠ 1 := fun z => hh (hv.mp z)
      show v = 0
      omega
  have d1 : ∀ (z : Int), ¬ b01 (decide (0 ≤ z ∧ z < σ.now.1)) = 0 → 0 ≤ z ∧ z < σ.now.1 := fun z hz => of_decide_eq_true (b01_t hz)
  have d0 : ∀ (z : Int), b01 (decide (0 ≤ z ∧ z < σ.now.1)) = 0 → ¬ (0 ≤ z ∧ z < σ.now.1) := fun z hz => of_decide_eq_false (b01_f hz)
  refine Sp.of rfl kX11_isTwo (Nat.le_of_ble_eq_true rfl) ?_
  refine u_aloadn (k := 0) rfl rfl ?_
  refine u_iloadn (k := 1) rfl rfl ?_
  refine i_virt1 (M' := mX11_isOne) (k := 2) rfl lRX11_206 oX11_isOne vX11_isOne ⟨Nat.le_of_ble_eq_true rfl, Nat.le_of_ble_eq_true rfl⟩ rfl rfl (Nat.le_of_ble_eq_true rfl) (hM.one hW k) ?_
  refine a_if_eq (k := 3) rfl (fun c_5 => ?_) (fun c_5 => ?_)
  · have e5 := d0 _ c_5
    refine a_iconst (k := 13) rfl ?_
    refine a_zreturn (k := 14) rfl rfl (by omega) ?_
    first | exact ⟨by rw [← e 1 (by omega) (by omega)], rfl⟩ | exact ⟨by rw [← e 0 (by omega) (by omega)], rfl⟩
  · have e5 := d1 _ c_5
    refine u_aloadn (k := 4) rfl rfl ?_
    refine u_iloadn (k := 5) rfl rfl ?_
    refine i_virt1 (M' := mX11_isOne) (k := 6) rfl lRX11_206 oX11_isOne vX11_isOne ⟨Nat.le_of_ble_eq_true rfl, Nat.le_of_ble_eq_true rfl⟩ rfl rfl (Nat.le_of_ble_eq_true rfl) (hM.one hW q) ?_
    refine a_if_eq (k := 7) rfl (fun c_13 => ?_) (fun c_13 => ?_)
    · have e13 := d0 _ c_13
      refine a_iconst (k := 13) rfl ?_
      refine a_zreturn (k := 14) rfl rfl (by omega) ?_
      first | exact ⟨by rw [← e 1 (by omega) (by omega)], rfl⟩ | exact ⟨by rw [← e 0 (by omega) (by omega)], rfl⟩
    · have e13 := d1 _ c_13
      refine u_iloadn (k := 8) rfl rfl ?_
      refine u_iloadn (k := 9) rfl rfl ?_
      refine a_icmp_eq (k := 10) rfl (fun c_18 => ?_) (fun c_18 => ?_)
      · refine a_iconst (k := 13) rfl ?_
        refine a_zreturn (k := 14) rfl rfl (by omega) ?_
        first | exact ⟨by rw [← e 1 (by omega) (by omega)], rfl⟩ | exact ⟨by rw [← e 0 (by omega) (by omega)], rfl⟩
      · refine a_iconst (k := 11) rfl ?_
        refine a_goto (k := 12) rfl ?_
        refine a_zreturn (k := 14) rfl rfl (by omega) ?_
        first | exact ⟨by rw [← e 1 (by omega) (by omega)], rfl⟩ | exact ⟨by rw [← e 0 (by omega) (by omega)], rfl⟩
theorem n_join {B : Nat} {σ : AS} {h : HH} (hW : WA B σ) (hM : MR σ h) (k q : Int) : Sp mX11_join [vr 40 0, vi k, vi q] h (MP (o_join σ k q) h) := by
  by_cases ht : (0 ≤ k ∧ k < σ.now.1) ∧ (0 ≤ q ∧ q < σ.now.1) ∧ k ≠ q
  · obtain ⟨a, rfl⟩ : ∃ a : Nat, k = (a : Int) := ⟨k.toNat, by omega⟩
    obtain ⟨b, rfl⟩ : ∃ b : Nat, q = (b : Int) := ⟨q.toNat, by omega⟩
    have hk : a < σ.now.1 := by omega
    have hq : b < σ.now.1 := by omega
    have hab : a ≠ b := by omega
    have h5 := hW.now.1
    have hWa := hW.now.2.2 a hk
    have hWb := hW.now.2.2 b hq
    have h8a := hWa.1
    have h8b := hWb.1
    have hsa := (p8 h8a).2
    have hsb := (p8 h8b).2
    have hsa2 := hWa.2.1
    have hsb2 := hWb.2.1
    have hit : istwo (a : Int) (b : Int) σ.now.1 = true := decide_eq_true ht
    rw [show o_join σ (a : Int) (b : Int) = _ from two_yes hk hq hab]
    by_cases hc : (σ.now.2.2 a).1 + (σ.now.2.2 b).1 ≤ 8
    · rw [if_pos hc]
      have hWj : WR (r_app (σ.now.2.2 a) (σ.now.2.2 b)) := WR_app hWa hWb hc
      have hsh : (σ.now.2.2 b).2.1 * 2 ^ (σ.now.2.2 a).1 < 2 ^ 31 := by
        have := Nat.mul_lt_mul_of_pos_right hsb2 (show 0 < 2 ^ (σ.now.2.2 a).1 from Nat.pow_pos (by omega))
        rw [← Nat.pow_add] at this
        have h2 : 2 ^ ((σ.now.2.2 b).1 + (σ.now.2.2 a).1) ≤ 2 ^ 31 := Nat.pow_le_pow_right (by omega) (by omega)
        omega
      have hsj : (σ.now.2.2 a).2.1 ||| (σ.now.2.2 b).2.1 <<< (σ.now.2.2 a).1 < 256 := by
        have h1 : (σ.now.2.2 a).2.1 ||| (σ.now.2.2 b).2.1 <<< (σ.now.2.2 a).1 < 2 ^ ((σ.now.2.2 a).1 + (σ.now.2.2 b).1) := hWj.2.1
        have h2 : 2 ^ ((σ.now.2.2 a).1 + (σ.now.2.2 b).1) ≤ 2 ^ 8 := Nat.pow_le_pow_right (by omega) hc
        omega
      have T90 : ∀ (g2 : HH) (z : Int), MR σ.rem g2 → g2 40 0 24 = ((σ.now.2.2 a).2.1 : Int) → (∀ i, i < 2 * ((σ.now.2.2 a).1 + (σ.now.2.2 b).1) → g2 50 0 i = (apf (σ.now.2.2 a).2.2 (σ.now.2.2 b).2.2 (σ.now.2.2 a).1 i : Int)) → FMo h g2 → AW mX11_join (MP ((((σ.now.2.2 a).1 + (σ.now.2.2 b).1 : Nat) : Int), (σ.rem.setR a (r_app (σ.now.2.2 a) (σ.now.2.2 b))).setR b r_plain) h) 90 [(4, vi z), (3, vi ((2 * (σ.now.2.2 a).1 : Nat) : Int)), (0, vr 40 0), (1, vi a), (2, vi b)] [] g2 := by
        intro g2 z hM2 h24 hrow hfm
        have hMx : MR σ.rem (put (put g2 40 0 20 ((2 * ((σ.now.2.2 a).1 + (σ.now.2.2 b).1) : Nat) : Int)) 40 0 24 (((σ.now.2.2 a).2.1 ||| (σ.now.2.2 b).2.1 <<< (σ.now.2.2 a).1 : Nat) : Int)) := hM2.scr hW.rem ((Fr.rf.p2 (by simp [kms])).p2 (by simp [kms]))
        refine u_aloadn (k := 53) rfl rfl ?_
        refine u_iloadn (k := 54) rfl rfl ?_
        refine u_aloadn (k := 55) rfl rfl ?_
        refine u_iloadn (k := 56) rfl rfl ?_
        refine i_virt1 (M' := mX11_passes) (k := 57) rfl lRX11_89 oX11_passes vX11_passes ⟨Nat.le_of_ble_eq_true rfl, Nat.le_of_ble_eq_true rfl⟩ rfl rfl (Nat.le_of_ble_eq_true rfl) (m_passes b (σ.now.2.2 b) g2 (by omega) (hM2.slot hq)) ?_
        refine u_iadd (k := 58) rfl (by omega) ?_
        rw [show (((2 * (σ.now.2.2 a).1 : Nat) : Int) + ((2 * (σ.now.2.2 b).1 : Nat) : Int)) = ((2 * ((σ.now.2.2 a).1 + (σ.now.2.2 b).1) : Nat) : Int) by omega]
        refine a_puti (k := 59) rfl pRX11_156 rfl rfl ?_
        refine u_aloadn (k := 60) rfl rfl ?_
        refine a_dup (k := 61) rfl rfl ?_
        refine a_geti (k := 62) rfl fRX11_159 rfl rfl ?_
        refine u_aloadn (k := 63) rfl rfl ?_
        refine a_getr (k := 64) rfl fRX11_7 rfl rfl rfl ?_
        refine u_aloadn (k := 65) rfl rfl ?_
        refine u_iloadn (k := 66) rfl rfl ?_
        refine i_virt1 (M' := mX11_base) (k := 67) rfl lRX11_85 oX11_base vX11_base ⟨Nat.le_of_ble_eq_true rfl, Nat.le_of_ble_eq_true rfl⟩ rfl rfl (Nat.le_of_ble_eq_true rfl) (m_base b _ (by omega)) ?_
        refine a_iconst (k := 68) rfl ?_
        refine u_iadd (k := 69) rfl (by omega) ?_
        refine u_ialdx (2 + 18 * b + 1) (k := 70) rfl rfl rfl (by omega) (by omega) ?_
        refine u_iloadn (k := 71) rfl rfl ?_
        refine a_iconst (k := 72) rfl ?_
        refine u_idiv (k := 73) rfl (by omega) (by omega) ?_
        rw [put_ne (by simp), put_ne (by simp), h24, show g2 41 0 (2 + 18 * b + 1) = ((σ.now.2.2 b).2.1 : Int) from (hM2.slot hq).2.1, show (((2 * (σ.now.2.2 a).1 : Nat) : Int) / 2) = ((σ.now.2.2 a).1 : Int) by omega]
        refine a_ishl (k := 74) rfl ?_
        rw [ishl_nat hsh (by omega)]
        refine a_ior (k := 75) rfl ?_
        rw [ior_nat (by omega) (by rw [Nat.shiftLeft_eq]; exact hsh)]
        refine a_puti (k := 76) rfl pRX11_159 rfl rfl ?_
        refine u_aloadn (k := 77) rfl rfl ?_
        refine u_iloadn (k := 78) rfl rfl ?_
        refine uv_virt1 (M' := mX11_stores) (k := 79) rfl lRX11_162 oX11_stores vX11_stores ⟨Nat.le_of_ble_eq_true rfl, Nat.le_of_ble_eq_true rfl⟩ rfl rfl (Nat.le_of_ble_eq_true rfl) (m_put (n := 2 * ((σ.now.2.2 a).1 + (σ.now.2.2 b).1)) (s := (σ.now.2.2 a).2.1 ||| (σ.now.2.2 b).2.1 <<< (σ.now.2.2 a).1) (F := apf (σ.now.2.2 a).2.2 (σ.now.2.2 b).2.2 (σ.now.2.2 a).1) (r_app (σ.now.2.2 a) (σ.now.2.2 b)) hW.rem hMx hk (by omega) hsj ⟨by simp only [put_apply, Nat.reduceEqDiff, reduceIte, false_and, and_false, true_and, and_true, and_self, if_false, if_true, not_false_eq_true, not_true_eq_false, ne_eq], by rw [put_eq], fun i hi => by simp only [put_apply, Nat.reduceEqDiff, reduceIte, false_and, and_false, true_and, and_true, and_self, if_false, if_true, not_false_eq_true, not_true_eq_false, ne_eq]; exact hrow i hi⟩ (hWj.2.2.1.b hc) rfl (rsl_WR hWj) (fun i hi => hWj.2.2.2 i hi)) (by intro r g hp; exact hp.1) (fun g4 hg4 => ?_)
        obtain ⟨-, hM4, hF4, hRM4⟩ := hg4
        refine u_aloadn (k := 80) rfl rfl ?_
        refine a_iconst (k := 81) rfl ?_
        refine a_puti (k := 82) rfl pRX11_156 rfl rfl ?_
        refine u_aloadn (k := 83) rfl rfl ?_
        refine a_iconst (k := 84) rfl ?_
        refine a_puti (k := 85) rfl pRX11_159 rfl rfl ?_
        refine u_aloadn (k := 86) rfl rfl ?_
        refine u_iloadn (k := 87) rfl rfl ?_
        refine uv_virt1 (M' := mX11_stores) (k := 88) rfl lRX11_162 oX11_stores vX11_stores ⟨Nat.le_of_ble_eq_true rfl, Nat.le_of_ble_eq_true rfl⟩ rfl rfl (Nat.le_of_ble_eq_true rfl) (m_put (n := 0) (s := 0) (F := fun _ => 0) r_plain (hW.rem.setR hWj) (hM4.scr (hW.rem.setR hWj) ((Fr.rf.p2 (by simp [kms])).p2 (by simp [kms]))) hq (by omega) (by omega) ⟨by simp only [put_apply, Nat.reduceEqDiff, reduceIte, false_and, and_false, true_and, and_true, and_self, if_false, if_true, not_false_eq_true, not_true_eq_false, ne_eq]; rfl, by rw [put_eq]; rfl, fun i hi => absurd hi (Nat.not_lt_zero i)⟩ (fun i hi => absurd hi (Nat.not_lt_zero i)) rfl rfl (fun i hi => absurd hi (Nat.not_lt_zero i))) (by intro r g hp; exact hp.1) (fun g5 hg5 => ?_)
        obtain ⟨-, hM5, hF5, hRM5⟩ := hg5
        refine u_aloadn (k := 89) rfl rfl ?_
        refine u_iloadn (k := 90) rfl rfl ?_
        refine i_virt1 (M' := mX11_crossings) (k := 91) rfl lRX11_92 oX11_crossings vX11_crossings ⟨Nat.le_of_ble_eq_true rfl, Nat.le_of_ble_eq_true rfl⟩ rfl rfl (Nat.le_of_ble_eq_true rfl) (m_crossings a (r_app (σ.now.2.2 a) (σ.now.2.2 b)) g5 (by omega) (by
          have := hM5.slot hk
          rw [show (((σ.rem.setR a (r_app (σ.now.2.2 a) (σ.now.2.2 b))).setR b r_plain).now.2.2 a) = r_app (σ.now.2.2 a) (σ.now.2.2 b) from (un_ne _ _ hab).trans (un_eq _ _ _)] at this
          exact this)) ?_
        refine a_ireturn (k := 92) rfl rfl ?_
        exact ⟨rfl, hM5, ((((hfm.pt (by omega)).pt (by omega)).tr (Fq.mo hF4 (by simp) (by simp))).pt (by omega) |>.pt (by omega)).tr (Fq.mo hF5 (by simp) (by simp))⟩
      have Lp : ∀ (d r : Nat) (g2 : HH), r + d = 2 * (σ.now.2.2 b).1 → MR σ.rem g2 → g2 40 0 24 = ((σ.now.2.2 a).2.1 : Int) → (∀ i, i < 2 * (σ.now.2.2 a).1 + r → g2 50 0 i = (apf (σ.now.2.2 a).2.2 (σ.now.2.2 b).2.2 (σ.now.2.2 a).1 i : Int)) → FMo h g2 → AW mX11_join (MP ((((σ.now.2.2 a).1 + (σ.now.2.2 b).1 : Nat) : Int), (σ.rem.setR a (r_app (σ.now.2.2 a) (σ.now.2.2 b))).setR b r_plain) h) 48 [(4, vi r), (3, vi ((2 * (σ.now.2.2 a).1 : Nat) : Int)), (0, vr 40 0), (1, vi a), (2, vi b)] [] g2 := by
        intro d
        induction d with
        | zero =>
          intro r g2 hr hM2 h24 hrow hfm
          refine u_iload (k := 28) rfl rfl ?_
          refine u_aloadn (k := 29) rfl rfl ?_
          refine u_iloadn (k := 30) rfl rfl ?_
          refine i_virt1 (M' := mX11_passes) (k := 31) rfl lRX11_89 oX11_passes vX11_passes ⟨Nat.le_of_ble_eq_true rfl, Nat.le_of_ble_eq_true rfl⟩ rfl rfl (Nat.le_of_ble_eq_true rfl) (m_passes b (σ.now.2.2 b) g2 (by omega) (hM2.slot hq)) ?_
          refine a_icmp_ge (k := 32) rfl (fun c_55 => ?_) (fun c_55 => ?_)
          · exact T90 g2 _ hM2 h24 (fun i hi => hrow i (by omega)) hfm
          · exfalso; have e : ((2 * (σ.now.2.2 b).1 : Nat) : Int) ≤ (r : Int) := by omega
            exact c_55 e
        | succ d ih =>
          intro r g2 hr hM2 h24 hrow hfm
          have hv : g2 41 0 (2 + 18 * b + 2 + r) = ((σ.now.2.2 b).2.2 r : Int) := (hM2.slot hq).2.2 r (show r < 2 * (σ.now.2.2 b).1 by omega)
          have hlt := hWb.2.2.1.1 r (by omega)
          refine u_iload (k := 28) rfl rfl ?_
          refine u_aloadn (k := 29) rfl rfl ?_
          refine u_iloadn (k := 30) rfl rfl ?_
          refine i_virt1 (M' := mX11_passes) (k := 31) rfl lRX11_89 oX11_passes vX11_passes ⟨Nat.le_of_ble_eq_true rfl, Nat.le_of_ble_eq_true rfl⟩ rfl rfl (Nat.le_of_ble_eq_true rfl) (m_passes b (σ.now.2.2 b) g2 (by omega) (hM2.slot hq)) ?_
          refine a_icmp_ge (k := 32) rfl (fun c_55 => ?_) (fun c_55 => ?_)
          · exfalso; have e : ((2 * (σ.now.2.2 b).1 : Nat) : Int) ≤ (r : Int) := c_55
            omega
          · refine u_aloadn (k := 33) rfl rfl ?_
            refine a_getr (k := 34) rfl fRX11_42 rfl rfl rfl ?_
            refine u_iloadn (k := 35) rfl rfl ?_
            refine u_iload (k := 36) rfl rfl ?_
            refine u_iadd (k := 37) rfl (by omega) ?_
            refine u_aloadn (k := 38) rfl rfl ?_
            refine a_getr (k := 39) rfl fRX11_7 rfl rfl rfl ?_
            refine u_aloadn (k := 40) rfl rfl ?_
            refine u_iloadn (k := 41) rfl rfl ?_
            refine i_virt1 (M' := mX11_base) (k := 42) rfl lRX11_85 oX11_base vX11_base ⟨Nat.le_of_ble_eq_true rfl, Nat.le_of_ble_eq_true rfl⟩ rfl rfl (Nat.le_of_ble_eq_true rfl) (m_base b g2 (by omega)) ?_
            refine a_iconst (k := 43) rfl ?_
            refine u_iadd (k := 44) rfl (by omega) ?_
            refine u_iload (k := 45) rfl rfl ?_
            refine u_iadd (k := 46) rfl (by omega) ?_
            refine u_ialdx (2 + 18 * b + 2 + r) (k := 47) rfl rfl rfl (by omega) (by omega) ?_
            rw [hv]
            refine u_iloadn (k := 48) rfl rfl ?_
            refine u_iadd (k := 49) rfl (by omega) ?_
            refine u_iastx (2 * (σ.now.2.2 a).1 + r) (k := 50) rfl rfl rfl (by omega) (by omega) ?_
            refine u_iinc (k := 51) (lv' := [(4, _), (3, _), (0, _), (1, _), (2, _)]) rfl rfl (Nat.le_of_ble_eq_true rfl) (by omega) rfl ?_
            refine a_goto (k := 52) rfl ?_
            refine ih (r + 1) _ (by omega) (hM2.scr hW.rem (Fr.rf.p1 (by simp [tms]))) (by simp only [put_apply, Nat.reduceEqDiff, reduceIte, false_and, and_false, true_and, and_true, and_self, if_false, if_true, not_false_eq_true, not_true_eq_false, ne_eq]; exact h24) (fun i hi => ?_) (hfm.pt (by omega))
            by_cases he : i = 2 * (σ.now.2.2 a).1 + r
            · subst he; rw [put_eq, apf_hi]; omega
            · rw [put_ne (by simp [he])]; exact hrow i (by omega)
      refine Sp.of rfl kX11_join (Nat.le_of_ble_eq_true rfl) ?_
      refine u_aloadn (k := 0) rfl rfl ?_
      refine u_iloadn (k := 1) rfl rfl ?_
      refine u_iloadn (k := 2) rfl rfl ?_
      refine i_virt2 (M' := mX11_isTwo) (k := 3) rfl lRX11_267 oX11_isTwo vX11_isTwo ⟨Nat.le_of_ble_eq_true rfl, Nat.le_of_ble_eq_true rfl⟩ rfl rfl (Nat.le_of_ble_eq_true rfl) (hM.two hW a b) ?_
      rw [hit]
      refine a_if_ne (k := 4) rfl (fun c_6 => ?_) (fun c_6 => ?_)
      · refine u_aloadn (k := 7) rfl rfl ?_
        refine u_iloadn (k := 8) rfl rfl ?_
        refine i_virt1 (M' := mX11_crossings) (k := 9) rfl lRX11_92 oX11_crossings vX11_crossings ⟨Nat.le_of_ble_eq_true rfl, Nat.le_of_ble_eq_true rfl⟩ rfl rfl (Nat.le_of_ble_eq_true rfl) (m_crossings a _ h (by omega) (hM.slot hk)) ?_
        refine u_aloadn (k := 10) rfl rfl ?_
        refine u_iloadn (k := 11) rfl rfl ?_
        refine i_virt1 (M' := mX11_crossings) (k := 12) rfl lRX11_92 oX11_crossings vX11_crossings ⟨Nat.le_of_ble_eq_true rfl, Nat.le_of_ble_eq_true rfl⟩ rfl rfl (Nat.le_of_ble_eq_true rfl) (m_crossings b _ h (by omega) (hM.slot hq)) ?_
        refine u_iadd (k := 13) rfl (by omega) ?_
        refine a_bipush (k := 14) rfl ?_
        refine a_icmp_le (k := 15) rfl (fun c_25 => ?_) (fun c_25 => ?_)
        · refine u_aloadn (k := 18) rfl rfl ?_
          refine uv_virt0 (M' := mX11_known) (k := 19) rfl lRX11_280 oX11_known vX11_known ⟨Nat.le_of_ble_eq_true rfl, Nat.le_of_ble_eq_true rfl⟩ rfl rfl (Nat.le_of_ble_eq_true rfl) (m_known hW hM) (by intro r g hp; exact hp.1) (fun g1 hg1 => ?_)
          obtain ⟨-, hM1, hF1⟩ := hg1
          refine u_aloadn (k := 20) rfl rfl ?_
          refine u_iloadn (k := 21) rfl rfl ?_
          refine uv_virt1 (M' := mX11_loads) (k := 22) rfl lRX11_211 oX11_loads vX11_loads ⟨Nat.le_of_ble_eq_true rfl, Nat.le_of_ble_eq_true rfl⟩ rfl rfl (Nat.le_of_ble_eq_true rfl) (m_loads a _ g1 (by omega) h8a (hM1.slot hk)) (by intro r g hp; exact hp.1) (fun g2 hg2 => ?_)
          obtain ⟨-, hR2, hF2⟩ := hg2
          refine u_aloadn (k := 23) rfl rfl ?_
          refine a_geti (k := 24) rfl fRX11_156 rfl rfl ?_
          rw [show g2 40 0 20 = ((2 * (σ.now.2.2 a).1 : Nat) : Int) from hR2.1]
          refine a_istoren (k := 25) (lv' := [(3, _), (0, _), (1, _), (2, _)]) rfl (Nat.le_of_ble_eq_true rfl) rfl ?_
          refine a_iconst (k := 26) rfl ?_
          refine a_istore (k := 27) (lv' := [(4, _), (3, _), (0, _), (1, _), (2, _)]) rfl (Nat.le_of_ble_eq_true rfl) rfl ?_
          exact Lp (2 * (σ.now.2.2 b).1) 0 g2 (by omega) (hM1.scr hW.rem (Fs_of hF2 (by simp [tms]) (by simp [kms]))) hR2.2.1 (fun i hi => by rw [apf_lo (by omega)]; exact hR2.2.2 i hi) ((FK.mo hF1).tr (Fr.mo hF2 (by simp) (by simp)))
        · omega
      · exact absurd c_6 (by decide)
    · rw [if_neg hc]
      refine Sp.of rfl kX11_join (Nat.le_of_ble_eq_true rfl) ?_
      refine u_aloadn (k := 0) rfl rfl ?_
      refine u_iloadn (k := 1) rfl rfl ?_
      refine u_iloadn (k := 2) rfl rfl ?_
      refine i_virt2 (M' := mX11_isTwo) (k := 3) rfl lRX11_267 oX11_isTwo vX11_isTwo ⟨Nat.le_of_ble_eq_true rfl, Nat.le_of_ble_eq_true rfl⟩ rfl rfl (Nat.le_of_ble_eq_true rfl) (hM.two hW a b) ?_
      rw [hit]
      refine a_if_ne (k := 4) rfl (fun c_6 => ?_) (fun c_6 => ?_)
      · refine u_aloadn (k := 7) rfl rfl ?_
        refine u_iloadn (k := 8) rfl rfl ?_
        refine i_virt1 (M' := mX11_crossings) (k := 9) rfl lRX11_92 oX11_crossings vX11_crossings ⟨Nat.le_of_ble_eq_true rfl, Nat.le_of_ble_eq_true rfl⟩ rfl rfl (Nat.le_of_ble_eq_true rfl) (m_crossings a _ h (by omega) (hM.slot hk)) ?_
        refine u_aloadn (k := 10) rfl rfl ?_
        refine u_iloadn (k := 11) rfl rfl ?_
        refine i_virt1 (M' := mX11_crossings) (k := 12) rfl lRX11_92 oX11_crossings vX11_crossings ⟨Nat.le_of_ble_eq_true rfl, Nat.le_of_ble_eq_true rfl⟩ rfl rfl (Nat.le_of_ble_eq_true rfl) (m_crossings b _ h (by omega) (hM.slot hq)) ?_
        refine u_iadd (k := 13) rfl (by omega) ?_
        refine a_bipush (k := 14) rfl ?_
        refine a_icmp_le (k := 15) rfl (fun c_25 => ?_) (fun c_25 => ?_)
        · omega
        · refine a_ldc (k := 16) rfl nRX11_101 ⟨by decide, by decide⟩ ?_
          refine a_ireturn (k := 17) rfl rfl ?_
          exact ⟨rfl, hM, FMo.rf⟩
      · exact absurd c_6 (by decide)
  · rw [show o_join σ k q = (UNK, σ) from if_neg ht]
    have hit : istwo k q σ.now.1 = false := decide_eq_false ht
    refine Sp.of rfl kX11_join (Nat.le_of_ble_eq_true rfl) ?_
    refine u_aloadn (k := 0) rfl rfl ?_
    refine u_iloadn (k := 1) rfl rfl ?_
    refine u_iloadn (k := 2) rfl rfl ?_
    refine i_virt2 (M' := mX11_isTwo) (k := 3) rfl lRX11_267 oX11_isTwo vX11_isTwo ⟨Nat.le_of_ble_eq_true rfl, Nat.le_of_ble_eq_true rfl⟩ rfl rfl (Nat.le_of_ble_eq_true rfl) (hM.two hW k q) ?_
    rw [hit]
    refine a_if_ne (k := 4) rfl (fun c_6 => ?_) (fun c_6 => ?_)
    · exact absurd rfl c_6
    · refine a_ldc (k := 5) rfl nRX11_210 ⟨by decide, by decide⟩ ?_
      refine a_ireturn (k := 6) rfl rfl ?_
      exact ⟨rfl, hM, FMo.rf⟩
