theorem VT_swf {c S : Nat} {f : Nat → Nat} (hV : VT c f) : VT c (swf f S) := by
  refine ⟨fun i hi => ?_, fun i k hi hk he => ?_⟩
  · have h1 := swf_div f S i
    have h2 := hV.1 i hi
    omega
  · have h1 := swf_div f S i
    have h2 := swf_div f S k
    have h3 := swf_mod f S i
    have h4 := swf_mod f S k
    rw [he] at h1 h3
    have e1 : f i / 2 = f k / 2 := by omega
    rw [e1] at h3
    refine hV.2 i k hi hk ?_
    split at h3 <;> simp_all <;> omega
theorem swf_swf (f : Nat → Nat) (S q : Nat) : swf (swf f S) S q = f q := by
  have h1 := swf_div (swf f S) S q
  have h2 := swf_div f S q
  have h3 := swf_mod (swf f S) S q
  have h4 := swf_mod f S q
  rw [h2, h4] at h3
  have : swf (swf f S) S q % 2 = f q % 2 := by
    rw [h3]
    split <;> omega
  omega
def tso : List (Nat × Nat) := [(50, 0), (53, 0), (54, 0), (55, 0), (56, 0), (57, 0)]
noncomputable def isu (F : Nat → Nat) (c S : Nat) : Bool := decide ((r_try (c, 0, swf F S) (fun _ => 0)).2.1 = 0)
theorem m_isOut (c s S : Nat) (F : Nat → Nat) (h : HH) (h8 : c ≤ 8) (hV : VT c F) (hR : RW (2 * c) F s h) (hS : S < 2 ^ 31) :
    Sp mX11_isOut [vr 40 0, vi S] h (fun z g => z = some (vi (b01 (isu F c S))) ∧ RW (2 * c) F s g ∧ Fr tso ksk h g) := by
  refine Sp.of rfl kX11_isOut (Nat.le_of_ble_eq_true rfl) ?_
  have e : b01 (isu F c S) = if (r_try (c, 0, swf F S) (fun _ => 0)).2.1 = 0 then 1 else 0 := by
    unfold isu b01
    by_cases hh : (r_try (c, 0, swf F S) (fun _ => 0)).2.1 = 0
    · rw [decide_eq_true hh, if_pos hh]; rfl
    · rw [decide_eq_false hh, if_neg hh]; rfl
  refine u_aloadn (k := 0) rfl rfl ?_
  refine u_iloadn (k := 1) rfl rfl ?_
  refine uv_virt1 (M' := mX11_turns) (k := 2) rfl lRX11_239 oX11_turns vX11_turns ⟨Nat.le_of_ble_eq_true rfl, Nat.le_of_ble_eq_true rfl⟩ rfl rfl (Nat.le_of_ble_eq_true rfl) (m_turns _ _ S _ h (by omega) hS hR (hV.b h8)) (by intro r g hp; exact hp.1) (fun g1 hg1 => ?_)
  obtain ⟨-, hR1, hF1⟩ := hg1
  refine u_aloadn (k := 3) rfl rfl ?_
  refine a_iconst (k := 4) rfl ?_
  refine a_iconst (k := 5) rfl ?_
  refine ui_virt2 (M' := mX11_shaken) (k := 6) rfl lRX11_219 oX11_shaken vX11_shaken ⟨Nat.le_of_ble_eq_true rfl, Nat.le_of_ble_eq_true rfl⟩ rfl rfl (Nat.le_of_ble_eq_true rfl) (m_shaken c s 0 0 (swf F S) g1 h8 (VT_swf hV) hR1 (by omega)) (by intro r g hp; exact ⟨_, hp.1⟩) (fun z g2 hg2 => ?_)
  obtain ⟨hz, hF2⟩ := hg2; cases hz
  have hR2 : RW (2 * c) (swf F S) s g2 := hR1.keep (hF2 40 0 20 (by simp [tsk]) (by simp [ksk])) (hF2 40 0 24 (by simp [tsk]) (by simp [ksk])) (fun k => hF2 50 0 k (by simp [tsk]) (by simp [ksk]))
  refine a_istoren (k := 7) (lv' := [(2, _), (0, _), (1, _)]) rfl (Nat.le_of_ble_eq_true rfl) rfl ?_
  refine u_aloadn (k := 8) rfl rfl ?_
  refine u_iloadn (k := 9) rfl rfl ?_
  refine uv_virt1 (M' := mX11_turns) (k := 10) rfl lRX11_239 oX11_turns vX11_turns ⟨Nat.le_of_ble_eq_true rfl, Nat.le_of_ble_eq_true rfl⟩ rfl rfl (Nat.le_of_ble_eq_true rfl) (m_turns _ _ S _ g2 (by omega) hS hR2 ((VT_swf hV).b h8)) (by intro r g hp; exact hp.1) (fun g3 hg3 => ?_)
  obtain ⟨-, hR3, hF3⟩ := hg3
  refine u_iloadn (k := 11) rfl rfl ?_
  refine a_if_ne (k := 12) rfl (fun c_18 => ?_) (fun c_18 => ?_)
  · refine a_iconst (k := 15) rfl ?_
    refine a_zreturn (k := 16) rfl rfl (by omega) ?_
    have hfr : Fr tso ksk h g3 := ((hF1.mono (by simp [tso]) (by simp)).tr hF2 (by simp [tso, tsk]) (by simp [ksk])).tr hF3 (by simp [tso]) (by simp)
    have c18 := c_18
    unfold pkw at c18
    rw [if_pos rfl] at c18
    first
      | exact ⟨by rw [e, if_pos c18], hR3.cong (fun i _ => swf_swf F S i), hfr⟩
      | exact ⟨by rw [e, if_neg c18], hR3.cong (fun i _ => swf_swf F S i), hfr⟩
  · refine a_iconst (k := 13) rfl ?_
    refine a_goto (k := 14) rfl ?_
    refine a_zreturn (k := 16) rfl rfl (by omega) ?_
    have hfr : Fr tso ksk h g3 := ((hF1.mono (by simp [tso]) (by simp)).tr hF2 (by simp [tso, tsk]) (by simp [ksk])).tr hF3 (by simp [tso]) (by simp)
    have c18 := c_18
    unfold pkw at c18
    rw [if_pos rfl] at c18
    first
      | exact ⟨by rw [e, if_pos c18], hR3.cong (fun i _ => swf_swf F S i), hfr⟩
      | exact ⟨by rw [e, if_neg c18], hR3.cong (fun i _ => swf_swf F S i), hfr⟩
theorem tso_tr {h g g' : HH} (h1 : Fr tso ksk h g) (h2 : Fr tso ksk g g') : Fr tso ksk h g' := h1.tr h2 (fun _ q => q) (fun _ q => Or.inl q)
theorem m_weak (c s : Nat) (F : Nat → Nat) (h : HH) (h8 : c ≤ 8) (hV : VT c F) (hR : RW (2 * c) F s h) :
    Sp mX11_weak [vr 40 0] h (fun z g => z = some (vi (setT (fun d => isu F c (2 ^ d)) c : Int)) ∧ Fr tso ksk h g) := by
  refine Sp.of rfl kX11_weak (Nat.le_of_ble_eq_true rfl) ?_
  have Lp : ∀ (d q : Nat) (g : HH), q + d = c → RW (2 * c) F s g → Fr tso ksk h g → AW mX11_weak (fun z g => z = some (vi (setT (fun d => isu F c (2 ^ d)) c : Int)) ∧ Fr tso ksk h g) 4 [(2, vi q), (1, vi (setT (fun d => isu F c (2 ^ d)) q : Int)), (0, vr 40 0)] [] g := by
    intro d
    induction d with
    | zero =>
      intro q g hq hR hF
      refine u_iloadn (k := 4) rfl rfl ?_
      refine u_aloadn (k := 5) rfl rfl ?_
      refine a_geti (k := 6) rfl fRX11_156 rfl rfl ?_
      refine a_iconst (k := 7) rfl ?_
      rw [hR.1]
      refine u_idiv (k := 8) rfl (by omega) (by omega) ?_
      refine a_icmp_ge (k := 9) rfl (fun c_11 => ?_) (fun c_11 => ?_)
      · refine u_iloadn (k := 26) rfl rfl ?_
        refine a_ireturn (k := 27) rfl rfl ?_
        exact ⟨by rw [show q = c by omega], hF⟩
      · omega
    | succ d ih =>
      intro q g hq hR hF
      have hlt := setT_lt (fun d => isu F c (2 ^ d)) q
      have hpq : 2 ^ q ≤ 2 ^ 8 := Nat.pow_le_pow_right (by omega) (by omega)
      have es : setT (fun d => isu F c (2 ^ d)) (q + 1) = if isu F c (2 ^ q) then setT (fun d => isu F c (2 ^ d)) q ||| 2 ^ q else setT (fun d => isu F c (2 ^ d)) q := rfl
      refine u_iloadn (k := 4) rfl rfl ?_
      refine u_aloadn (k := 5) rfl rfl ?_
      refine a_geti (k := 6) rfl fRX11_156 rfl rfl ?_
      refine a_iconst (k := 7) rfl ?_
      rw [hR.1]
      refine u_idiv (k := 8) rfl (by omega) (by omega) ?_
      refine a_icmp_ge (k := 9) rfl (fun c_11 => ?_) (fun c_11 => ?_)
      · omega
      · refine u_iloadn (k := 10) rfl rfl ?_
        refine u_aloadn (k := 11) rfl rfl ?_
        refine a_iconst (k := 12) rfl ?_
        refine u_iloadn (k := 13) rfl rfl ?_
        refine a_ishl (k := 14) rfl ?_
        rw [shl1 (by omega)]
        refine ui_virt1 (M' := mX11_isOut) (k := 15) rfl lRX11_242 oX11_isOut vX11_isOut ⟨Nat.le_of_ble_eq_true rfl, Nat.le_of_ble_eq_true rfl⟩ rfl rfl (Nat.le_of_ble_eq_true rfl) (m_isOut c s (2 ^ q) F g h8 hV hR (by omega)) (by intro r g hp; exact ⟨_, hp.1⟩) (fun z g2 hg2 => ?_)
        obtain ⟨hz, hR2, hF2⟩ := hg2; cases hz
        refine a_if_eq (k := 16) rfl (fun c_22 => ?_) (fun c_22 => ?_)
        · refine a_iconst (k := 21) rfl ?_
          refine a_ior (k := 22) rfl ?_
          first
            | rw [ior_nat (by omega) (by omega)]
            | rw [show ior (setT (fun d => isu F c (2 ^ d)) q : Int) 0 = (setT (fun d => isu F c (2 ^ d)) q : Int) from (ior_nat (b := 0) (by omega) (by omega)).trans (by rw [Nat.or_zero])]
          refine a_istoren (k := 23) (lv' := [(1, _), (2, _), (0, _)]) rfl (Nat.le_of_ble_eq_true rfl) rfl ?_
          refine u_iinc (k := 24) (lv' := [(2, _), (1, _), (0, _)]) rfl rfl (Nat.le_of_ble_eq_true rfl) (by omega) rfl ?_
          refine a_goto (k := 25) rfl ?_
          have := ih (q + 1) g2 (by omega) hR2 (tso_tr hF hF2)
          rw [es] at this
          first
            | (rw [if_pos (b01_t c_22)] at this; exact this)
            | (rw [b01_f c_22, if_neg (by decide)] at this; exact this)
        · refine a_iconst (k := 17) rfl ?_
          refine u_iloadn (k := 18) rfl rfl ?_
          refine a_ishl (k := 19) rfl ?_
          rw [shl1 (by omega)]
          refine a_goto (k := 20) rfl ?_
          refine a_ior (k := 22) rfl ?_
          first
            | rw [ior_nat (by omega) (by omega)]
            | rw [show ior (setT (fun d => isu F c (2 ^ d)) q : Int) 0 = (setT (fun d => isu F c (2 ^ d)) q : Int) from (ior_nat (b := 0) (by omega) (by omega)).trans (by rw [Nat.or_zero])]
          refine a_istoren (k := 23) (lv' := [(1, _), (2, _), (0, _)]) rfl (Nat.le_of_ble_eq_true rfl) rfl ?_
          refine u_iinc (k := 24) (lv' := [(2, _), (1, _), (0, _)]) rfl rfl (Nat.le_of_ble_eq_true rfl) (by omega) rfl ?_
          refine a_goto (k := 25) rfl ?_
          have := ih (q + 1) g2 (by omega) hR2 (tso_tr hF hF2)
          rw [es] at this
          first
            | (rw [if_pos (b01_t c_22)] at this; exact this)
            | (rw [b01_f c_22, if_neg (by decide)] at this; exact this)
  refine a_iconst (k := 0) rfl ?_
  refine a_istoren (k := 1) (lv' := [(1, _), (0, _)]) rfl (Nat.le_of_ble_eq_true rfl) rfl ?_
  refine a_iconst (k := 2) rfl ?_
  refine a_istoren (k := 3) (lv' := [(2, _), (1, _), (0, _)]) rfl (Nat.le_of_ble_eq_true rfl) rfl ?_
  exact Lp c 0 h (by omega) hR Fr.rf
noncomputable def fnd (F : Nat → Nat) (c : Nat) : Nat → Option Nat
  | 0 => none
  | k + 1 => match fnd F c k with
    | none => if isu F c k then some k else none
    | some b => if pct k 8 < pct b 8 ∧ isu F c k = true then some k else some b
theorem fnd_lt {F : Nat → Nat} {c : Nat} : ∀ {k b : Nat}, fnd F c k = some b → b < k
  | 0, b, h => by cases h
  | k + 1, b, h => by
    unfold fnd at h
    cases hf : fnd F c k with
    | none =>
      rw [hf] at h
      dsimp only at h
      split at h
      · cases h; omega
      · cases h
    | some e =>
      rw [hf] at h
      dsimp only at h
      have := fnd_lt hf
      split at h <;> cases h <;> omega
theorem m_switches (c s : Nat) (F : Nat → Nat) (h : HH) (h8 : c ≤ 8) (hV : VT c F) (hR : RW (2 * c) F s h) :
    Sp mX11_switches [vr 40 0] h (fun z g => z = some (vi (oi (fnd F c (2 ^ c)))) ∧ Fr tso ksk h g) := by
  have hq8 : 2 ^ c ≤ 256 := Nat.pow_le_pow_right (n := 2) (by omega) h8
  refine Sp.of rfl kX11_switches (Nat.le_of_ble_eq_true rfl) ?_
  have Lp : ∀ (d q : Nat) (g : HH), q + d = 2 ^ c → RW (2 * c) F s g → Fr tso ksk h g → AW mX11_switches (fun z g => z = some (vi (oi (fnd F c (2 ^ c)))) ∧ Fr tso ksk h g) 4 [(2, vi q), (1, vi (oi (fnd F c q))), (0, vr 40 0)] [] g := by
    intro d
    induction d with
    | zero =>
      intro q g hq hR hF
      refine u_iloadn (k := 4) rfl rfl ?_
      refine a_iconst (k := 5) rfl ?_
      refine u_aloadn (k := 6) rfl rfl ?_
      refine a_geti (k := 7) rfl fRX11_156 rfl rfl ?_
      refine a_iconst (k := 8) rfl ?_
      rw [hR.1]
      refine u_idiv (k := 9) rfl (by omega) (by omega) ?_
      rw [show (((2 * c : Nat) : Int) / 2) = (c : Int) by omega]
      refine a_ishl (k := 10) rfl ?_
      rw [shl1 (by omega)]
      refine a_icmp_ge (k := 11) rfl (fun c_13 => ?_) (fun c_13 => ?_)
      · refine u_iloadn (k := 27) rfl rfl ?_
        refine a_ireturn (k := 28) rfl rfl ?_
        exact ⟨by rw [show q = 2 ^ c by omega], hF⟩
      · omega
    | succ d ih =>
      intro q g hq hR hF
      have next : ∀ (g2 : HH) (v : Int), RW (2 * c) F s g2 → Fr tso ksk h g2 → v = oi (fnd F c (q + 1)) → AW mX11_switches (fun z g => z = some (vi (oi (fnd F c (2 ^ c)))) ∧ Fr tso ksk h g) 41 [(2, vi q), (1, vi v), (0, vr 40 0)] [] g2 := by
        intro g2 v hR2 hF2 hv
        subst hv
        refine u_iinc (k := 25) (lv' := [(2, _), (1, _), (0, _)]) rfl rfl (Nat.le_of_ble_eq_true rfl) (by omega) rfl ?_
        refine a_goto (k := 26) rfl ?_
        exact ih (q + 1) g2 (by omega) hR2 hF2
      have es : fnd F c (q + 1) = match fnd F c q with | none => (if isu F c q then some q else none) | some b => (if pct q 8 < pct b 8 ∧ isu F c q = true then some q else some b) := rfl
      cases hf : fnd F c q with
      | none =>
        rw [hf] at es
        dsimp only at es
        refine u_iloadn (k := 4) rfl rfl ?_
        refine a_iconst (k := 5) rfl ?_
        refine u_aloadn (k := 6) rfl rfl ?_
        refine a_geti (k := 7) rfl fRX11_156 rfl rfl ?_
        refine a_iconst (k := 8) rfl ?_
        rw [hR.1]
        refine u_idiv (k := 9) rfl (by omega) (by omega) ?_
        rw [show (((2 * c : Nat) : Int) / 2) = (c : Int) by omega]
        refine a_ishl (k := 10) rfl ?_
        rw [shl1 (by omega)]
        refine a_icmp_ge (k := 11) rfl (fun c_13 => ?_) (fun c_13 => ?_)
        · omega
        · refine u_iloadn (k := 12) rfl rfl ?_
          refine a_if_lt (k := 13) rfl (fun c_17 => ?_) (fun c_17 => ?_)
          · refine u_aloadn (k := 19) rfl rfl ?_
            refine u_iloadn (k := 20) rfl rfl ?_
            refine ui_virt1 (M' := mX11_isOut) (k := 21) rfl lRX11_242 oX11_isOut vX11_isOut ⟨Nat.le_of_ble_eq_true rfl, Nat.le_of_ble_eq_true rfl⟩ rfl rfl (Nat.le_of_ble_eq_true rfl) (m_isOut c s q F g h8 hV hR (by omega)) (by intro r g hp; exact ⟨_, hp.1⟩) (fun z g2 hg2 => ?_)
            obtain ⟨hz, hR2, hF2⟩ := hg2; cases hz
            refine a_if_eq (k := 22) rfl (fun c_36 => ?_) (fun c_36 => ?_)
            · first
                | exact next g2 _ hR2 (tso_tr hF hF2) (by rw [es, if_pos (b01_t c_36)]; rfl)
                | exact next g2 _ hR2 (tso_tr hF hF2) (by rw [es, b01_f c_36, if_neg (by decide)])
            · refine u_iloadn (k := 23) rfl rfl ?_
              refine a_istoren (k := 24) (lv' := [(1, _), (2, _), (0, _)]) rfl (Nat.le_of_ble_eq_true rfl) rfl ?_
              refine a_sub [1, 0, 2] rfl ?_
              first
                | exact next g2 _ hR2 (tso_tr hF hF2) (by rw [es, if_pos (b01_t c_36)]; rfl)
                | exact next g2 _ hR2 (tso_tr hF hF2) (by rw [es, b01_f c_36, if_neg (by decide)])
          · exact absurd (show oi none < 0 by decide) c_17
      | some b =>
        have hb := fnd_lt hf
        rw [hf] at es
        dsimp only at es
        refine u_iloadn (k := 4) rfl rfl ?_
        refine a_iconst (k := 5) rfl ?_
        refine u_aloadn (k := 6) rfl rfl ?_
        refine a_geti (k := 7) rfl fRX11_156 rfl rfl ?_
        refine a_iconst (k := 8) rfl ?_
        rw [hR.1]
        refine u_idiv (k := 9) rfl (by omega) (by omega) ?_
        rw [show (((2 * c : Nat) : Int) / 2) = (c : Int) by omega]
        refine a_ishl (k := 10) rfl ?_
        rw [shl1 (by omega)]
        refine a_icmp_ge (k := 11) rfl (fun c_13 => ?_) (fun c_13 => ?_)
        · omega
        · refine u_iloadn (k := 12) rfl rfl ?_
          refine a_if_lt (k := 13) rfl (fun c_17 => ?_) (fun c_17 => ?_)
          · exfalso; have : oi (some b) = (b : Int) := rfl
            omega
          · refine u_iloadn (k := 14) rfl rfl ?_
            refine i_stat1 (M' := mX11_bits) (k := 15) rfl lRX11_203 oX11_bits vX11_bits ⟨Nat.le_of_ble_eq_true rfl, Nat.le_of_ble_eq_true rfl⟩ rfl (Nat.le_of_ble_eq_true rfl) (m_bits q g (by omega)) ?_
            refine u_iloadn (k := 16) rfl rfl ?_
            rw [show oi (some b) = (b : Int) from rfl]
            refine i_stat1 (M' := mX11_bits) (k := 17) rfl lRX11_203 oX11_bits vX11_bits ⟨Nat.le_of_ble_eq_true rfl, Nat.le_of_ble_eq_true rfl⟩ rfl (Nat.le_of_ble_eq_true rfl) (m_bits b g (by omega)) ?_
            refine a_icmp_ge (k := 18) rfl (fun c_28 => ?_) (fun c_28 => ?_)
            · exact next g _ hR hF (by rw [es, if_neg (by omega)]; rfl)
            · refine u_aloadn (k := 19) rfl rfl ?_
              refine u_iloadn (k := 20) rfl rfl ?_
              refine ui_virt1 (M' := mX11_isOut) (k := 21) rfl lRX11_242 oX11_isOut vX11_isOut ⟨Nat.le_of_ble_eq_true rfl, Nat.le_of_ble_eq_true rfl⟩ rfl rfl (Nat.le_of_ble_eq_true rfl) (m_isOut c s q F g h8 hV hR (by omega)) (by intro r g hp; exact ⟨_, hp.1⟩) (fun z g2 hg2 => ?_)
              obtain ⟨hz, hR2, hF2⟩ := hg2; cases hz
              refine a_if_eq (k := 22) rfl (fun c_36 => ?_) (fun c_36 => ?_)
              · first
                  | exact next g2 _ hR2 (tso_tr hF hF2) (by rw [es, if_pos ⟨by omega, b01_t c_36⟩]; rfl)
                  | exact next g2 _ hR2 (tso_tr hF hF2) (by rw [es, b01_f c_36, if_neg (by simp)]; rfl)
              · refine u_iloadn (k := 23) rfl rfl ?_
                refine a_istoren (k := 24) (lv' := [(1, _), (2, _), (0, _)]) rfl (Nat.le_of_ble_eq_true rfl) rfl ?_
                refine a_sub [1, 0, 2] rfl ?_
                first
                  | exact next g2 _ hR2 (tso_tr hF hF2) (by rw [es, if_pos ⟨by omega, b01_t c_36⟩]; rfl)
                  | exact next g2 _ hR2 (tso_tr hF hF2) (by rw [es, b01_f c_36, if_neg (by simp)]; rfl)
  refine a_iconst (k := 0) rfl ?_
  refine a_istoren (k := 1) (lv' := [(1, _), (0, _)]) rfl (Nat.le_of_ble_eq_true rfl) rfl ?_
  refine a_iconst (k := 2) rfl ?_
  refine a_istoren (k := 3) (lv' := [(2, _), (1, _), (0, _)]) rfl (Nat.le_of_ble_eq_true rfl) rfl ?_
  exact Lp (2 ^ c) 0 h (by omega) hR Fr.rf
theorem m_odd (c s : Nat) (F : Nat → Nat) (h : HH) (h8 : c ≤ 8) (hV : VT c F) (hR : RW (2 * c) F s h) :
    SpI mX11_odd [vr 40 0] h (setT (fun d => decide (pct (lys F d (2 * c)) 8 % 2 = 1)) c : Int) h := by
  refine Sp.of rfl kX11_odd (Nat.le_of_ble_eq_true rfl) ?_
  have Lp : ∀ (d q : Nat), q + d = c → AW mX11_odd (fun z g => z = some (vi (setT (fun d => decide (pct (lys F d (2 * c)) 8 % 2 = 1)) c : Int)) ∧ g = h) 4 [(2, vi q), (1, vi (setT (fun d => decide (pct (lys F d (2 * c)) 8 % 2 = 1)) q : Int)), (0, vr 40 0)] [] h := by
    intro d
    induction d with
    | zero =>
      intro q hq
      refine u_iloadn (k := 4) rfl rfl ?_
      refine u_aloadn (k := 5) rfl rfl ?_
      refine a_geti (k := 6) rfl fRX11_156 rfl rfl ?_
      refine a_iconst (k := 7) rfl ?_
      rw [hR.1]
      refine u_idiv (k := 8) rfl (by omega) (by omega) ?_
      refine a_icmp_ge (k := 9) rfl (fun c_11 => ?_) (fun c_11 => ?_)
      · refine u_iloadn (k := 28) rfl rfl ?_
        refine a_ireturn (k := 29) rfl rfl ?_
        exact ⟨by rw [show q = c by omega], rfl⟩
      · omega
    | succ d ih =>
      intro q hq
      have hlt := setT_lt (fun d => decide (pct (lys F d (2 * c)) 8 % 2 = 1)) q
      have hpq : 2 ^ q ≤ 2 ^ 8 := Nat.pow_le_pow_right (by omega) (by omega)
      have hl : lys F q (2 * c) < 2 ^ 8 := lys_lt (fun i hi => by have := hV.1 i hi; omega)
      have es : setT (fun d => decide (pct (lys F d (2 * c)) 8 % 2 = 1)) (q + 1) = if decide (pct (lys F q (2 * c)) 8 % 2 = 1) then setT (fun d => decide (pct (lys F d (2 * c)) 8 % 2 = 1)) q ||| 2 ^ q else setT (fun d => decide (pct (lys F d (2 * c)) 8 % 2 = 1)) q := rfl
      refine u_iloadn (k := 4) rfl rfl ?_
      refine u_aloadn (k := 5) rfl rfl ?_
      refine a_geti (k := 6) rfl fRX11_156 rfl rfl ?_
      refine a_iconst (k := 7) rfl ?_
      rw [hR.1]
      refine u_idiv (k := 8) rfl (by omega) (by omega) ?_
      refine a_icmp_ge (k := 9) rfl (fun c_11 => ?_) (fun c_11 => ?_)
      · omega
      · refine u_iloadn (k := 10) rfl rfl ?_
        refine u_aloadn (k := 11) rfl rfl ?_
        refine u_iloadn (k := 12) rfl rfl ?_
        refine i_virt1 (M' := mX11_inside) (k := 13) rfl lRX11_245 oX11_inside vX11_inside ⟨Nat.le_of_ble_eq_true rfl, Nat.le_of_ble_eq_true rfl⟩ rfl rfl (Nat.le_of_ble_eq_true rfl) (m_inside (2 * c) s q F h (by omega) hR (hV.s h8)) ?_
        refine i_stat1 (M' := mX11_bits) (k := 14) rfl lRX11_203 oX11_bits vX11_bits ⟨Nat.le_of_ble_eq_true rfl, Nat.le_of_ble_eq_true rfl⟩ rfl (Nat.le_of_ble_eq_true rfl) (m_bits _ h (by omega)) ?_
        refine a_iconst (k := 15) rfl ?_
        refine u_irem (k := 16) rfl (by omega) (by omega) ?_
        refine a_iconst (k := 17) rfl ?_
        refine a_icmp_ne (k := 18) rfl (fun c_26 => ?_) (fun c_26 => ?_)
        · refine a_iconst (k := 23) rfl ?_
          refine a_ior (k := 24) rfl ?_
          first
            | rw [ior_nat (by omega) (by omega)]
            | rw [show ior (setT (fun d => decide (pct (lys F d (2 * c)) 8 % 2 = 1)) q : Int) 0 = (setT (fun d => decide (pct (lys F d (2 * c)) 8 % 2 = 1)) q : Int) from (ior_nat (b := 0) (by omega) (by omega)).trans (by rw [Nat.or_zero])]
          refine a_istoren (k := 25) (lv' := [(1, _), (2, _), (0, _)]) rfl (Nat.le_of_ble_eq_true rfl) rfl ?_
          refine u_iinc (k := 26) (lv' := [(2, _), (1, _), (0, _)]) rfl rfl (Nat.le_of_ble_eq_true rfl) (by omega) rfl ?_
          refine a_goto (k := 27) rfl ?_
          have := ih (q + 1) (by omega)
          rw [es] at this
          first
            | (rw [if_pos (decide_eq_true (by omega))] at this; exact this)
            | (rw [decide_eq_false (by omega), if_neg (by decide)] at this; exact this)
        · refine a_iconst (k := 19) rfl ?_
          refine u_iloadn (k := 20) rfl rfl ?_
          refine a_ishl (k := 21) rfl ?_
          rw [shl1 (by omega)]
          refine a_goto (k := 22) rfl ?_
          refine a_ior (k := 24) rfl ?_
          first
            | rw [ior_nat (by omega) (by omega)]
            | rw [show ior (setT (fun d => decide (pct (lys F d (2 * c)) 8 % 2 = 1)) q : Int) 0 = (setT (fun d => decide (pct (lys F d (2 * c)) 8 % 2 = 1)) q : Int) from (ior_nat (b := 0) (by omega) (by omega)).trans (by rw [Nat.or_zero])]
          refine a_istoren (k := 25) (lv' := [(1, _), (2, _), (0, _)]) rfl (Nat.le_of_ble_eq_true rfl) rfl ?_
          refine u_iinc (k := 26) (lv' := [(2, _), (1, _), (0, _)]) rfl rfl (Nat.le_of_ble_eq_true rfl) (by omega) rfl ?_
          refine a_goto (k := 27) rfl ?_
          have := ih (q + 1) (by omega)
          rw [es] at this
          first
            | (rw [if_pos (decide_eq_true (by omega))] at this; exact this)
            | (rw [decide_eq_false (by omega), if_neg (by decide)] at this; exact this)
  refine a_iconst (k := 0) rfl ?_
  refine a_istoren (k := 1) (lv' := [(1, _), (0, _)]) rfl (Nat.le_of_ble_eq_true rfl) rfl ?_
  refine a_iconst (k := 2) rfl ?_
  refine a_istoren (k := 3) (lv' := [(2, _), (1, _), (0, _)]) rfl (Nat.le_of_ble_eq_true rfl) rfl ?_
  exact Lp c 0 (by omega)
