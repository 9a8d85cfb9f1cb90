/-! the first colouring, by the reference -/
noncomputable def isw (r : Rp) (z : Nat → Nat) : Bool := @decide (Sol r 3 z ∧ ∃ j, j < r.1 ∧ z j ≠ z 0) (Classical.propDecidable _)
theorem isw_iff {r : Rp} {z : Nat → Nat} : isw r z = true ↔ Sol r 3 z ∧ ∃ j, j < r.1 ∧ z j ≠ z 0 := by
  unfold isw
  exact @decide_eq_true_iff _ (Classical.propDecidable _)
def eqj (r : Rp) (z : Nat → Nat) (j : Nat) : Prop := (3 : Int) ∣ 2 * (z (obO r (stx r j)) : Int) - (z j : Int) - (z (enp r.1 j) : Int)
theorem Sol_j {r : Rp} (h : WR r) {z : Nat → Nat} : Sol r 3 z ↔ ∀ j, j < r.1 → eqj r z j := by
  constructor
  · intro hh j hj
    obtain ⟨s1, s2⟩ := stx_ok h hj
    have := hh _ s1
    rw [s2] at this
    exact this
  · intro hh x hx
    have h2 := obB_lt h hx
    obtain ⟨s1, s2⟩ := stx_ok h h2
    have := hh _ h2
    unfold eqj at this
    rw [obB_inj h _ _ s1 hx s2] at this
    exact this
theorem m_isWay {r : Rp} (hW : WR r) (hc : 0 < r.1) (z : Nat → Nat) (h : HH) (hP : PT r h) (hz : ∀ j, j < r.1 → h 61 0 j = (z j : Int)) (h3 : ∀ j, j < r.1 → z j < 3) : SpI mX11_isWay [vr 40 0, vi (r.1 : Int)] h (b01 (isw r z)) h := by
  have h8 := hW.1
  refine Sp.of rfl kX11_isWay (Nat.le_of_ble_eq_true rfl) ?_
  have Lp : ∀ (d j : Nat) (b b3 : Bool), j + d = r.1 → (b = true ↔ ∀ i, i < j → z i = z 0) → (b3 = true ↔ ∀ i, i < j → eqj r z i) → AW mX11_isWay (fun v g => v = some (vi (b01 (isw r z))) ∧ g = h) 7 [(4, vi j), (3, vi (b01 b3)), (2, vi (b01 b)), (0, vr 40 0), (1, vi (r.1 : Int))] [] h := by
    intro d
    induction d with
    | zero =>
      intro j b b3 hj hb hb3
      have hj : j = r.1 := by omega
      subst hj
      have e : ∀ v : Int, (v = 1 ∧ b3 = true ∧ b = false) ∨ (v = 0 ∧ (b3 = false ∨ b = true)) → v = b01 (isw r z) := by
        intro v hv
        have hi := isw_iff (r := r) (z := z)
        rw [Sol_j hW] at hi
        rcases hv with ⟨rfl, k1, k2⟩ | ⟨rfl, k1⟩
        · have : isw r z = true := hi.mpr ⟨hb3.mp k1, Classical.byContradiction fun nz => by
            have : b = true := hb.mpr (fun i hi => Classical.byContradiction fun w => nz ⟨i, hi, w⟩)
            rw [k2] at this
            cases this⟩
          rw [this]; rfl
        · have : isw r z = false := by
            cases hw : isw r z with
            | false => rfl
            | true =>
              obtain ⟨w1, i, w2, w3⟩ := hi.mp hw
              rcases k1 with k1 | k1
              · rw [hb3.mpr w1] at k1; cases k1
              · exact absurd (hb.mp k1 i w2) w3
          rw [this]; rfl
      refine u_iload (k := 6) rfl rfl ?_
      refine u_iloadn (k := 7) rfl rfl ?_
      refine a_icmp_ge (k := 8) rfl (fun c_10 => ?_) (fun c_10 => ?_)
      · refine u_iloadn (k := 63) rfl rfl ?_
        refine a_if_eq (k := 64) rfl (fun c_104 => ?_) (fun c_104 => ?_)
        · have e104 := b01_f c_104
          refine a_iconst (k := 69) rfl ?_
          refine a_zreturn (k := 70) rfl rfl (by omega) ?_
          first
            | exact ⟨by rw [← e 1 (Or.inl ⟨rfl, e104, e108⟩)], rfl⟩
            | exact ⟨by rw [← e 0 (Or.inr ⟨rfl, Or.inr e108⟩)], rfl⟩
            | exact ⟨by rw [← e 0 (Or.inr ⟨rfl, Or.inl e104⟩)], rfl⟩
        · have e104 := b01_t c_104
          refine u_iloadn (k := 65) rfl rfl ?_
          refine a_if_ne (k := 66) rfl (fun c_108 => ?_) (fun c_108 => ?_)
          · have e108 := b01_t c_108
            refine a_iconst (k := 69) rfl ?_
            refine a_zreturn (k := 70) rfl rfl (by omega) ?_
            first
              | exact ⟨by rw [← e 1 (Or.inl ⟨rfl, e104, e108⟩)], rfl⟩
              | exact ⟨by rw [← e 0 (Or.inr ⟨rfl, Or.inr e108⟩)], rfl⟩
              | exact ⟨by rw [← e 0 (Or.inr ⟨rfl, Or.inl e104⟩)], rfl⟩
          · have e108 := b01_f c_108
            refine a_iconst (k := 67) rfl ?_
            refine a_goto (k := 68) rfl ?_
            refine a_zreturn (k := 70) rfl rfl (by omega) ?_
            first
              | exact ⟨by rw [← e 1 (Or.inl ⟨rfl, e104, e108⟩)], rfl⟩
              | exact ⟨by rw [← e 0 (Or.inr ⟨rfl, Or.inr e108⟩)], rfl⟩
              | exact ⟨by rw [← e 0 (Or.inr ⟨rfl, Or.inl e104⟩)], rfl⟩
      · omega
    | succ d ih =>
      intro j b b3 hj hb hb3
      obtain ⟨s1, s2⟩ := stx_ok hW (j := j) (by omega)
      have h60 : h 60 0 j = (stx r j : Int) := by have := hP.2 _ s1; rw [s2] at this; exact this
      have h59 := hP.1 _ s1
      have hO := obO_lt hW s1
      have hE := enp_lt (P := r.1) (b := j) (by omega)
      have hwm := wrap_m (b := j) (c := r.1) (by omega) (by omega)
      have hwm : ((j : Int) + (r.1 : Int) - 1) % (r.1 : Int) = (enp r.1 j : Int) := hwm
      have z1 := hz j (by omega)
      have z2 := hz 0 hc
      have z3 := hz _ hO
      have z4 := hz _ hE
      have y1 := h3 j (by omega)
      have y3 := h3 _ hO
      have y4 := h3 _ hE
      have T96 : ∀ (v : Int) (b4 b5 : Bool), v = b01 b5 → (b4 = true ↔ ∀ i, i < j + 1 → z i = z 0) → (b5 = true ↔ b3 = true ∧ eqj r z j) → AW mX11_isWay (fun v g => v = some (vi (b01 (isw r z))) ∧ g = h) 96 [(4, vi j), (3, vi (b01 b3)), (2, vi (b01 b4)), (0, vr 40 0), (1, vi (r.1 : Int))] [vi v] h := by
        intro v b4 b5 hv k1 k2
        subst hv
        refine a_istoren (k := 60) (lv' := [(3, _), (4, _), (2, _), (0, _), (1, _)]) rfl (Nat.le_of_ble_eq_true rfl) rfl ?_
        refine u_iinc (k := 61) (lv' := [(4, _), (3, _), (2, _), (0, _), (1, _)]) rfl rfl (Nat.le_of_ble_eq_true rfl) (by omega) rfl ?_
        refine a_goto (k := 62) rfl ?_
        refine ih (j + 1) b4 b5 (by omega) k1 ?_
        rw [k2, hb3]
        constructor
        · rintro ⟨w1, w2⟩ i hi
          by_cases he : i = j
          · subst he; exact w2
          · exact w1 i (by omega)
        · intro w
          exact ⟨fun i hi => w i (by omega), w j (by omega)⟩
      have T38 : ∀ (v : Int) (b4 : Bool), v = b01 b4 → (b4 = true ↔ b = true ∧ z j = z 0) → AW mX11_isWay (fun v g => v = some (vi (b01 (isw r z))) ∧ g = h) 38 [(4, vi j), (3, vi (b01 b3)), (2, vi (b01 b)), (0, vr 40 0), (1, vi (r.1 : Int))] [vi v] h := by
        intro v b4 hv k1
        subst hv
        have k2 : b4 = true ↔ ∀ i, i < j + 1 → z i = z 0 := by
          rw [k1, hb]
          constructor
          · rintro ⟨w1, w2⟩ i hi
            by_cases he : i = j
            · subst he; exact w2
            · exact w1 i (by omega)
          · intro w
            exact ⟨fun i hi => w i (by omega), w j (by omega)⟩
        refine a_istoren (k := 23) (lv' := [(2, _), (4, _), (3, _), (0, _), (1, _)]) rfl (Nat.le_of_ble_eq_true rfl) rfl ?_
        refine u_iloadn (k := 24) rfl rfl ?_
        refine a_if_eq (k := 25) rfl (fun c_40 => ?_) (fun c_40 => ?_)
        · have e40 := b01_f c_40
          refine a_iconst (k := 59) rfl ?_
          refine a_sub [1, 2, 0, 3, 4] rfl ?_
          first
            | exact T96 1 b4 true rfl k2 ⟨fun _ => ⟨e40, e88⟩, fun _ => rfl⟩
            | exact T96 0 b4 false rfl k2 ⟨fun w => (by cases w), fun w => absurd w.2 e88⟩
            | exact T96 0 b4 false rfl k2 ⟨fun w => (by cases w), fun w => by rw [e40] at w; cases w.1⟩
        · have e40 := b01_t c_40
          refine a_iconst (k := 26) rfl ?_
          refine u_aloadn (k := 27) rfl rfl ?_
          refine a_getr (k := 28) rfl fRX11_75 rfl rfl rfl ?_
          refine u_aloadn (k := 29) rfl rfl ?_
          refine a_getr (k := 30) rfl fRX11_69 rfl rfl rfl ?_
          refine u_aloadn (k := 31) rfl rfl ?_
          refine a_getr (k := 32) rfl fRX11_72 rfl rfl rfl ?_
          refine u_iload (k := 33) rfl rfl ?_
          refine u_iald (k := 34) rfl rfl rfl (by omega) ?_
          rw [h60]
          refine u_iald (k := 35) rfl rfl rfl (by omega) ?_
          rw [h59]
          refine u_iald (k := 36) rfl rfl rfl (by omega) ?_
          rw [z3]
          refine u_imul (k := 37) rfl (by omega) ?_
          refine u_aloadn (k := 38) rfl rfl ?_
          refine a_getr (k := 39) rfl fRX11_75 rfl rfl rfl ?_
          refine u_iload (k := 40) rfl rfl ?_
          refine u_iald (k := 41) rfl rfl rfl (by omega) ?_
          rw [z1]
          refine u_isub (k := 42) rfl (by omega) ?_
          refine u_aloadn (k := 43) rfl rfl ?_
          refine a_getr (k := 44) rfl fRX11_75 rfl rfl rfl ?_
          refine u_iload (k := 45) rfl rfl ?_
          refine u_iloadn (k := 46) rfl rfl ?_
          refine u_iadd (k := 47) rfl (by omega) ?_
          refine a_iconst (k := 48) rfl ?_
          refine u_isub (k := 49) rfl (by omega) ?_
          refine u_iloadn (k := 50) rfl rfl ?_
          refine u_irem (k := 51) rfl (by omega) (by omega) ?_
          rw [hwm]
          refine u_iald (k := 52) rfl rfl rfl (by omega) ?_
          rw [z4]
          refine u_isub (k := 53) rfl (by omega) ?_
          refine a_iconst (k := 54) rfl ?_
          refine i_stat2 (M' := mX11_left) (k := 55) rfl lRX11_226 oX11_left vX11_left ⟨Nat.le_of_ble_eq_true rfl, Nat.le_of_ble_eq_true rfl⟩ rfl (Nat.le_of_ble_eq_true rfl) (m_left _ 3 h (Or.inl rfl) (by omega) (by omega)) ?_
          refine a_if_ne (k := 56) rfl (fun c_88 => ?_) (fun c_88 => ?_)
          · have e88 : ¬ eqj r z j := fun w => c_88 (Int.emod_eq_zero_of_dvd w)
            refine a_iconst (k := 59) rfl ?_
            refine a_sub [1, 2, 0, 3, 4] rfl ?_
            first
              | exact T96 1 b4 true rfl k2 ⟨fun _ => ⟨e40, e88⟩, fun _ => rfl⟩
              | exact T96 0 b4 false rfl k2 ⟨fun w => (by cases w), fun w => absurd w.2 e88⟩
              | exact T96 0 b4 false rfl k2 ⟨fun w => (by cases w), fun w => by rw [e40] at w; cases w.1⟩
          · have e88 : eqj r z j := Int.dvd_of_emod_eq_zero c_88
            refine a_iconst (k := 57) rfl ?_
            refine a_goto (k := 58) rfl ?_
            refine a_sub [1, 2, 0, 3, 4] rfl ?_
            first
              | exact T96 1 b4 true rfl k2 ⟨fun _ => ⟨e40, e88⟩, fun _ => rfl⟩
              | exact T96 0 b4 false rfl k2 ⟨fun w => (by cases w), fun w => absurd w.2 e88⟩
              | exact T96 0 b4 false rfl k2 ⟨fun w => (by cases w), fun w => by rw [e40] at w; cases w.1⟩
      refine u_iload (k := 6) rfl rfl ?_
      refine u_iloadn (k := 7) rfl rfl ?_
      refine a_icmp_ge (k := 8) rfl (fun c_10 => ?_) (fun c_10 => ?_)
      · omega
      · refine u_iloadn (k := 9) rfl rfl ?_
        refine a_if_eq (k := 10) rfl (fun c_14 => ?_) (fun c_14 => ?_)
        · have e14 := b01_f c_14
          refine a_iconst (k := 22) rfl ?_
          first
            | exact T38 1 true rfl ⟨fun _ => ⟨e14, by omega⟩, fun _ => rfl⟩
            | exact T38 0 false rfl ⟨fun w => (by cases w), fun w => absurd w.2 (by omega)⟩
            | exact T38 0 false rfl ⟨fun w => (by cases w), fun w => by rw [e14] at w; cases w.1⟩
        · have e14 := b01_t c_14
          refine u_aloadn (k := 11) rfl rfl ?_
          refine a_getr (k := 12) rfl fRX11_75 rfl rfl rfl ?_
          refine u_iload (k := 13) rfl rfl ?_
          refine u_iald (k := 14) rfl rfl rfl (by omega) ?_
          refine u_aloadn (k := 15) rfl rfl ?_
          refine a_getr (k := 16) rfl fRX11_75 rfl rfl rfl ?_
          refine a_iconst (k := 17) rfl ?_
          refine u_ialdx 0 (k := 18) rfl rfl rfl (by omega) (by omega) ?_
          rw [z1, z2]
          refine a_icmp_ne (k := 19) rfl (fun c_30 => ?_) (fun c_30 => ?_)
          · refine a_iconst (k := 22) rfl ?_
            first
              | exact T38 1 true rfl ⟨fun _ => ⟨e14, by omega⟩, fun _ => rfl⟩
              | exact T38 0 false rfl ⟨fun w => (by cases w), fun w => absurd w.2 (by omega)⟩
              | exact T38 0 false rfl ⟨fun w => (by cases w), fun w => by rw [e14] at w; cases w.1⟩
          · refine a_iconst (k := 20) rfl ?_
            refine a_goto (k := 21) rfl ?_
            first
              | exact T38 1 true rfl ⟨fun _ => ⟨e14, by omega⟩, fun _ => rfl⟩
              | exact T38 0 false rfl ⟨fun w => (by cases w), fun w => absurd w.2 (by omega)⟩
              | exact T38 0 false rfl ⟨fun w => (by cases w), fun w => by rw [e14] at w; cases w.1⟩
  refine a_iconst (k := 0) rfl ?_
  refine a_istoren (k := 1) (lv' := [(2, _), (0, _), (1, _)]) rfl (Nat.le_of_ble_eq_true rfl) rfl ?_
  refine a_iconst (k := 2) rfl ?_
  refine a_istoren (k := 3) (lv' := [(3, _), (2, _), (0, _), (1, _)]) rfl (Nat.le_of_ble_eq_true rfl) rfl ?_
  refine a_iconst (k := 4) rfl ?_
  refine a_istore (k := 5) (lv' := [(4, _), (3, _), (2, _), (0, _), (1, _)]) rfl (Nat.le_of_ble_eq_true rfl) rfl ?_
  exact Lp r.1 0 true true (by omega) ⟨fun _ i hi => absurd hi (Nat.not_lt_zero i), fun _ => rfl⟩ ⟨fun _ i hi => absurd hi (Nat.not_lt_zero i), fun _ => rfl⟩
/-- the digits of a code -/
def dg (n code j : Nat) : Nat := code / 3 ^ (n - 1 - j) % 3
noncomputable def t_col (r : Rp) (p : Nat) : Int := match rz (fun c => isw r (dg r.1 c)) (3 ^ r.1) 0 with
  | none => -1
  | some c => (dg r.1 c p : Int)
def tco : List (Nat × Nat) := [(50, 0), (59, 0), (60, 0), (61, 0)]
noncomputable def t_colour (σ : AS) (k d : Int) : Int × AS := σ.on k fun q => (if 0 ≤ d ∧ d < ((σ.now.2.2 q).1 : Int) then t_col (σ.now.2.2 q) d.toNat else -1, σ)
theorem m_colour {B : Nat} {σ : AS} {h : HH} (hW : WA B σ) (hM : MR σ h) (k d : Int) : Sp mX11_colour [vr 40 0, vi k, vi d] h (MP (t_colour σ k d) h) := by
  rcases kcase k σ.now.1 with hk | ⟨q, rfl, hk⟩
  · rw [show t_colour σ k d = _ from on_no hk]
    refine Sp.of rfl kX11_colour (Nat.le_of_ble_eq_true rfl) ?_
    refine u_aloadn (k := 0) rfl rfl ?_
    refine u_iloadn (k := 1) rfl rfl ?_
    refine i_virt1 (M' := mX11_isOne) (k := 2) rfl lRX11_206 oX11_isOne vX11_isOne ⟨Nat.le_of_ble_eq_true rfl, Nat.le_of_ble_eq_true rfl⟩ rfl rfl (Nat.le_of_ble_eq_true rfl) (hM.one hW k) ?_
    rw [one_no hk]
    refine a_if_ne (k := 3) rfl (fun c_5 => ?_) (fun c_5 => ?_)
    · exact absurd rfl c_5
    · refine a_ldc (k := 4) rfl nRX11_210 ⟨by decide, by decide⟩ ?_
      refine a_ireturn (k := 5) rfl rfl ?_
      exact ⟨rfl, hM, FMo.rf⟩
  · have h5 := hW.now.1
    have hWr := hW.now.2.2 q hk
    have h8 := hWr.1
    have hsl := hM.slot hk
    rw [show t_colour σ (q : Int) d = _ from on_yes hk]
    by_cases hd : 0 ≤ d ∧ d < ((σ.now.2.2 q).1 : Int)
    · obtain ⟨e, rfl⟩ : ∃ e : Nat, d = (e : Int) := ⟨d.toNat, by omega⟩
      rw [if_pos hd, Int.toNat_natCast]
      generalize (σ.now.2.2 q) = r at *
      have p38 : ∀ t, t ≤ 8 → 3 ^ t ≤ 6561 := fun t ht => Nat.le_trans (Nat.pow_le_pow_right (by omega) ht) (by decide)
      have p3 := p38 r.1 h8
      have p30 : 0 < 3 ^ r.1 := Nat.pow_pos (by omega)
      refine Sp.of rfl kX11_colour (Nat.le_of_ble_eq_true rfl) ?_
      have Lc : ∀ (t code : Nat) (g : HH), code + t = 3 ^ r.1 → PT r g → Fr tco kwd h g → rz (fun c => isw r (dg r.1 c)) (3 ^ r.1) 0 = rz (fun c => isw r (dg r.1 c)) t code → AW mX11_colour (MP (t_col r e, σ) h) 68 [(5, vi code), (4, vi ((3 ^ r.1 : Nat) : Int)), (3, vi (r.1 : Int)), (0, vr 40 0), (1, vi q), (2, vi e)] [] g := by
        intro t
        induction t with
        | zero =>
          intro code g hcode hP hF hrz
          have et : t_col r e = -1 := by
            unfold t_col
            rw [hrz]
            rfl
          refine u_iload (k := 41) rfl rfl ?_
          refine u_iload (k := 42) rfl rfl ?_
          refine a_icmp_ge (k := 43) rfl (fun c_72 => ?_) (fun c_72 => ?_)
          · refine a_iconst (k := 76) rfl ?_
            refine a_ireturn (k := 77) rfl rfl ?_
            exact ⟨by rw [et], hM.scr hW (Fs_of hF (by simp [tms, tco]) (by simp [kms, kwd])), Fr.mo hF (by simp [tco]) (by simp [kwd])⟩
          · omega
        | succ t ih =>
          intro code g hcode hP hF hrz
          have hrz2 : rz (fun c => isw r (dg r.1 c)) (3 ^ r.1) 0 = if isw r (dg r.1 code) then some code else rz (fun c => isw r (dg r.1 c)) t (code + 1) := hrz
          have T112 : ∀ (g2 : HH) (x6 x7 : Int), PT r g2 → Fr tco kwd h g2 → (∀ i, i < r.1 → g2 61 0 i = (dg r.1 code i : Int)) → AW mX11_colour (MP (t_col r e, σ) h) 112 [(7, vi x7), (6, vi x6), (5, vi code), (4, vi ((3 ^ r.1 : Nat) : Int)), (3, vi (r.1 : Int)), (0, vr 40 0), (1, vi q), (2, vi e)] [] g2 := by
            intro g2 x6 x7 hP2 hF2 hz2
            refine u_aloadn (k := 65) rfl rfl ?_
            refine u_iloadn (k := 66) rfl rfl ?_
            refine i_virt1 (M' := mX11_isWay) (k := 67) rfl lRX11_236 oX11_isWay vX11_isWay ⟨Nat.le_of_ble_eq_true rfl, Nat.le_of_ble_eq_true rfl⟩ rfl rfl (Nat.le_of_ble_eq_true rfl) (m_isWay hWr (by omega) (dg r.1 code) g2 hP2 hz2 (fun j _ => Nat.mod_lt _ (by omega))) ?_
            refine a_if_eq (k := 68) rfl (fun c_117 => ?_) (fun c_117 => ?_)
            · have e117 := b01_f c_117
              refine u_iinc (k := 74) (lv' := [(5, _), (7, _), (6, _), (4, _), (3, _), (0, _), (1, _), (2, _)]) rfl rfl (Nat.le_of_ble_eq_true rfl) (by omega) rfl ?_
              refine a_goto (k := 75) rfl ?_
              refine a_sub [0, 3, 4, 5, 6, 7] rfl ?_
              exact ih (code + 1) g2 (by omega) hP2 hF2 (by rw [hrz2, if_neg (by rw [e117]; decide)])
            · have e117 := b01_t c_117
              refine u_aloadn (k := 69) rfl rfl ?_
              refine a_getr (k := 70) rfl fRX11_75 rfl rfl rfl ?_
              refine u_iloadn (k := 71) rfl rfl ?_
              refine u_iald (k := 72) rfl rfl rfl (by omega) ?_
              rw [hz2 e (by omega)]
              refine a_ireturn (k := 73) rfl rfl ?_
              refine ⟨?_, hM.scr hW (Fs_of hF2 (by simp [tms, tco]) (by simp [kms, kwd])), Fr.mo hF2 (by simp [tco]) (by simp [kwd])⟩
              unfold t_col
              rw [hrz2, if_pos e117]
          have Ld : ∀ (m : Nat) (g2 : HH) (x7 : Int), m ≤ r.1 → x7 = (m : Int) - 1 → PT r g2 → Fr tco kwd h g2 → (∀ i, m ≤ i → i < r.1 → g2 61 0 i = (dg r.1 code i : Int)) → AW mX11_colour (MP (t_col r e, σ) h) 84 [(7, vi x7), (6, vi ((code / 3 ^ (r.1 - m) : Nat) : Int)), (5, vi code), (4, vi ((3 ^ r.1 : Nat) : Int)), (3, vi (r.1 : Int)), (0, vr 40 0), (1, vi q), (2, vi e)] [] g2 := by
            intro m
            induction m with
            | zero =>
              intro g2 x7 hm hx7 hP2 hF2 hz2
              refine u_iload (k := 50) rfl rfl ?_
              refine a_if_lt (k := 51) rfl (fun c_86 => ?_) (fun c_86 => ?_)
              · exact T112 g2 _ _ hP2 hF2 (fun i hi => hz2 i (Nat.zero_le _) hi)
              · omega
            | succ m ihm =>
              intro g2 x7 hm hx7 hP2 hF2 hz2
              have hq1 : code / 3 ^ (r.1 - (m + 1)) / 3 = code / 3 ^ (r.1 - m) := by
                rw [Nat.div_div_eq_div_mul, show r.1 - m = (r.1 - (m + 1)) + 1 by omega, Nat.pow_succ]
              have hq2 : code / 3 ^ (r.1 - (m + 1)) ≤ code := Nat.div_le_self _ _
              have hdg : dg r.1 code m = code / 3 ^ (r.1 - (m + 1)) % 3 := by
                unfold dg
                rw [show r.1 - 1 - m = r.1 - (m + 1) by omega]
              generalize code / 3 ^ (r.1 - (m + 1)) = w at hq1 hq2 hdg ⊢
              have hw3 : (w : Int) / 3 = ((code / 3 ^ (r.1 - m) : Nat) : Int) := by rw [← hq1]; omega
              have hw4 : (w : Int) % 3 = (dg r.1 code m : Int) := by rw [hdg]; omega
              refine u_iload (k := 50) rfl rfl ?_
              refine a_if_lt (k := 51) rfl (fun c_86 => ?_) (fun c_86 => ?_)
              · omega
              · refine u_aloadn (k := 52) rfl rfl ?_
                refine a_getr (k := 53) rfl fRX11_75 rfl rfl rfl ?_
                refine u_iload (k := 54) rfl rfl ?_
                refine u_iload (k := 55) rfl rfl ?_
                refine a_iconst (k := 56) rfl ?_
                refine u_irem (k := 57) rfl (by omega) (by omega) ?_
                rw [hw4]
                refine u_iastx m (k := 58) rfl rfl rfl (by omega) (by omega) ?_
                refine u_iload (k := 59) rfl rfl ?_
                refine a_iconst (k := 60) rfl ?_
                refine u_idiv (k := 61) rfl (by omega) (by omega) ?_
                rw [hw3]
                refine a_istore (k := 62) (lv' := [(6, _), (7, _), (5, _), (4, _), (3, _), (0, _), (1, _), (2, _)]) rfl (Nat.le_of_ble_eq_true rfl) rfl ?_
                refine u_iinc (k := 63) (lv' := [(7, _), (6, _), (5, _), (4, _), (3, _), (0, _), (1, _), (2, _)]) rfl rfl (Nat.le_of_ble_eq_true rfl) (by omega) rfl ?_
                refine a_goto (k := 64) rfl ?_
                refine ihm _ _ (by omega) (by omega) ⟨fun x hx => by simp only [put_apply, Nat.reduceEqDiff, reduceIte, false_and, and_false, true_and, and_true, and_self, if_false, if_true, not_false_eq_true, not_true_eq_false, ne_eq]; exact hP2.1 x hx, fun x hx => by simp only [put_apply, Nat.reduceEqDiff, reduceIte, false_and, and_false, true_and, and_true, and_self, if_false, if_true, not_false_eq_true, not_true_eq_false, ne_eq]; exact hP2.2 x hx⟩ (hF2.p1 (by simp [tco])) (fun i h1 h2 => ?_)
                by_cases he : i = m
                · subst he; rw [put_eq]
                · rw [put_ne (by simp [he])]; exact hz2 i (by omega) h2
          have Ld0 := Ld r.1 g _ (Nat.le_refl _) rfl hP hF (fun i h1 h2 => absurd h2 (by omega))
          rw [Nat.sub_self, Nat.pow_zero, Nat.div_one] at Ld0
          refine u_iload (k := 41) rfl rfl ?_
          refine u_iload (k := 42) rfl rfl ?_
          refine a_icmp_ge (k := 43) rfl (fun c_72 => ?_) (fun c_72 => ?_)
          · omega
          · refine u_iload (k := 44) rfl rfl ?_
            refine a_istore (k := 45) (lv' := [(6, _), (5, _), (4, _), (3, _), (0, _), (1, _), (2, _)]) rfl (Nat.le_of_ble_eq_true rfl) rfl ?_
            refine u_iloadn (k := 46) rfl rfl ?_
            refine a_iconst (k := 47) rfl ?_
            refine u_isub (k := 48) rfl (by omega) ?_
            refine a_istore (k := 49) (lv' := [(7, _), (6, _), (5, _), (4, _), (3, _), (0, _), (1, _), (2, _)]) rfl (Nat.le_of_ble_eq_true rfl) rfl ?_
            exact Ld0
      have Lp : ∀ (t j : Nat) (g : HH), j + t = r.1 → PT r g → Fr tco kwd h g → AW mX11_colour (MP (t_col r e, σ) h) 47 [(5, vi j), (4, vi ((3 ^ j : Nat) : Int)), (3, vi (r.1 : Int)), (0, vr 40 0), (1, vi q), (2, vi e)] [] g := by
        intro t
        induction t with
        | zero =>
          intro j g hj hP hF
          have hj : j = r.1 := by omega
          subst hj
          refine u_iload (k := 30) rfl rfl ?_
          refine u_iloadn (k := 31) rfl rfl ?_
          refine a_icmp_ge (k := 32) rfl (fun c_50 => ?_) (fun c_50 => ?_)
          · refine a_iconst (k := 39) rfl ?_
            refine a_istore (k := 40) (lv' := [(5, _), (4, _), (3, _), (0, _), (1, _), (2, _)]) rfl (Nat.le_of_ble_eq_true rfl) rfl ?_
            exact Lc (3 ^ r.1) 0 g (by omega) hP hF rfl
          · omega
        | succ t ih =>
          intro j g hj hP hF
          have hmul : ((3 ^ j : Nat) : Int) * 3 = ((3 ^ (j + 1) : Nat) : Int) := by rw [Nat.pow_succ]; omega
          have hb := p38 (j + 1) (by omega)
          refine u_iload (k := 30) rfl rfl ?_
          refine u_iloadn (k := 31) rfl rfl ?_
          refine a_icmp_ge (k := 32) rfl (fun c_50 => ?_) (fun c_50 => ?_)
          · omega
          · refine u_iload (k := 33) rfl rfl ?_
            refine a_iconst (k := 34) rfl ?_
            refine u_imul (k := 35) rfl (by rw [hmul]; generalize 3 ^ (j + 1) = w at hb ⊢; omega) ?_
            rw [hmul]
            refine a_istore (k := 36) (lv' := [(4, _), (5, _), (3, _), (0, _), (1, _), (2, _)]) rfl (Nat.le_of_ble_eq_true rfl) rfl ?_
            refine u_iinc (k := 37) (lv' := [(5, _), (4, _), (3, _), (0, _), (1, _), (2, _)]) rfl rfl (Nat.le_of_ble_eq_true rfl) (by omega) rfl ?_
            refine a_goto (k := 38) rfl ?_
            exact ih (j + 1) g (by omega) hP hF
      refine u_aloadn (k := 0) rfl rfl ?_
      refine u_iloadn (k := 1) rfl rfl ?_
      refine i_virt1 (M' := mX11_isOne) (k := 2) rfl lRX11_206 oX11_isOne vX11_isOne ⟨Nat.le_of_ble_eq_true rfl, Nat.le_of_ble_eq_true rfl⟩ rfl rfl (Nat.le_of_ble_eq_true rfl) (hM.one hW q) ?_
      rw [one_yes hk]
      refine a_if_ne (k := 3) rfl (fun c_5 => ?_) (fun c_5 => ?_)
      · refine u_aloadn (k := 6) rfl rfl ?_
        refine u_iloadn (k := 7) rfl rfl ?_
        refine i_virt1 (M' := mX11_crossings) (k := 8) rfl lRX11_92 oX11_crossings vX11_crossings ⟨Nat.le_of_ble_eq_true rfl, Nat.le_of_ble_eq_true rfl⟩ rfl rfl (Nat.le_of_ble_eq_true rfl) (m_crossings q r h (by omega) hsl) ?_
        refine a_istoren (k := 9) (lv' := [(3, _), (0, _), (1, _), (2, _)]) rfl (Nat.le_of_ble_eq_true rfl) rfl ?_
        refine u_iloadn (k := 10) rfl rfl ?_
        refine a_i2l (k := 11) rfl ?_
        refine a_lconst (k := 12) rfl ?_
        refine u_iloadn (k := 13) rfl rfl ?_
        refine a_iconst (k := 14) rfl ?_
        refine u_isub (k := 15) rfl (by omega) ?_
        refine a_i2l (k := 16) rfl ?_
        refine i_stat3 (M' := mX11_in) (k := 17) rfl lRX11_81 oX11_in vX11_in ⟨Nat.le_of_ble_eq_true rfl, Nat.le_of_ble_eq_true rfl⟩ rfl (Nat.le_of_ble_eq_true rfl) (m_in e 0 ((r.1 : Int) - 1) h) ?_
        rw [inb_t (by omega)]
        refine a_if_ne (k := 18) rfl (fun c_27 => ?_) (fun c_27 => ?_)
        · refine u_aloadn (k := 21) rfl rfl ?_
          refine u_iloadn (k := 22) rfl rfl ?_
          refine uv_virt1 (M' := mX11_loads) (k := 23) rfl lRX11_211 oX11_loads vX11_loads ⟨Nat.le_of_ble_eq_true rfl, Nat.le_of_ble_eq_true rfl⟩ rfl rfl (Nat.le_of_ble_eq_true rfl) (m_loads q r h (by omega) h8 hsl) (by intro r g hp; exact hp.1) (fun g2 hg2 => ?_)
          obtain ⟨-, hR2, hF2⟩ := hg2
          refine u_aloadn (k := 24) rfl rfl ?_
          refine uv_virt0 (M' := mX11_parts) (k := 25) rfl lRX11_223 oX11_parts vX11_parts ⟨Nat.le_of_ble_eq_true rfl, Nat.le_of_ble_eq_true rfl⟩ rfl rfl (Nat.le_of_ble_eq_true rfl) (m_parts hWr (by omega) _ g2 hR2) (by intro r g hp; exact hp.1) (fun g3 hg3 => ?_)
          obtain ⟨-, hP3, hF3⟩ := hg3
          refine a_iconst (k := 26) rfl ?_
          refine a_istore (k := 27) (lv' := [(4, _), (3, _), (0, _), (1, _), (2, _)]) rfl (Nat.le_of_ble_eq_true rfl) rfl ?_
          refine a_iconst (k := 28) rfl ?_
          refine a_istore (k := 29) (lv' := [(5, _), (4, _), (3, _), (0, _), (1, _), (2, _)]) rfl (Nat.le_of_ble_eq_true rfl) rfl ?_
          exact Lp r.1 0 g3 (by omega) hP3 ((hF2.mono (T := tco) (K := kwd) (by simp [tco]) (by simp [kwd])).tr hF3 (by simp [tco]) (by simp))
        · exact absurd c_27 (by decide)
      · exact absurd c_5 (by decide)
    · rw [if_neg hd]
      refine Sp.of rfl kX11_colour (Nat.le_of_ble_eq_true rfl) ?_
      refine u_aloadn (k := 0) rfl rfl ?_
      refine u_iloadn (k := 1) rfl rfl ?_
      refine i_virt1 (M' := mX11_isOne) (k := 2) rfl lRX11_206 oX11_isOne vX11_isOne ⟨Nat.le_of_ble_eq_true rfl, Nat.le_of_ble_eq_true rfl⟩ rfl rfl (Nat.le_of_ble_eq_true rfl) (hM.one hW q) ?_
      rw [one_yes hk]
      refine a_if_ne (k := 3) rfl (fun c_5 => ?_) (fun c_5 => ?_)
      · refine u_aloadn (k := 6) rfl rfl ?_
        refine u_iloadn (k := 7) rfl rfl ?_
        refine i_virt1 (M' := mX11_crossings) (k := 8) rfl lRX11_92 oX11_crossings vX11_crossings ⟨Nat.le_of_ble_eq_true rfl, Nat.le_of_ble_eq_true rfl⟩ rfl rfl (Nat.le_of_ble_eq_true rfl) (m_crossings q _ h (by omega) hsl) ?_
        refine a_istoren (k := 9) (lv' := [(3, _), (0, _), (1, _), (2, _)]) rfl (Nat.le_of_ble_eq_true rfl) rfl ?_
        refine u_iloadn (k := 10) rfl rfl ?_
        refine a_i2l (k := 11) rfl ?_
        refine a_lconst (k := 12) rfl ?_
        refine u_iloadn (k := 13) rfl rfl ?_
        refine a_iconst (k := 14) rfl ?_
        refine u_isub (k := 15) rfl (by omega) ?_
        refine a_i2l (k := 16) rfl ?_
        refine i_stat3 (M' := mX11_in) (k := 17) rfl lRX11_81 oX11_in vX11_in ⟨Nat.le_of_ble_eq_true rfl, Nat.le_of_ble_eq_true rfl⟩ rfl (Nat.le_of_ble_eq_true rfl) (m_in d 0 (((σ.now.2.2 q).1 : Int) - 1) h) ?_
        rw [inb_f (by omega)]
        refine a_if_ne (k := 18) rfl (fun c_27 => ?_) (fun c_27 => ?_)
        · exact absurd rfl c_27
        · refine a_iconst (k := 19) rfl ?_
          refine a_ireturn (k := 20) rfl rfl ?_
          exact ⟨rfl, hM, FMo.rf⟩
      · exact absurd c_5 (by decide)
