/-! the text, by the reference: what the letters say -/
theorem rgo_ok {tx : Nat → Nat} {q : Nat} {p p' : PS} (h : rgo tx q = .inl p) (hr : rs p (tx q) q = .inl p') : rgo tx (q + 1) = .inl p' := by
  unfold rgo
  rw [h]
  dsimp only
  rw [hr]
theorem rgo_bad {tx : Nat → Nat} {q e : Nat} {p : PS} (h : rgo tx q = .inl p) (hr : rs p (tx q) q = .inr e) : rgo tx (q + 1) = .inr (e, if e = 2 then p.2.2.1 else q) := by
  unfold rgo
  rw [h]
  dsimp only
  rw [hr]
def vd (tx : Nat → Nat) (L : Nat) : Option (Nat × Nat) := match rgo tx L with
  | .inr e => some e
  | .inl p => if ed p then none else some (1, L)
theorem vd_bad {tx : Nat → Nat} {L q : Nat} {e : Nat × Nat} (h : rgo tx q = .inr e) (hq : q ≤ L) : vd tx L = some e := by
  have := rgo_f h (L - q)
  rw [show q + (L - q) = L by omega] at this
  unfold vd
  rw [this]
theorem vd_end {tx : Nat → Nat} {L : Nat} {p : PS} (h : rgo tx L = .inl p) (h0 : p.1 ≠ 0) (h4 : p.1 ≠ 4) : vd tx L = some (1, L) := by
  unfold vd
  rw [h]
  unfold ed
  simp [h0, h4]
theorem vd_rs {tx : Nat → Nat} {L q e : Nat} {p : PS} (h : rgo tx q = .inl p) (hq : q < L) (hr : rs p (tx q) q = .inr e) (he : e ≠ 2) : vd tx L = some (e, q) := by
  have := vd_bad (rgo_bad h hr) hq
  rw [if_neg he] at this
  exact this
def skp (tx : Nat → Nat) : Nat → Nat → Nat
  | 0, a => a
  | d + 1, a => if tx a = 32 then skp tx d (a + 1) else a
theorem skp_ok {tx : Nat → Nat} : ∀ {d a : Nat}, a ≤ skp tx d a ∧ skp tx d a ≤ a + d ∧ (skp tx d a < a + d → tx (skp tx d a) ≠ 32)
  | 0, a => ⟨Nat.le_refl _, Nat.le_refl _, fun h => absurd h (Nat.lt_irrefl _)⟩
  | d + 1, a => by
    unfold skp
    split
    · obtain ⟨h1, h2, h3⟩ := skp_ok (tx := tx) (d := d) (a := a + 1)
      exact ⟨by omega, by omega, fun h => h3 (by omega)⟩
    · exact ⟨Nat.le_refl _, by omega, fun _ => by assumption⟩
def sk (tx : Nat → Nat) (L a : Nat) : Nat := skp tx (L - a) a
theorem sk_ok {tx : Nat → Nat} {L a : Nat} (h : a ≤ L) : a ≤ sk tx L a ∧ sk tx L a ≤ L ∧ (sk tx L a < L → tx (sk tx L a) ≠ 32) := by
  obtain ⟨h1, h2, h3⟩ := skp_ok (tx := tx) (d := L - a) (a := a)
  exact ⟨h1, by unfold sk; omega, fun h => h3 (by unfold sk at h; omega)⟩
theorem sk_s {tx : Nat → Nat} {L a : Nat} (h : a < L) : sk tx L a = if tx a = 32 then sk tx L (a + 1) else a := by
  unfold sk
  rw [show L - a = (L - (a + 1)) + 1 by omega]
  rfl
theorem sk_end {tx : Nat → Nat} {L : Nat} : sk tx L L = L := by
  unfold sk
  rw [Nat.sub_self]
  rfl
theorem sk_id {tx : Nat → Nat} {L a : Nat} (h : a ≤ L) (hn : a < L → tx a ≠ 32) : sk tx L a = a := by
  by_cases he : a = L
  · subst he; exact sk_end
  · rw [sk_s (by omega), if_neg (hn (by omega))]
theorem sk_sk {tx : Nat → Nat} {L a : Nat} (h : a ≤ L) : sk tx L (sk tx L a) = sk tx L a := by
  obtain ⟨h1, h2, h3⟩ := sk_ok (tx := tx) h
  exact sk_id h2 h3
theorem rs_32 {p : PS} {q : Nat} (h : p.1 ≠ 2) : rs p 32 q = .inl p := by
  unfold rs
  rw [if_pos rfl, if_neg h]
theorem rgo_skp {tx : Nat → Nat} {p : PS} (hp : p.1 ≠ 2) : ∀ {d a : Nat}, rgo tx a = .inl p → rgo tx (skp tx d a) = .inl p
  | 0, a, h => h
  | d + 1, a, h => by
    unfold skp
    split
    · rename_i h32
      exact rgo_skp hp (rgo_ok h (by rw [h32]; exact rs_32 hp))
    · exact h
theorem rgo_sk {tx : Nat → Nat} {p : PS} {L a : Nat} (hp : p.1 ≠ 2) (h : rgo tx a = .inl p) : rgo tx (sk tx L a) = .inl p := rgo_skp hp h
theorem rgo_sk2 {tx : Nat → Nat} {p : PS} {L a : Nat} (ha : a ≤ L) (hp : p.1 = 2) (h : rgo tx a = .inl p) : ∃ p', rgo tx (sk tx L a) = .inl p' ∧ p'.2 = p.2 ∧ ((p'.1 = 2 ∧ sk tx L a = a) ∨ p'.1 = 3) := by
  by_cases he : a = L
  · subst he
    rw [sk_end]
    exact ⟨p, h, rfl, Or.inl ⟨hp, rfl⟩⟩
  · rw [sk_s (by omega)]
    split
    · rename_i h32
      have h2 : rgo tx (a + 1) = .inl (3, p.2) := rgo_ok h (by rw [h32]; unfold rs; rw [if_pos rfl, if_pos hp])
      exact ⟨(3, p.2), rgo_sk (by show 3 ≠ 2; decide) h2, rfl, Or.inr rfl⟩
    · exact ⟨p, h, rfl, Or.inl ⟨hp, rfl⟩⟩
def nx (tx : Nat → Nat) (L a : Nat) : Int := if sk tx L a < L then (tx (sk tx L a) : Int) else -1
theorem sb_all : ∀ t : Nat, t < 256 → iand (sb (t : Int)) 255 = t ∧ (t < 128 → sb (t : Int) = t) ∧ (128 ≤ t → sb (t : Int) = (t : Int) - 256) := by decide +kernel
theorem sb32 : sb ((32 : Nat) : Int) = 32 := (sb_all 32 (by decide)).2.1 (by decide)
def TXm (L : Nat) (tx : Nat → Nat) (g : HH) : Prop := g 40 0 6 = (L : Int) ∧ ∀ i, i < L → g 44 0 i = sb (tx i : Int)
theorem TXm.keep {L : Nat} {tx : Nat → Nat} {h g : HH} (hT : TXm L tx h) (h6 : g 40 0 6 = h 40 0 6) (h4 : ∀ i, g 44 0 i = h 44 0 i) : TXm L tx g := ⟨by rw [h6]; exact hT.1, fun i hi => by rw [h4]; exact hT.2 i hi⟩
theorem m_next (L a : Nat) (tx : Nat → Nat) (h : HH) (hT : TXm L tx h) (hL : L ≤ 240) (h256 : ∀ i, i < L → tx i < 256) (ha : h 40 0 8 = (a : Int)) (haL : a ≤ L) : Sp mX11_next [vr 40 0] h (fun z g => z = some (vi (nx tx L a)) ∧ g 40 0 8 = (sk tx L a : Int) ∧ Fr [] [(40, 0, 8)] h g) := by
  refine Sp.of rfl kX11_next (Nat.le_of_ble_eq_true rfl) ?_
  have T38 : ∀ (b : Nat) (g : HH), b ≤ L → (b < L → tx b ≠ 32) → sk tx L a = b → g 40 0 8 = (b : Int) → Fr [] [(40, 0, 8)] h g → AW mX11_next (fun z g => z = some (vi (nx tx L a)) ∧ g 40 0 8 = (sk tx L a : Int) ∧ Fr [] [(40, 0, 8)] h g) 38 [(0, vr 40 0)] [] g := by
    intro b g hb h32 he hg hF
    have hT2 := hT.keep (hF 40 0 6 (by simp) (by simp)) (fun i => hF 44 0 i (by simp) (by simp))
    refine u_aloadn (k := 19) rfl rfl ?_
    refine a_geti (k := 20) rfl fRX11_102 rfl rfl ?_
    refine u_aloadn (k := 21) rfl rfl ?_
    refine a_geti (k := 22) rfl fRX11_98 rfl rfl ?_
    rw [hg, hT2.1]
    refine a_icmp_ge (k := 23) rfl (fun c_46 => ?_) (fun c_46 => ?_)
    · refine a_iconst (k := 32) rfl ?_
      refine a_ireturn (k := 33) rfl rfl ?_
      first
        | exact ⟨by unfold nx; rw [he, if_pos (by omega)], by rw [he]; exact hg, hF⟩
        | exact ⟨by unfold nx; rw [he, if_neg (by omega)], by rw [he]; exact hg, hF⟩
    · refine u_aloadn (k := 24) rfl rfl ?_
      refine a_getr (k := 25) rfl fRX11_19 rfl rfl rfl ?_
      refine u_aloadn (k := 26) rfl rfl ?_
      refine a_geti (k := 27) rfl fRX11_102 rfl rfl ?_
      rw [hg]
      refine u_bald (k := 28) rfl rfl rfl (by omega) ?_
      refine a_sipush (k := 29) rfl ?_
      rw [hT2.2 b (by omega)]
      refine a_iand (k := 30) rfl ?_
      rw [(sb_all (tx b) (h256 b (by omega))).1]
      refine a_goto (k := 31) rfl ?_
      refine a_ireturn (k := 33) rfl rfl ?_
      first
        | exact ⟨by unfold nx; rw [he, if_pos (by omega)], by rw [he]; exact hg, hF⟩
        | exact ⟨by unfold nx; rw [he, if_neg (by omega)], by rw [he]; exact hg, hF⟩
  have Lp : ∀ (d b : Nat) (g : HH), b + d = L → sk tx L a = sk tx L b → g 40 0 8 = (b : Int) → Fr [] [(40, 0, 8)] h g → AW mX11_next (fun z g => z = some (vi (nx tx L a)) ∧ g 40 0 8 = (sk tx L a : Int) ∧ Fr [] [(40, 0, 8)] h g) 0 [(0, vr 40 0)] [] g := by
    intro d
    induction d with
    | zero =>
      intro b g hb he hg hF
      have hb : b = L := by omega
      subst hb
      have hT2 := hT.keep (hF 40 0 6 (by simp) (by simp)) (fun i => hF 44 0 i (by simp) (by simp))
      refine u_aloadn (k := 0) rfl rfl ?_
      refine a_geti (k := 1) rfl fRX11_102 rfl rfl ?_
      refine u_aloadn (k := 2) rfl rfl ?_
      refine a_geti (k := 3) rfl fRX11_98 rfl rfl ?_
      rw [hg, hT2.1]
      refine a_icmp_ge (k := 4) rfl (fun c_8 => ?_) (fun c_8 => ?_)
      · exact T38 b g (Nat.le_refl _) (fun z => absurd z (Nat.lt_irrefl _)) (by rw [he, sk_end]) hg hF
      · omega
    | succ d ih =>
      intro b g hb he hg hF
      have hT2 := hT.keep (hF 40 0 6 (by simp) (by simp)) (fun i => hF 44 0 i (by simp) (by simp))
      have sb1 := sb_all (tx b) (h256 b (by omega))
      refine u_aloadn (k := 0) rfl rfl ?_
      refine a_geti (k := 1) rfl fRX11_102 rfl rfl ?_
      refine u_aloadn (k := 2) rfl rfl ?_
      refine a_geti (k := 3) rfl fRX11_98 rfl rfl ?_
      rw [hg, hT2.1]
      refine a_icmp_ge (k := 4) rfl (fun c_8 => ?_) (fun c_8 => ?_)
      · omega
      · refine u_aloadn (k := 5) rfl rfl ?_
        refine a_getr (k := 6) rfl fRX11_19 rfl rfl rfl ?_
        refine u_aloadn (k := 7) rfl rfl ?_
        refine a_geti (k := 8) rfl fRX11_102 rfl rfl ?_
        rw [hg]
        refine u_bald (k := 9) rfl rfl rfl (by omega) ?_
        refine a_bipush (k := 10) rfl ?_
        rw [hT2.2 b (by omega)]
        refine a_icmp_ne (k := 11) rfl (fun c_22 => ?_) (fun c_22 => ?_)
        · exact T38 b g (by omega) (fun _ z => c_22 (by rw [z]; exact sb32)) (by rw [he]; exact sk_id (by omega) (fun _ z => c_22 (by rw [z]; exact sb32))) hg hF
        · refine u_aloadn (k := 12) rfl rfl ?_
          refine a_dup (k := 13) rfl rfl ?_
          refine a_geti (k := 14) rfl fRX11_102 rfl rfl ?_
          refine a_iconst (k := 15) rfl ?_
          rw [hg]
          refine u_iadd (k := 16) rfl (by omega) ?_
          refine a_puti (k := 17) rfl pRX11_102 rfl rfl ?_
          refine a_goto (k := 18) rfl ?_
          refine ih (b + 1) _ (by omega) ?_ (by rw [put_eq]; omega) (hF.p2 (by simp))
          have h32 : tx b = 32 := by
            have := h256 b (by omega)
            by_cases hh : tx b < 128
            · have := sb1.2.1 hh; omega
            · have := sb1.2.2 (by omega); omega
          rw [he, sk_s (by omega), if_pos h32]
  have := Lp (L - a) a h (by omega) rfl ha Fr.rf
  exact this
theorem m_blames (n w : Nat) (h : HH) (h9 : h 40 0 9 = 0) (h10 : h 40 0 10 = -1) : SpV mX11_blames [vr 40 0, vi n, vi w] h (put (put h 40 0 9 (n : Int)) 40 0 10 (w : Int)) := by
  refine Sp.of rfl kX11_blames (Nat.le_of_ble_eq_true rfl) ?_
  refine u_aloadn (k := 0) rfl rfl ?_
  refine u_aloadn (k := 1) rfl rfl ?_
  refine a_geti (k := 2) rfl fRX11_105 rfl rfl ?_
  rw [h9]
  refine a_if_ne (k := 3) rfl (fun c_5 => ?_) (fun c_5 => ?_)
  · exact absurd rfl c_5
  · refine u_iloadn (k := 4) rfl rfl ?_
    refine a_goto (k := 5) rfl ?_
    refine a_puti (k := 8) rfl pRX11_105 rfl rfl ?_
    refine u_aloadn (k := 9) rfl rfl ?_
    refine u_aloadn (k := 10) rfl rfl ?_
    refine a_geti (k := 11) rfl fRX11_105 rfl rfl ?_
    refine u_iloadn (k := 12) rfl rfl ?_
    rw [put_eq]
    refine a_icmp_ne (k := 13) rfl (fun c_25 => ?_) (fun c_25 => ?_)
    · exact absurd rfl c_25
    · refine u_aloadn (k := 14) rfl rfl ?_
      refine a_geti (k := 15) rfl fRX11_108 rfl rfl ?_
      rw [put_ne (by simp), h10]
      refine a_if_ge (k := 16) rfl (fun c_32 => ?_) (fun c_32 => ?_)
      · omega
      · refine u_iloadn (k := 17) rfl rfl ?_
        refine a_goto (k := 18) rfl ?_
        refine a_puti (k := 21) rfl pRX11_108 rfl rfl ?_
        refine a_return (k := 22) rfl rfl ?_
        exact ⟨rfl, rfl⟩
def ken : List (Nat × Nat × Nat) := [(40, 0, 8), (40, 0, 9), (40, 0, 10)]
theorem m_ends0 (L a : Nat) (tx : Nat → Nat) (h : HH) (hT : TXm L tx h) (hL : L ≤ 240) (h256 : ∀ i, i < L → tx i < 256) (ha : h 40 0 8 = (a : Int)) (haL : a ≤ L) (h9 : h 40 0 9 = 0) (h10 : h 40 0 10 = -1) : Sp mX11_ends [vr 40 0] h (fun z g => z = none ∧ g 40 0 8 = ((sk tx L a + 1 : Nat) : Int) ∧ (nx tx L a = 59 → g 40 0 9 = 0 ∧ g 40 0 10 = -1) ∧ (nx tx L a ≠ 59 → g 40 0 9 = 1 ∧ g 40 0 10 = (sk tx L a : Int)) ∧ Fr [] ken h g) := by
  have hsk := (sk_ok (tx := tx) haL).2.1
  refine Sp.of rfl kX11_ends (Nat.le_of_ble_eq_true rfl) ?_
  refine u_aloadn (k := 0) rfl rfl ?_
  refine a_geti (k := 1) rfl fRX11_105 rfl rfl ?_
  rw [h9]
  refine a_if_ne (k := 2) rfl (fun c_4 => ?_) (fun c_4 => ?_)
  · exact absurd rfl c_4
  · refine u_aloadn (k := 3) rfl rfl ?_
    refine ui_virt0 (M' := mX11_next) (k := 4) rfl lRX11_111 oX11_next vX11_next ⟨Nat.le_of_ble_eq_true rfl, Nat.le_of_ble_eq_true rfl⟩ rfl rfl (Nat.le_of_ble_eq_true rfl) (m_next L a tx h hT hL h256 ha haL) (by intro r g hp; exact ⟨_, hp.1⟩) (fun z g hg => ?_)
    obtain ⟨hz, hg8, hF⟩ := hg; cases hz
    refine a_bipush (k := 5) rfl ?_
    refine a_icmp_eq (k := 6) rfl (fun c_13 => ?_) (fun c_13 => ?_)
    · refine u_aloadn (k := 12) rfl rfl ?_
      refine a_dup (k := 13) rfl rfl ?_
      refine a_geti (k := 14) rfl fRX11_102 rfl rfl ?_
      refine a_iconst (k := 15) rfl ?_
      first
        | rw [hg8]
        | rw [put_ne (by simp), put_ne (by simp), hg8]
      refine u_iadd (k := 16) rfl (by omega) ?_
      refine a_puti (k := 17) rfl pRX11_102 rfl rfl ?_
      refine a_return (k := 18) rfl rfl ?_
      first
        | exact ⟨rfl, by rw [put_eq]; omega, fun _ => ⟨by rw [put_ne (by simp), hF 40 0 9 (by simp) (by simp)]; exact h9, by rw [put_ne (by simp), hF 40 0 10 (by simp) (by simp)]; exact h10⟩, fun z => absurd c_13 z, (hF.mono (by simp) (by simp [ken])).p2 (by simp [ken])⟩
        | exact ⟨rfl, by rw [put_eq]; omega, fun z => absurd z c_13, fun _ => ⟨by simp only [put_apply, Nat.reduceEqDiff, reduceIte, false_and, and_false, true_and, and_true, and_self, if_false, if_true, not_false_eq_true, not_true_eq_false, ne_eq]; rfl, by simp only [put_apply, Nat.reduceEqDiff, reduceIte, false_and, and_false, true_and, and_true, and_self, if_false, if_true, not_false_eq_true, not_true_eq_false, ne_eq]⟩, (((hF.mono (by simp) (by simp [ken])).p2 (by simp [ken])).p2 (by simp [ken])).p2 (by simp [ken])⟩
    · refine u_aloadn (k := 7) rfl rfl ?_
      refine a_iconst (k := 8) rfl ?_
      refine u_aloadn (k := 9) rfl rfl ?_
      refine a_geti (k := 10) rfl fRX11_102 rfl rfl ?_
      rw [hg8]
      refine v_virt2 (M' := mX11_blames) (k := 11) rfl lRX11_115 oX11_blames vX11_blames ⟨Nat.le_of_ble_eq_true rfl, Nat.le_of_ble_eq_true rfl⟩ rfl rfl (Nat.le_of_ble_eq_true rfl) (m_blames 1 (sk tx L a) g (by rw [hF 40 0 9 (by simp) (by simp)]; exact h9) (by rw [hF 40 0 10 (by simp) (by simp)]; exact h10)) ?_
      refine u_aloadn (k := 12) rfl rfl ?_
      refine a_dup (k := 13) rfl rfl ?_
      refine a_geti (k := 14) rfl fRX11_102 rfl rfl ?_
      refine a_iconst (k := 15) rfl ?_
      first
        | rw [hg8]
        | rw [put_ne (by simp), put_ne (by simp), hg8]
      refine u_iadd (k := 16) rfl (by omega) ?_
      refine a_puti (k := 17) rfl pRX11_102 rfl rfl ?_
      refine a_return (k := 18) rfl rfl ?_
      first
        | exact ⟨rfl, by rw [put_eq]; omega, fun _ => ⟨by rw [put_ne (by simp), hF 40 0 9 (by simp) (by simp)]; exact h9, by rw [put_ne (by simp), hF 40 0 10 (by simp) (by simp)]; exact h10⟩, fun z => absurd c_13 z, (hF.mono (by simp) (by simp [ken])).p2 (by simp [ken])⟩
        | exact ⟨rfl, by rw [put_eq]; omega, fun z => absurd z c_13, fun _ => ⟨by simp only [put_apply, Nat.reduceEqDiff, reduceIte, false_and, and_false, true_and, and_true, and_self, if_false, if_true, not_false_eq_true, not_true_eq_false, ne_eq]; rfl, by simp only [put_apply, Nat.reduceEqDiff, reduceIte, false_and, and_false, true_and, and_true, and_self, if_false, if_true, not_false_eq_true, not_true_eq_false, ne_eq]⟩, (((hF.mono (by simp) (by simp [ken])).p2 (by simp [ken])).p2 (by simp [ken])).p2 (by simp [ken])⟩
theorem m_ends1 (a : Nat) (h : HH) (ha : h 40 0 8 = (a : Int)) (ha2 : a ≤ 241) (h9 : h 40 0 9 ≠ 0) : Sp mX11_ends [vr 40 0] h (fun z g => z = none ∧ Fr [] [(40, 0, 8)] h g) := by
  refine Sp.of rfl kX11_ends (Nat.le_of_ble_eq_true rfl) ?_
  refine u_aloadn (k := 0) rfl rfl ?_
  refine a_geti (k := 1) rfl fRX11_105 rfl rfl ?_
  refine a_if_ne (k := 2) rfl (fun c_4 => ?_) (fun c_4 => ?_)
  · refine u_aloadn (k := 12) rfl rfl ?_
    refine a_dup (k := 13) rfl rfl ?_
    refine a_geti (k := 14) rfl fRX11_102 rfl rfl ?_
    refine a_iconst (k := 15) rfl ?_
    rw [ha]
    refine u_iadd (k := 16) rfl (by omega) ?_
    refine a_puti (k := 17) rfl pRX11_102 rfl rfl ?_
    refine a_return (k := 18) rfl rfl ?_
    exact ⟨rfl, Fr.rf.p2 (by simp)⟩
  · exact absurd c_4 h9
def nmo (v : Int) : Int := if 65 ≤ v ∧ v ≤ 90 then v - 33 else if 97 ≤ v ∧ v ≤ 122 then v - 97 else -1
theorem m_nameOf (v : Int) (h : HH) (h1 : -1 ≤ v) (h2 : v ≤ 255) : SpI mX11_nameOf [vi v] h (nmo v) h := by
  unfold nmo
  by_cases a1 : 65 ≤ v ∧ v ≤ 90
  · rw [if_pos a1]
    refine Sp.of rfl kX11_nameOf (Nat.le_of_ble_eq_true rfl) ?_
    refine u_iloadn (k := 0) rfl rfl ?_
    refine a_i2l (k := 1) rfl ?_
    refine a_ldc2 (k := 2) rfl nRX11_129 ⟨by decide, by decide⟩ ?_
    refine a_ldc2 (k := 3) rfl nRX11_131 ⟨by decide, by decide⟩ ?_
    refine i_stat3 (M' := mX11_in) (k := 4) rfl lRX11_81 oX11_in vX11_in ⟨Nat.le_of_ble_eq_true rfl, Nat.le_of_ble_eq_true rfl⟩ rfl (Nat.le_of_ble_eq_true rfl) (m_in v 65 90 h) ?_
    rw [inb_t a1]
    refine a_if_eq (k := 5) rfl (fun c_11 => ?_) (fun c_11 => ?_)
    · exact absurd c_11 (by decide)
    · refine u_iloadn (k := 6) rfl rfl ?_
      refine a_bipush (k := 7) rfl ?_
      refine u_isub (k := 8) rfl (by omega) ?_
      refine a_bipush (k := 9) rfl ?_
      refine u_iadd (k := 10) rfl (by omega) ?_
      refine a_goto (k := 11) rfl ?_
      refine a_ireturn (k := 23) rfl rfl ?_
      exact ⟨by congr 2; omega, rfl⟩
  · rw [if_neg a1]
    by_cases a2 : 97 ≤ v ∧ v ≤ 122
    · rw [if_pos a2]
      refine Sp.of rfl kX11_nameOf (Nat.le_of_ble_eq_true rfl) ?_
      refine u_iloadn (k := 0) rfl rfl ?_
      refine a_i2l (k := 1) rfl ?_
      refine a_ldc2 (k := 2) rfl nRX11_129 ⟨by decide, by decide⟩ ?_
      refine a_ldc2 (k := 3) rfl nRX11_131 ⟨by decide, by decide⟩ ?_
      refine i_stat3 (M' := mX11_in) (k := 4) rfl lRX11_81 oX11_in vX11_in ⟨Nat.le_of_ble_eq_true rfl, Nat.le_of_ble_eq_true rfl⟩ rfl (Nat.le_of_ble_eq_true rfl) (m_in v 65 90 h) ?_
      rw [inb_f a1]
      refine a_if_eq (k := 5) rfl (fun c_11 => ?_) (fun c_11 => ?_)
      · refine u_iloadn (k := 12) rfl rfl ?_
        refine a_i2l (k := 13) rfl ?_
        refine a_ldc2 (k := 14) rfl nRX11_133 ⟨by decide, by decide⟩ ?_
        refine a_ldc2 (k := 15) rfl nRX11_135 ⟨by decide, by decide⟩ ?_
        refine i_stat3 (M' := mX11_in) (k := 16) rfl lRX11_81 oX11_in vX11_in ⟨Nat.le_of_ble_eq_true rfl, Nat.le_of_ble_eq_true rfl⟩ rfl (Nat.le_of_ble_eq_true rfl) (m_in v 97 122 h) ?_
        rw [inb_t a2]
        refine a_if_eq (k := 17) rfl (fun c_35 => ?_) (fun c_35 => ?_)
        · exact absurd c_35 (by decide)
        · refine u_iloadn (k := 18) rfl rfl ?_
          refine a_bipush (k := 19) rfl ?_
          refine u_isub (k := 20) rfl (by omega) ?_
          refine a_goto (k := 21) rfl ?_
          refine a_ireturn (k := 23) rfl rfl ?_
          exact ⟨rfl, rfl⟩
      · exact absurd rfl c_11
    · rw [if_neg a2]
      refine Sp.of rfl kX11_nameOf (Nat.le_of_ble_eq_true rfl) ?_
      refine u_iloadn (k := 0) rfl rfl ?_
      refine a_i2l (k := 1) rfl ?_
      refine a_ldc2 (k := 2) rfl nRX11_129 ⟨by decide, by decide⟩ ?_
      refine a_ldc2 (k := 3) rfl nRX11_131 ⟨by decide, by decide⟩ ?_
      refine i_stat3 (M' := mX11_in) (k := 4) rfl lRX11_81 oX11_in vX11_in ⟨Nat.le_of_ble_eq_true rfl, Nat.le_of_ble_eq_true rfl⟩ rfl (Nat.le_of_ble_eq_true rfl) (m_in v 65 90 h) ?_
      rw [inb_f a1]
      refine a_if_eq (k := 5) rfl (fun c_11 => ?_) (fun c_11 => ?_)
      · refine u_iloadn (k := 12) rfl rfl ?_
        refine a_i2l (k := 13) rfl ?_
        refine a_ldc2 (k := 14) rfl nRX11_133 ⟨by decide, by decide⟩ ?_
        refine a_ldc2 (k := 15) rfl nRX11_135 ⟨by decide, by decide⟩ ?_
        refine i_stat3 (M' := mX11_in) (k := 16) rfl lRX11_81 oX11_in vX11_in ⟨Nat.le_of_ble_eq_true rfl, Nat.le_of_ble_eq_true rfl⟩ rfl (Nat.le_of_ble_eq_true rfl) (m_in v 97 122 h) ?_
        rw [inb_f a2]
        refine a_if_eq (k := 17) rfl (fun c_35 => ?_) (fun c_35 => ?_)
        · refine a_iconst (k := 22) rfl ?_
          refine a_ireturn (k := 23) rfl rfl ?_
          exact ⟨rfl, rfl⟩
        · exact absurd rfl c_35
      · exact absurd rfl c_11
