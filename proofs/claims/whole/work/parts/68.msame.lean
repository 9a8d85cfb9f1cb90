/-! same, words -/
theorem cmp_eq (A B : Nat → Int) : ∀ m q, cmpL A B m q = 0 ↔ ∀ i, q ≤ i → i < q + m → A i = B i
  | 0, q => by
    unfold cmpL
    exact ⟨fun _ i h1 h2 => by omega, fun _ => rfl⟩
  | m + 1, q => by
    unfold cmpL
    by_cases h : A q = B q
    · rw [if_pos h, cmp_eq A B m (q + 1)]
      constructor
      · intro hh i h1 h2
        by_cases he : i = q
        · subst he; exact h
        · exact hh i (by omega) (by omega)
      · intro hh i h1 h2
        exact hh i (by omega) (by omega)
    · rw [if_neg h]
      constructor
      · intro hh
        split at hh <;> omega
      · intro hh
        exact absurd (hh q (Nat.le_refl _) (by omega)) h
/-- isSame: one of the rollings of F is Q -/
def sme (F Q : Nat → Nat) (n : Nat) : Nat → Nat → Bool
  | 0, _ => decide (n = 0)
  | m + 1, a => if ∀ i, i < n → rn (rot F n a) i = Q i then true else sme F Q n m (a + 1)
theorem sme_0 {F Q : Nat → Nat} {n : Nat} (h : n = 0) : sme F Q n n 0 = true := by subst h; rfl
theorem m_isSame (n s : Nat) (F Q : Nat → Nat) (h : HH) (hn : n ≤ 16) (hs : s < 256) (hR : RW n F s h) (hF52 : ∀ i, i < n → F i < 52) (hQ : ∀ i, i < n → h 51 0 i = (Q i : Int)) :
    Sp mX11_isSame [vr 40 0, vi n] h (fun z g => z = some (vi (b01 (sme F Q n n 0))) ∧ Fr [(52, 0)] [] h g) := by
  refine Sp.of rfl kX11_isSame (Nat.le_of_ble_eq_true rfl) ?_
  have Lo : ∀ (d a : Nat) (g : HH) (b : Bool), a + d = n → Fr [(52, 0)] [] h g → ((b = true ∧ sme F Q n n 0 = true) ∨ (b = false ∧ sme F Q n n 0 = sme F Q n d a)) → (n = 0 → b = true) → AW mX11_isSame (fun z g => z = some (vi (b01 (sme F Q n n 0))) ∧ Fr [(52, 0)] [] h g) 23 [(3, vi a), (2, vi (b01 b)), (0, vr 40 0), (1, vi n)] [] g := by
    intro d
    induction d with
    | zero =>
      intro a g b ha hF hb h0
      have hz : g 40 0 20 = (n : Int) := by rw [hF 40 0 20 (by simp) (by simp)]; exact hR.1
      have e : sme F Q n n 0 = b := by
        rcases hb with ⟨h1, h2⟩ | ⟨h1, h2⟩
        · rw [h1, h2]
        · rw [h1, h2]
          show decide (n = 0) = false
          exact decide_eq_false (fun z => by rw [h0 z] at h1; cases h1)
      have b01b : b01 b = 0 ∨ b01 b = 1 := by cases b <;> simp [b01]
      refine u_iloadn (k := 13) rfl rfl ?_
      refine u_aloadn (k := 14) rfl rfl ?_
      refine a_geti (k := 15) rfl fRX11_156 rfl rfl ?_
      rw [hz]
      refine a_icmp_ge (k := 16) rfl (fun c_28 => ?_) (fun c_28 => ?_)
      · refine u_iloadn (k := 60) rfl rfl ?_
        refine a_zreturn (k := 61) rfl rfl (by omega) ?_
        exact ⟨by rw [e], hF⟩
      · omega
    | succ d ih =>
      intro a g b ha hF hb h0
      have hz : g 40 0 20 = (n : Int) := by rw [hF 40 0 20 (by simp) (by simp)]; exact hR.1
      have b01b : b01 b = 0 ∨ b01 b = 1 := by cases b <;> simp [b01]
      by_cases hbt : b = true
      · have e : sme F Q n n 0 = b := by
          rcases hb with ⟨h1, h2⟩ | ⟨h1, h2⟩
          · rw [h1, h2]
          · rw [hbt] at h1; cases h1
        refine u_iloadn (k := 13) rfl rfl ?_
        refine u_aloadn (k := 14) rfl rfl ?_
        refine a_geti (k := 15) rfl fRX11_156 rfl rfl ?_
        rw [hz]
        refine a_icmp_ge (k := 16) rfl (fun c_28 => ?_) (fun c_28 => ?_)
        · omega
        · refine u_aloadn (k := 17) rfl rfl ?_
          refine a_geti (k := 18) rfl fRX11_156 rfl rfl ?_
          refine u_iloadn (k := 19) rfl rfl ?_
          rw [hz]
          refine a_icmp_ne (k := 20) rfl (fun c_36 => ?_) (fun c_36 => ?_)
          · omega
          · refine u_iloadn (k := 21) rfl rfl ?_
            refine a_if_ne (k := 22) rfl (fun c_40 => ?_) (fun c_40 => ?_)
            · refine u_iloadn (k := 60) rfl rfl ?_
              refine a_zreturn (k := 61) rfl rfl (by omega) ?_
              exact ⟨by rw [e], hF⟩
            · rw [hbt] at c_40; exact absurd c_40 (by decide)
      · have hbf : b = false := by revert hbt; cases b <;> simp
        have hb2 : sme F Q n n 0 = sme F Q n (d + 1) a := by
          rcases hb with ⟨h1, h2⟩ | ⟨h1, h2⟩
          · rw [hbf] at h1; cases h1
          · exact h2
        have esm : sme F Q n (d + 1) a = if ∀ i, i < n → rn (rot F n a) i = Q i then true else sme F Q n d (a + 1) := by
          conv => lhs; unfold sme
        have hR1 : RW n F s g := hR.keep (hF 40 0 20 (by simp) (by simp)) (hF 40 0 24 (by simp) (by simp)) (fun k => hF 50 0 k (by simp) (by simp))
        have next : ∀ (g2 : HH) (b2 : Bool) (x4 x6 : Int), Fr [(52, 0)] [] h g2 → (b2 = true ↔ ∀ i, i < n → rn (rot F n a) i = Q i) → AW mX11_isSame (fun z g => z = some (vi (b01 (sme F Q n n 0))) ∧ Fr [(52, 0)] [] h g) 109 [(6, vi x6), (5, vi (b01 b2)), (4, vi x4), (3, vi a), (2, vi (b01 b)), (0, vr 40 0), (1, vi n)] [] g2 := by
          intro g2 b2 x4 x6 hF2 hb2'
          have b01b2 : b01 b2 = 0 ∨ b01 b2 = 1 := by cases b2 <;> simp [b01]
          have hfin : (b2 = true ∧ sme F Q n n 0 = true) ∨ (b2 = false ∧ sme F Q n n 0 = sme F Q n d (a + 1)) := by
            by_cases hh : ∀ i, i < n → rn (rot F n a) i = Q i
            · exact Or.inl ⟨hb2'.mpr hh, by rw [hb2, esm, if_pos hh]⟩
            · refine Or.inr ⟨?_, by rw [hb2, esm, if_neg hh]⟩
              cases b2 with
              | false => rfl
              | true => exact absurd (hb2'.mp rfl) hh
          refine u_iload (k := 56) rfl rfl ?_
          refine a_istoren (k := 57) (lv' := [(2, _), (6, _), (5, _), (4, _), (3, _), (0, _), (1, _)]) rfl (Nat.le_of_ble_eq_true rfl) rfl ?_
          refine u_iinc (k := 58) (lv' := [(3, _), (2, _), (6, _), (5, _), (4, _), (0, _), (1, _)]) rfl rfl (Nat.le_of_ble_eq_true rfl) (by omega) rfl ?_
          refine a_goto (k := 59) rfl ?_
          refine a_sub [0, 1, 5, 6] rfl ?_
          exact ih (a + 1) g2 b2 (by omega) hF2 hfin (fun z => by omega)
        have Li : ∀ (g2 : HH), Fr [(52, 0)] [] h g2 → (∀ i, i < n → g2 52 0 i = (rn (rot F n a) i : Int)) → ∀ (e q : Nat) (b2 : Bool) (x4 : Int), q + e = n → (b2 = true ↔ ∀ i, i < q → rn (rot F n a) i = Q i) → AW mX11_isSame (fun z g => z = some (vi (b01 (sme F Q n n 0))) ∧ Fr [(52, 0)] [] h g) 65 [(6, vi q), (5, vi (b01 b2)), (4, vi x4), (3, vi a), (2, vi (b01 b)), (0, vr 40 0), (1, vi n)] [] g2 := by
          intro g2 hF2 ha2 e
          have hz2 : g2 40 0 20 = (n : Int) := by rw [hF2 40 0 20 (by simp) (by simp)]; exact hR.1
          have hQ2 : ∀ i, i < n → g2 51 0 i = (Q i : Int) := fun i hi => by rw [hF2 51 0 i (by simp) (by simp)]; exact hQ i hi
          induction e with
          | zero =>
            intro q b2 x4 hq hb2'
            have hq : q = n := by omega
            subst hq
            refine u_iload (k := 35) rfl rfl ?_
            refine u_aloadn (k := 36) rfl rfl ?_
            refine a_geti (k := 37) rfl fRX11_156 rfl rfl ?_
            rw [hz2]
            refine a_icmp_ge (k := 38) rfl (fun c_71 => ?_) (fun c_71 => ?_)
            · exact next g2 b2 x4 _ hF2 hb2'
            · omega
          | succ e ihe =>
            intro q b2 x4 hq hb2'
            have a1 := ha2 q (by omega)
            have a2 := hQ2 q (by omega)
            have stp : ∀ (v : Int) (b3 : Bool), v = b01 b3 → (b3 = true ↔ b2 = true ∧ rn (rot F n a) q = Q q) → AW mX11_isSame (fun z g => z = some (vi (b01 (sme F Q n n 0))) ∧ Fr [(52, 0)] [] h g) 101 [(6, vi q), (5, vi (b01 b2)), (4, vi x4), (3, vi a), (2, vi (b01 b)), (0, vr 40 0), (1, vi n)] [vi v] g2 := by
              intro v b3 hv h3
              subst hv
              refine a_istore (k := 53) (lv' := [(5, _), (6, _), (4, _), (3, _), (2, _), (0, _), (1, _)]) rfl (Nat.le_of_ble_eq_true rfl) rfl ?_
              refine u_iinc (k := 54) (lv' := [(6, _), (5, _), (4, _), (3, _), (2, _), (0, _), (1, _)]) rfl rfl (Nat.le_of_ble_eq_true rfl) (by omega) rfl ?_
              refine a_goto (k := 55) rfl ?_
              refine ihe (q + 1) b3 x4 (by omega) ?_
              rw [h3, hb2']
              constructor
              · rintro ⟨k1, k2⟩ i hi
                by_cases he : i = q
                · subst he; exact k2
                · exact k1 i (by omega)
              · intro k1
                exact ⟨fun i hi => k1 i (by omega), k1 q (by omega)⟩
            refine u_iload (k := 35) rfl rfl ?_
            refine u_aloadn (k := 36) rfl rfl ?_
            refine a_geti (k := 37) rfl fRX11_156 rfl rfl ?_
            rw [hz2]
            refine a_icmp_ge (k := 38) rfl (fun c_71 => ?_) (fun c_71 => ?_)
            · omega
            · refine u_iload (k := 39) rfl rfl ?_
              refine a_if_eq (k := 40) rfl (fun c_76 => ?_) (fun c_76 => ?_)
              · have e76 := b01_f c_76
                refine a_iconst (k := 52) rfl ?_
                first
                  | exact stp 1 true rfl ⟨fun _ => ⟨e76, by omega⟩, fun _ => rfl⟩
                  | exact stp 0 false rfl ⟨fun z => (by cases z), fun z => absurd z.2 (by omega)⟩
                  | exact stp 0 false rfl ⟨fun z => (by cases z), fun z => by rw [e76] at z; cases z.1⟩
              · have e76 := b01_t c_76
                refine u_aloadn (k := 41) rfl rfl ?_
                refine a_getr (k := 42) rfl fRX11_48 rfl rfl rfl ?_
                refine u_iload (k := 43) rfl rfl ?_
                refine u_iald (k := 44) rfl rfl rfl (by omega) ?_
                refine u_aloadn (k := 45) rfl rfl ?_
                refine a_getr (k := 46) rfl fRX11_45 rfl rfl rfl ?_
                refine u_iload (k := 47) rfl rfl ?_
                refine u_iald (k := 48) rfl rfl rfl (by omega) ?_
                rw [a1, a2]
                refine a_icmp_ne (k := 49) rfl (fun c_93 => ?_) (fun c_93 => ?_)
                · refine a_iconst (k := 52) rfl ?_
                  first
                    | exact stp 1 true rfl ⟨fun _ => ⟨e76, by omega⟩, fun _ => rfl⟩
                    | exact stp 0 false rfl ⟨fun z => (by cases z), fun z => absurd z.2 (by omega)⟩
                    | exact stp 0 false rfl ⟨fun z => (by cases z), fun z => by rw [e76] at z; cases z.1⟩
                · refine a_iconst (k := 50) rfl ?_
                  refine a_goto (k := 51) rfl ?_
                  first
                    | exact stp 1 true rfl ⟨fun _ => ⟨e76, by omega⟩, fun _ => rfl⟩
                    | exact stp 0 false rfl ⟨fun z => (by cases z), fun z => absurd z.2 (by omega)⟩
                    | exact stp 0 false rfl ⟨fun z => (by cases z), fun z => by rw [e76] at z; cases z.1⟩
        refine u_iloadn (k := 13) rfl rfl ?_
        refine u_aloadn (k := 14) rfl rfl ?_
        refine a_geti (k := 15) rfl fRX11_156 rfl rfl ?_
        rw [hz]
        refine a_icmp_ge (k := 16) rfl (fun c_28 => ?_) (fun c_28 => ?_)
        · omega
        · refine u_aloadn (k := 17) rfl rfl ?_
          refine a_geti (k := 18) rfl fRX11_156 rfl rfl ?_
          refine u_iloadn (k := 19) rfl rfl ?_
          rw [hz]
          refine a_icmp_ne (k := 20) rfl (fun c_36 => ?_) (fun c_36 => ?_)
          · omega
          · refine u_iloadn (k := 21) rfl rfl ?_
            refine a_if_ne (k := 22) rfl (fun c_40 => ?_) (fun c_40 => ?_)
            · rw [hbf] at c_40; exact absurd rfl c_40
            · refine u_aloadn (k := 23) rfl rfl ?_
              refine u_iloadn (k := 24) rfl rfl ?_
              refine ui_virt1 (M' := mX11_numbers) (k := 25) rfl lRX11_176 oX11_numbers vX11_numbers ⟨Nat.le_of_ble_eq_true rfl, Nat.le_of_ble_eq_true rfl⟩ rfl rfl (Nat.le_of_ble_eq_true rfl) (m_numbers n a s F g hn (by omega) hs hR1 hF52) (by intro r g hp; exact ⟨_, hp.1⟩) (fun z g2 hg2 => ?_)
              obtain ⟨hz', ha2, hF2⟩ := hg2; cases hz'
              refine a_istore (k := 26) (lv' := [(4, _), (3, _), (2, _), (0, _), (1, _)]) rfl (Nat.le_of_ble_eq_true rfl) rfl ?_
              refine u_iload (k := 27) rfl rfl ?_
              refine a_if_lt (k := 28) rfl (fun c_52 => ?_) (fun c_52 => ?_)
              · omega
              · refine a_iconst (k := 29) rfl ?_
                refine a_goto (k := 30) rfl ?_
                refine a_istore (k := 32) (lv' := [(5, _), (4, _), (3, _), (2, _), (0, _), (1, _)]) rfl (Nat.le_of_ble_eq_true rfl) rfl ?_
                refine a_iconst (k := 33) rfl ?_
                refine a_istore (k := 34) (lv' := [(6, _), (5, _), (4, _), (3, _), (2, _), (0, _), (1, _)]) rfl (Nat.le_of_ble_eq_true rfl) rfl ?_
                exact Li g2 (hF.tr hF2 (by simp) (by simp)) ha2 n 0 true _ (by omega) ⟨fun _ i hi => absurd hi (Nat.not_lt_zero i), fun _ => rfl⟩
  refine u_aloadn (k := 0) rfl rfl ?_
  refine a_geti (k := 1) rfl fRX11_156 rfl rfl ?_
  refine u_iloadn (k := 2) rfl rfl ?_
  rw [hR.1]
  refine a_icmp_ne (k := 3) rfl (fun c_5 => ?_) (fun c_5 => ?_)
  · exact absurd rfl c_5
  · refine u_aloadn (k := 4) rfl rfl ?_
    refine a_geti (k := 5) rfl fRX11_156 rfl rfl ?_
    rw [hR.1]
    refine a_if_ne (k := 6) rfl (fun c_12 => ?_) (fun c_12 => ?_)
    · refine a_iconst (k := 9) rfl ?_
      refine a_istoren (k := 10) (lv' := [(2, _), (0, _), (1, _)]) rfl (Nat.le_of_ble_eq_true rfl) rfl ?_
      refine a_iconst (k := 11) rfl ?_
      refine a_istoren (k := 12) (lv' := [(3, _), (2, _), (0, _), (1, _)]) rfl (Nat.le_of_ble_eq_true rfl) rfl ?_
      first
        | exact Lo n 0 h true (by omega) Fr.rf (Or.inl ⟨rfl, sme_0 (by omega)⟩) (fun _ => rfl)
        | exact Lo n 0 h false (by omega) Fr.rf (Or.inr ⟨rfl, rfl⟩) (fun z => by omega)
    · refine a_iconst (k := 7) rfl ?_
      refine a_goto (k := 8) rfl ?_
      refine a_istoren (k := 10) (lv' := [(2, _), (0, _), (1, _)]) rfl (Nat.le_of_ble_eq_true rfl) rfl ?_
      refine a_iconst (k := 11) rfl ?_
      refine a_istoren (k := 12) (lv' := [(3, _), (2, _), (0, _), (1, _)]) rfl (Nat.le_of_ble_eq_true rfl) rfl ?_
      first
        | exact Lo n 0 h true (by omega) Fr.rf (Or.inl ⟨rfl, sme_0 (by omega)⟩) (fun _ => rfl)
        | exact Lo n 0 h false (by omega) Fr.rf (Or.inr ⟨rfl, rfl⟩) (fun z => by omega)
