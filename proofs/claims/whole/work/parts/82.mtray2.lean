theorem rs_le {p : PS} {l q e : Nat} (h : rs p l q = .inr e) : e ≤ 5 := by
  have hpass : ∀ x o, rpass p x o = .inr e → e ≤ 5 := fun x o h => by
    unfold rpass at h
    split at h
    · cases h; omega
    · split at h
      · cases h; omega
      · cases h
  have hnum : rnum p l = .inr e → e ≤ 5 := fun h => by
    unfold rnum at h
    split at h
    · cases h
    · cases h; omega
  unfold rs at h
  split at h
  · cases h
  · split at h
    · split at h
      · cases h
      · cases h; omega
    · split at h
      · split at h
        · cases h
        · cases h; omega
      · split at h
        · split at h
          · split at h
            · cases h; omega
            · cases h
          · exact hnum h
        · split at h
          · exact hnum h
          · split at h
            · split at h
              · cases h; omega
              · split at h
                · cases h; omega
                · split at h
                  · cases h; omega
                  · cases h
            · split at h
              · exact hpass _ _ h
              · split at h
                · exact hpass _ _ h
                · split at h
                  · unfold rend at h
                    split at h
                    · cases h
                    · cases h; omega
                  · cases h; omega
theorem rgo_le {tx : Nat → Nat} : ∀ {q : Nat} {e : Nat × Nat}, rgo tx q = .inr e → e.1 ≤ 5
  | 0, e, h => by cases h
  | q + 1, e, h => by
    unfold rgo at h
    cases hq : rgo tx q with
    | inr e0 =>
      rw [hq] at h
      cases h
      exact rgo_le hq
    | inl p0 =>
      rw [hq] at h
      dsimp only at h
      cases hr : rs p0 (tx q) q with
      | inl p1 => rw [hr] at h; cases h
      | inr e1 =>
        rw [hr] at h
        cases h
        exact rs_le hr
theorem vd_le {tx : Nat → Nat} {L e w : Nat} (h : vd tx L = some (e, w)) : e ≤ 5 := by
  unfold vd at h
  cases hr : rgo tx L with
  | inr x =>
    rw [hr] at h
    cases h
    exact rgo_le hr
  | inl p =>
    rw [hr] at h
    dsimp only at h
    split at h
    · cases h
    · cases h
      omega
theorem rsl_00 (f : Nat → Nat) : ∀ n, rsl f 0 n = 0
  | 0 => rfl
  | n + 1 => by
    show rsl f 0 n ||| (if (0 : Nat).testBit (f n / 2) then 2 ^ cr f n else 0) = 0
    rw [rsl_00 f n, Nat.zero_testBit, if_neg (by decide)]
    rfl
theorem tray_bad {σ : AS} {e w : Nat} (h : vd σ.tx σ.L = some (e, w)) : o_tray σ = (-10 - (e : Int), mkA σ.now σ.laid 0 σ.tx (w : Int) σ.drawn σ.cnt σ.hist σ.ents σ.book σ.kept σ.img σ.iseed) := by
  unfold vd at h
  unfold o_tray
  cases hr : rgo σ.tx σ.L with
  | inr x =>
    rw [hr] at h
    cases h
    rfl
  | inl p =>
    rw [hr] at h
    dsimp only at h ⊢
    by_cases hed : ed p = true
    · rw [if_pos hed] at h; cases h
    · rw [if_neg hed] at h ⊢
      cases h
      rfl
theorem n_tray {B : Nat} {σ : AS} {h : HH} (hW : WA B σ) (hM : MR σ h) : Sp mX11_tray [vr 40 0] h (MP (o_tray σ) h) := by
  have h01 : h 40 0 1 = 0 ∨ h 40 0 1 = 1 := by rw [hM.laid]; cases σ.laid <;> simp [b01]
  have hrd := m_reads σ.L σ.tx h ⟨hM.L, hM.tx⟩ hW.L hW.tx h01
  have bad : ∀ (g : HH), Fr trm krm h g → FS σ.L σ.tx g → g 40 0 1 = h 40 0 1 → AW mX11_tray (MP (o_tray σ) h) 4 [(0, vr 40 0)] [] g := by
    intro g hF hS h1
    obtain ⟨e, w, e1, e2, e3, e4⟩ := hS
    have he5 : e ≤ 100 := by
      by_cases hh : e ≤ 100
      · exact hh
      · exfalso
        exact absurd (vd_le e4) (by omega)
    rw [tray_bad e4]
    refine u_aloadn (k := 2) rfl rfl ?_
    refine a_iconst (k := 3) rfl ?_
    refine a_puti (k := 4) rfl pRX11_98 rfl rfl ?_
    refine u_aloadn (k := 5) rfl rfl ?_
    refine u_aloadn (k := 6) rfl rfl ?_
    refine a_geti (k := 7) rfl fRX11_108 rfl rfl ?_
    rw [put_ne (by simp), e3]
    refine a_puti (k := 8) rfl pRX11_23 rfl rfl ?_
    refine u_aloadn (k := 9) rfl rfl ?_
    refine a_geti (k := 10) rfl fRX11_105 rfl rfl ?_
    rw [put_ne (by simp), put_ne (by simp), e2]
    refine a_if_le (k := 11) rfl (fun c_21 => ?_) (fun c_21 => ?_)
    · omega
    · refine a_bipush (k := 12) rfl ?_
      refine u_aloadn (k := 13) rfl rfl ?_
      refine a_geti (k := 14) rfl fRX11_105 rfl rfl ?_
      rw [put_ne (by simp), put_ne (by simp), e2]
      refine u_isub (k := 15) rfl (by omega) ?_
      refine a_ireturn (k := 16) rfl rfl ?_
      refine ⟨rfl, hM.flds hW (fun k => ?_) rfl rfl (Or.inr rfl) rfl (fun i hi hk => ⟨hk, ?_⟩) ?_ ?_ (fun i hi => absurd hi (Nat.not_lt_zero i)) ?_ ?_ ?_ ?_ (fun i hi => ?_) (fun i hi => ?_), (((Fr.mo hF (by simp [trm]) (by simp [krm])).pt (by omega)).pt (by omega))⟩
      · simp only [put_apply, Nat.reduceEqDiff, reduceIte, false_and, and_false, true_and, and_true, and_self, if_false, if_true, not_false_eq_true, not_true_eq_false, ne_eq]; exact hF 41 0 k (by simp [trm]) (by simp [krm])
      · simp only [put_apply, Nat.reduceEqDiff, reduceIte, false_and, and_false, true_and, and_true, and_self, if_false, if_true, not_false_eq_true, not_true_eq_false, ne_eq]; rw [hF 42 0 i (by simp [trm]) (by simp [krm])]; exact (hM.img i hi hk).2
      · simp only [put_apply, Nat.reduceEqDiff, reduceIte, false_and, and_false, true_and, and_true, and_self, if_false, if_true, not_false_eq_true, not_true_eq_false, ne_eq]; rw [h1]; exact hM.laid
      · simp only [put_apply, Nat.reduceEqDiff, reduceIte, false_and, and_false, true_and, and_true, and_self, if_false, if_true, not_false_eq_true, not_true_eq_false, ne_eq]; rfl
      · simp only [put_apply, Nat.reduceEqDiff, reduceIte, false_and, and_false, true_and, and_true, and_self, if_false, if_true, not_false_eq_true, not_true_eq_false, ne_eq]; rfl
      · simp only [put_apply, Nat.reduceEqDiff, reduceIte, false_and, and_false, true_and, and_true, and_self, if_false, if_true, not_false_eq_true, not_true_eq_false, ne_eq]; rw [hF 40 0 3 (by simp [trm]) (by simp [krm])]; exact hM.drawn
      · simp only [put_apply, Nat.reduceEqDiff, reduceIte, false_and, and_false, true_and, and_true, and_self, if_false, if_true, not_false_eq_true, not_true_eq_false, ne_eq]; rw [hF 40 0 2 (by simp [trm]) (by simp [krm])]; exact hM.cnt
      · simp only [put_apply, Nat.reduceEqDiff, reduceIte, false_and, and_false, true_and, and_true, and_self, if_false, if_true, not_false_eq_true, not_true_eq_false, ne_eq]; rw [hF 40 0 17 (by simp [trm]) (by simp [krm])]; exact hM.ents
      · simp only [put_apply, Nat.reduceEqDiff, reduceIte, false_and, and_false, true_and, and_true, and_self, if_false, if_true, not_false_eq_true, not_true_eq_false, ne_eq]; rw [hF 48 0 i (by simp [trm]) (by simp [krm]), hF 49 0 i (by simp [trm]) (by simp [krm])]; exact hM.book i hi
      · simp only [put_apply, Nat.reduceEqDiff, reduceIte, false_and, and_false, true_and, and_true, and_self, if_false, if_true, not_false_eq_true, not_true_eq_false, ne_eq]; rw [hF 43 0 i (by simp [trm]) (by simp [krm])]; exact hM.kept i hi
  have good : ∀ (g : HH) (p : PS), Fr trm krm h g → rgo σ.tx σ.L = .inl p → ed p = true → g 40 0 9 = 0 → g 40 0 10 = -1 → g 40 0 1 = b01 (decide (p.1 = 4)) → g 40 0 12 = (p.2.2.2.1 : Int) → g 40 0 13 = (p.2.2.2.2.1.1 : Int) → THm p.2.2.2.2.1.1 p.2.2.2.2.1.2 g → AW mX11_tray (MP (o_tray σ) h) 4 [(0, vr 40 0)] [] g := by
    intro g p hF hgo hed g9 g10 g1 g12 g13 gTH
    rw [tray_good hgo hed]
    obtain ⟨k1, k2, k3, k4, k5⟩ := rgo_PK hgo
    have hR : ∀ k, k < p.2.2.2.2.1.1 → (p.2.2.2.2.1.2 k).1 = 2 * ((p.2.2.2.2.1.2 k).1 / 2) ∧ (p.2.2.2.2.1.2 k).1 ≤ 16 := fun k hk => by
      obtain ⟨r1, r2, r3⟩ := k4 k hk
      have := RT_mny r1
      omega
    have mo : FMo h g := Fr.mo hF (by simp [trm]) (by simp [krm])
    have g3 : g 40 0 3 = (σ.drawn : Int) := by rw [hF 40 0 3 (by simp [trm]) (by simp [krm])]; exact hM.drawn
    clear k5 hF
    generalize hK : p.2.2.2.2.1.1 = K at *
    generalize hTT : p.2.2.2.2.1.2 = T at *
    generalize hgr : p.2.2.2.1 = gr at *
    have hpt : ptray p = (K, gr, fun k => ((T k).1 / 2, 0, rn (T k).2)) := by
      unfold ptray
      rw [hK, hTT, hgr]
    rw [hpt]
    have fin : ∀ g2 : HH, FMo h g2 → g2 40 0 3 = (σ.drawn : Int) → g2 40 0 1 = b01 (decide (p.1 = 4)) → g2 40 0 6 = 0 → g2 40 0 11 = -1 → g2 40 0 13 = (K : Int) → g2 41 0 0 = (gr : Int) → g2 41 0 1 = (K : Int) → (∀ j, j < K → RM (2 + 18 * j) ((T j).1 / 2, 0, rn (T j).2) g2) → ∀ x1 : Int, AW mX11_tray (MP ((K : Int), mkA (K, gr, fun k => ((T k).1 / 2, 0, rn (T k).2)) (decide (p.1 = 4)) 0 σ.tx (-1) σ.drawn 0 σ.hist 0 σ.book (fun _ => false) σ.img σ.iseed) h) 142 [(1, vi x1), (0, vr 40 0)] [] g2 := by
      intro g2 m2 a3 a1 a6 a11 a13 b0 b1 bR x1
      refine u_aloadn (k := 81) rfl rfl ?_
      refine a_iconst (k := 82) rfl ?_
      refine a_puti (k := 83) rfl pRX11_166 rfl rfl ?_
      refine u_aloadn (k := 84) rfl rfl ?_
      refine a_iconst (k := 85) rfl ?_
      refine a_puti (k := 86) rfl pRX11_169 rfl rfl ?_
      refine u_aloadn (k := 87) rfl rfl ?_
      refine a_getr (k := 88) rfl fRX11_16 rfl rfl rfl ?_
      refine a_iconst (k := 89) rfl ?_
      refine a_iconst (k := 90) rfl ?_
      refine u_iastx 0 (k := 91) rfl rfl rfl (by omega) (by omega) ?_
      refine u_aloadn (k := 92) rfl rfl ?_
      refine a_getr (k := 93) rfl fRX11_16 rfl rfl rfl ?_
      refine a_iconst (k := 94) rfl ?_
      refine a_iconst (k := 95) rfl ?_
      refine u_iastx 1 (k := 96) rfl rfl rfl (by omega) (by omega) ?_
      refine u_aloadn (k := 97) rfl rfl ?_
      refine a_geti (k := 98) rfl fRX11_140 rfl rfl ?_
      rw [put_ne (by simp), put_ne (by simp), put_ne (by simp), put_ne (by simp), a13]
      refine a_ireturn (k := 99) rfl rfl ?_
      refine ⟨rfl, ⟨⟨?_, ?_, fun k hk => ?_⟩, ?_, ?_, fun i hi => absurd hi (Nat.not_lt_zero i), ?_, ?_, ?_, fun i hi => absurd hi (Nat.not_lt_zero i), ?_, fun i hi => absurd hi (Nat.not_lt_zero i), fun i hi => ?_, fun i hi hk => by cases hk⟩, (((m2.pt (by omega)).pt (by omega)).pt (by omega)).pt (by omega)⟩
      · simp only [put_apply, Nat.reduceEqDiff, reduceIte, false_and, and_false, true_and, and_true, and_self, if_false, if_true, not_false_eq_true, not_true_eq_false, ne_eq]; exact b0
      · simp only [put_apply, Nat.reduceEqDiff, reduceIte, false_and, and_false, true_and, and_true, and_self, if_false, if_true, not_false_eq_true, not_true_eq_false, ne_eq]; exact b1
      · rw [show 92 * 0 + 2 + 18 * k = 2 + 18 * k by omega]
        obtain ⟨z1, z2, z3⟩ := bR k hk
        exact ⟨by simp only [put_apply, Nat.reduceEqDiff, reduceIte, false_and, and_false, true_and, and_true, and_self, if_false, if_true, not_false_eq_true, not_true_eq_false, ne_eq]; exact z1, by simp only [put_apply, Nat.reduceEqDiff, reduceIte, false_and, and_false, true_and, and_true, and_self, if_false, if_true, not_false_eq_true, not_true_eq_false, ne_eq]; exact z2, fun i hi => by simp only [put_apply, Nat.reduceEqDiff, reduceIte, false_and, and_false, true_and, and_true, and_self, if_false, if_true, not_false_eq_true, not_true_eq_false, ne_eq]; exact z3 i hi⟩
      · simp only [put_apply, Nat.reduceEqDiff, reduceIte, false_and, and_false, true_and, and_true, and_self, if_false, if_true, not_false_eq_true, not_true_eq_false, ne_eq]; exact a1
      · simp only [put_apply, Nat.reduceEqDiff, reduceIte, false_and, and_false, true_and, and_true, and_self, if_false, if_true, not_false_eq_true, not_true_eq_false, ne_eq]; exact a6
      · simp only [put_apply, Nat.reduceEqDiff, reduceIte, false_and, and_false, true_and, and_true, and_self, if_false, if_true, not_false_eq_true, not_true_eq_false, ne_eq]; exact a11
      · simp only [put_apply, Nat.reduceEqDiff, reduceIte, false_and, and_false, true_and, and_true, and_self, if_false, if_true, not_false_eq_true, not_true_eq_false, ne_eq]; exact a3
      · simp only [put_apply, Nat.reduceEqDiff, reduceIte, false_and, and_false, true_and, and_true, and_self, if_false, if_true, not_false_eq_true, not_true_eq_false, ne_eq]; rfl
      · simp only [put_apply, Nat.reduceEqDiff, reduceIte, false_and, and_false, true_and, and_true, and_self, if_false, if_true, not_false_eq_true, not_true_eq_false, ne_eq]; rfl
      · show _ = (if false = true then _ else (0 : Int))
        rw [if_neg (by decide)]
        have hi2 : i = 0 ∨ i = 1 := by omega
        rcases hi2 with rfl | rfl
        · simp only [put_apply, Nat.reduceEqDiff, reduceIte, false_and, and_false, true_and, and_true, and_self, if_false, if_true, not_false_eq_true, not_true_eq_false, ne_eq]
        · simp only [put_apply, Nat.reduceEqDiff, reduceIte, false_and, and_false, true_and, and_true, and_self, if_false, if_true, not_false_eq_true, not_true_eq_false, ne_eq]
    have Lk : ∀ (d k : Nat) (g2 : HH), k + d = K → FMo h g2 → g2 40 0 3 = (σ.drawn : Int) → g2 40 0 1 = b01 (decide (p.1 = 4)) → g2 40 0 6 = 0 → g2 40 0 11 = -1 → g2 40 0 13 = (K : Int) → THm K T g2 → g2 41 0 0 = (gr : Int) → g2 41 0 1 = (K : Int) → (∀ j, j < k → RM (2 + 18 * j) ((T j).1 / 2, 0, rn (T j).2) g2) → AW mX11_tray (MP ((K : Int), mkA (K, gr, fun k => ((T k).1 / 2, 0, rn (T k).2)) (decide (p.1 = 4)) 0 σ.tx (-1) σ.drawn 0 σ.hist 0 σ.book (fun _ => false) σ.img σ.iseed) h) 75 [(1, vi k), (0, vr 40 0)] [] g2 := by
      intro d
      induction d with
      | zero =>
        intro k g2 hk m2 a3 a1 a6 a11 a13 aT b0 b1 bR
        have hk : k = K := by omega
        subst hk
        refine u_iloadn (k := 43) rfl rfl ?_
        refine u_aloadn (k := 44) rfl rfl ?_
        refine a_geti (k := 45) rfl fRX11_140 rfl rfl ?_
        rw [a13]
        refine a_icmp_ge (k := 46) rfl (fun c_80 => ?_) (fun c_80 => ?_)
        · exact fin g2 m2 a3 a1 a6 a11 a13 b0 b1 bR _
        · omega
      | succ d ih =>
        intro k g2 hk m2 a3 a1 a6 a11 a13 aT b0 b1 bR
        have hkK : k < K := by omega
        obtain ⟨r1, r2, r3⟩ := k4 k hkK
        obtain ⟨hev, h16⟩ := hR k hkK
        obtain ⟨t1, t2⟩ := aT k hkK
        have Li : ∀ (e q : Nat) (g3 : HH), q + e = (T k).1 → Fr [(50, 0)] [(40, 0, 20)] g2 g3 → g3 40 0 20 = ((T k).1 : Int) → (∀ i, i < q → g3 50 0 i = ((T k).2 i : Int)) → AW mX11_tray (MP ((K : Int), mkA (K, gr, fun k => ((T k).1 / 2, 0, rn (T k).2)) (decide (p.1 = 4)) 0 σ.tx (-1) σ.drawn 0 σ.hist 0 σ.book (fun _ => false) σ.img σ.iseed) h) 95 [(2, vi q), (1, vi k), (0, vr 40 0)] [] g3 := by
          intro e
          induction e with
          | zero =>
            intro q g3 hq hF3 h20 hrow
            have hq : q = (T k).1 := by omega
            subst hq
            have hRW : RW (T k).1 (T k).2 0 (put g3 40 0 24 0) := ⟨by simp only [put_apply, Nat.reduceEqDiff, reduceIte, false_and, and_false, true_and, and_true, and_self, if_false, if_true, not_false_eq_true, not_true_eq_false, ne_eq]; exact h20, by simp only [put_apply, Nat.reduceEqDiff, reduceIte, false_and, and_false, true_and, and_true, and_self, if_false, if_true, not_false_eq_true, not_true_eq_false, ne_eq]; rfl, fun i hi => by simp only [put_apply, Nat.reduceEqDiff, reduceIte, false_and, and_false, true_and, and_true, and_self, if_false, if_true, not_false_eq_true, not_true_eq_false, ne_eq]; exact hrow i hi⟩
            refine u_iloadn (k := 55) rfl rfl ?_
            refine u_aloadn (k := 56) rfl rfl ?_
            refine a_geti (k := 57) rfl fRX11_156 rfl rfl ?_
            rw [h20]
            refine a_icmp_ge (k := 58) rfl (fun c_100 => ?_) (fun c_100 => ?_)
            · refine u_aloadn (k := 73) rfl rfl ?_
              refine a_iconst (k := 74) rfl ?_
              refine a_puti (k := 75) rfl pRX11_159 rfl rfl ?_
              refine u_aloadn (k := 76) rfl rfl ?_
              refine u_iloadn (k := 77) rfl rfl ?_
              refine uv_virt1 (M' := mX11_stores) (k := 78) rfl lRX11_162 oX11_stores vX11_stores ⟨Nat.le_of_ble_eq_true rfl, Nat.le_of_ble_eq_true rfl⟩ rfl rfl (Nat.le_of_ble_eq_true rfl) (m_stores k (T k).1 0 (T k).2 (put g3 40 0 24 0) (by omega) h16 (by omega) hRW r3) (by intro r g hp; exact hp.1) (fun g4 hg4 => ?_)
              obtain ⟨-, s1, s2, s3, hF4⟩ := hg4
              refine u_iinc (k := 79) (lv' := [(1, _), (2, _), (0, _)]) rfl rfl (Nat.le_of_ble_eq_true rfl) (by omega) rfl ?_
              refine a_goto (k := 80) rfl ?_
              refine a_sub [0, 2] rfl ?_
              have fr : ∀ t i z, t ≠ 50 → t ≠ 52 → ¬ (t = 40 ∧ i = 0 ∧ (z = 20 ∨ z = 24)) → ¬ (t = 41 ∧ 2 + 18 * k ≤ z ∧ z < 2 + 18 * k + 18) → g4 t i z = g2 t i z := fun t i z n1 n2 n3 n4 => by
                rw [hF4 t i z (by simp [n2]) (by simp) n4, put_ne (by omega)]
                exact hF3 t i z (by simp [n1]) (by simp; omega)
              refine ih (k + 1) g4 (by omega) (fun t i z ht => by rw [fr t i z (by omega) (by omega) (by omega) (by omega)]; exact m2 t i z ht) (by rw [fr 40 0 3 (by omega) (by omega) (by omega) (by omega)]; exact a3) (by rw [fr 40 0 1 (by omega) (by omega) (by omega) (by omega)]; exact a1) (by rw [fr 40 0 6 (by omega) (by omega) (by omega) (by omega)]; exact a6) (by rw [fr 40 0 11 (by omega) (by omega) (by omega) (by omega)]; exact a11) (by rw [fr 40 0 13 (by omega) (by omega) (by omega) (by omega)]; exact a13) (fun j hj => ⟨by rw [fr 45 0 j (by omega) (by omega) (by omega) (by omega)]; exact (aT j hj).1, fun i hi => by rw [fr 46 0 _ (by omega) (by omega) (by omega) (by omega)]; exact (aT j hj).2 i hi⟩) (by rw [fr 41 0 0 (by omega) (by omega) (by omega) (by omega)]; exact b0) (by rw [fr 41 0 1 (by omega) (by omega) (by omega) (by omega)]; exact b1) (fun j hj => ?_)
              by_cases he : j = k
              · subst he
                refine ⟨?_, ?_, fun i hi => ?_⟩
                · rw [s1]; show ((T j).1 : Int) = ((2 * ((T j).1 / 2) : Nat) : Int); omega
                · rw [s2, rsl_00]
                · have hi : i < 2 * ((T j).1 / 2) := hi
                  exact s3 i (by omega)
              · have := (bR j (by omega)).keep (g := g4) (by show (T j).1 / 2 ≤ 8; have := (hR j (by omega)).2; omega) (fun z z1 z2 => fr 41 0 z (by omega) (by omega) (by omega) (by omega))
                exact this
            · omega
          | succ e ihe =>
            intro q g3 hq hF3 h20 hrow
            have e46 : g3 46 0 (16 * k + q) = ((T k).2 q : Int) := by rw [hF3 46 0 _ (by simp) (by simp)]; exact t2 q (by omega)
            refine u_iloadn (k := 55) rfl rfl ?_
            refine u_aloadn (k := 56) rfl rfl ?_
            refine a_geti (k := 57) rfl fRX11_156 rfl rfl ?_
            rw [h20]
            refine a_icmp_ge (k := 58) rfl (fun c_100 => ?_) (fun c_100 => ?_)
            · omega
            · refine u_aloadn (k := 59) rfl rfl ?_
              refine a_getr (k := 60) rfl fRX11_42 rfl rfl rfl ?_
              refine u_iloadn (k := 61) rfl rfl ?_
              refine u_aloadn (k := 62) rfl rfl ?_
              refine a_getr (k := 63) rfl fRX11_30 rfl rfl rfl ?_
              refine a_bipush (k := 64) rfl ?_
              refine u_iloadn (k := 65) rfl rfl ?_
              refine u_imul (k := 66) rfl (by omega) ?_
              refine u_iloadn (k := 67) rfl rfl ?_
              refine u_iadd (k := 68) rfl (by omega) ?_
              refine u_ialdx (16 * k + q) (k := 69) rfl rfl rfl (by omega) (by omega) ?_
              rw [e46]
              refine u_iast (k := 70) rfl rfl rfl (by omega) ?_
              refine u_iinc (k := 71) (lv' := [(2, _), (1, _), (0, _)]) rfl rfl (Nat.le_of_ble_eq_true rfl) (by omega) rfl ?_
              refine a_goto (k := 72) rfl ?_
              refine ihe (q + 1) _ (by omega) (hF3.p1 (by simp)) (by simp only [put_apply, Nat.reduceEqDiff, reduceIte, false_and, and_false, true_and, and_true, and_self, if_false, if_true, not_false_eq_true, not_true_eq_false, ne_eq]; exact h20) (fun i hi => ?_)
              by_cases he : i = q
              · subst he; rw [put_eq]
              · rw [put_ne (by simp [he])]; exact hrow i (by omega)
        refine u_iloadn (k := 43) rfl rfl ?_
        refine u_aloadn (k := 44) rfl rfl ?_
        refine a_geti (k := 45) rfl fRX11_140 rfl rfl ?_
        rw [a13]
        refine a_icmp_ge (k := 46) rfl (fun c_80 => ?_) (fun c_80 => ?_)
        · omega
        · refine u_aloadn (k := 47) rfl rfl ?_
          refine u_aloadn (k := 48) rfl rfl ?_
          refine a_getr (k := 49) rfl fRX11_27 rfl rfl rfl ?_
          refine u_iloadn (k := 50) rfl rfl ?_
          refine u_iald (k := 51) rfl rfl rfl (by omega) ?_
          rw [t1]
          refine a_puti (k := 52) rfl pRX11_156 rfl rfl ?_
          refine a_iconst (k := 53) rfl ?_
          refine a_istoren (k := 54) (lv' := [(2, _), (1, _), (0, _)]) rfl (Nat.le_of_ble_eq_true rfl) rfl ?_
          exact Li (T k).1 0 _ (by omega) (Fr.rf.p2 (by simp)) (by rw [put_eq]) (fun i hi => absurd hi (Nat.not_lt_zero i))
    have Lz : ∀ (d q : Nat) (g2 : HH), q + d = 92 → FMo h g2 → g2 40 0 3 = (σ.drawn : Int) → g2 40 0 1 = b01 (decide (p.1 = 4)) → g2 40 0 6 = 0 → g2 40 0 11 = -1 → g2 40 0 12 = (gr : Int) → g2 40 0 13 = (K : Int) → THm K T g2 → AW mX11_tray (MP ((K : Int), mkA (K, gr, fun k => ((T k).1 / 2, 0, rn (T k).2)) (decide (p.1 = 4)) 0 σ.tx (-1) σ.drawn 0 σ.hist 0 σ.book (fun _ => false) σ.img σ.iseed) h) 34 [(1, vi q), (0, vr 40 0)] [] g2 := by
      intro d
      induction d with
      | zero =>
        intro q g2 hq m2 a3 a1 a6 a11 a12 a13 aT
        refine u_iloadn (k := 19) rfl rfl ?_
        refine a_bipush (k := 20) rfl ?_
        refine a_icmp_ge (k := 21) rfl (fun c_37 => ?_) (fun c_37 => ?_)
        · refine u_aloadn (k := 29) rfl rfl ?_
          refine a_getr (k := 30) rfl fRX11_7 rfl rfl rfl ?_
          refine a_iconst (k := 31) rfl ?_
          refine u_aloadn (k := 32) rfl rfl ?_
          refine a_geti (k := 33) rfl fRX11_123 rfl rfl ?_
          rw [a12]
          refine u_iastx 0 (k := 34) rfl rfl rfl (by omega) (by omega) ?_
          refine u_aloadn (k := 35) rfl rfl ?_
          refine a_getr (k := 36) rfl fRX11_7 rfl rfl rfl ?_
          refine a_iconst (k := 37) rfl ?_
          refine u_aloadn (k := 38) rfl rfl ?_
          refine a_geti (k := 39) rfl fRX11_140 rfl rfl ?_
          rw [put_ne (by simp), a13]
          refine u_iastx 1 (k := 40) rfl rfl rfl (by omega) (by omega) ?_
          refine a_iconst (k := 41) rfl ?_
          refine a_istoren (k := 42) (lv' := [(1, _), (0, _)]) rfl (Nat.le_of_ble_eq_true rfl) rfl ?_
          refine Lk K 0 _ (by omega) ((m2.pt (by omega)).pt (by omega)) (by simp only [put_apply, Nat.reduceEqDiff, reduceIte, false_and, and_false, true_and, and_true, and_self, if_false, if_true, not_false_eq_true, not_true_eq_false, ne_eq]; exact a3) (by simp only [put_apply, Nat.reduceEqDiff, reduceIte, false_and, and_false, true_and, and_true, and_self, if_false, if_true, not_false_eq_true, not_true_eq_false, ne_eq]; exact a1) (by simp only [put_apply, Nat.reduceEqDiff, reduceIte, false_and, and_false, true_and, and_true, and_self, if_false, if_true, not_false_eq_true, not_true_eq_false, ne_eq]; exact a6) (by simp only [put_apply, Nat.reduceEqDiff, reduceIte, false_and, and_false, true_and, and_true, and_self, if_false, if_true, not_false_eq_true, not_true_eq_false, ne_eq]; exact a11) (by simp only [put_apply, Nat.reduceEqDiff, reduceIte, false_and, and_false, true_and, and_true, and_self, if_false, if_true, not_false_eq_true, not_true_eq_false, ne_eq]; exact a13) (fun j hj => ⟨by simp only [put_apply, Nat.reduceEqDiff, reduceIte, false_and, and_false, true_and, and_true, and_self, if_false, if_true, not_false_eq_true, not_true_eq_false, ne_eq]; exact (aT j hj).1, fun i hi => by simp only [put_apply, Nat.reduceEqDiff, reduceIte, false_and, and_false, true_and, and_true, and_self, if_false, if_true, not_false_eq_true, not_true_eq_false, ne_eq]; exact (aT j hj).2 i hi⟩) (by simp only [put_apply, Nat.reduceEqDiff, reduceIte, false_and, and_false, true_and, and_true, and_self, if_false, if_true, not_false_eq_true, not_true_eq_false, ne_eq]) (by simp only [put_apply, Nat.reduceEqDiff, reduceIte, false_and, and_false, true_and, and_true, and_self, if_false, if_true, not_false_eq_true, not_true_eq_false, ne_eq]) (fun j hj => absurd hj (Nat.not_lt_zero j))
        · omega
      | succ d ih =>
        intro q g2 hq m2 a3 a1 a6 a11 a12 a13 aT
        refine u_iloadn (k := 19) rfl rfl ?_
        refine a_bipush (k := 20) rfl ?_
        refine a_icmp_ge (k := 21) rfl (fun c_37 => ?_) (fun c_37 => ?_)
        · omega
        · refine u_aloadn (k := 22) rfl rfl ?_
          refine a_getr (k := 23) rfl fRX11_7 rfl rfl rfl ?_
          refine u_iloadn (k := 24) rfl rfl ?_
          refine a_iconst (k := 25) rfl ?_
          refine u_iast (k := 26) rfl rfl rfl (by omega) ?_
          refine u_iinc (k := 27) (lv' := [(1, _), (0, _)]) rfl rfl (Nat.le_of_ble_eq_true rfl) (by omega) rfl ?_
          refine a_goto (k := 28) rfl ?_
          exact ih (q + 1) _ (by omega) (m2.pt (by omega)) (by simp only [put_apply, Nat.reduceEqDiff, reduceIte, false_and, and_false, true_and, and_true, and_self, if_false, if_true, not_false_eq_true, not_true_eq_false, ne_eq]; exact a3) (by simp only [put_apply, Nat.reduceEqDiff, reduceIte, false_and, and_false, true_and, and_true, and_self, if_false, if_true, not_false_eq_true, not_true_eq_false, ne_eq]; exact a1) (by simp only [put_apply, Nat.reduceEqDiff, reduceIte, false_and, and_false, true_and, and_true, and_self, if_false, if_true, not_false_eq_true, not_true_eq_false, ne_eq]; exact a6) (by simp only [put_apply, Nat.reduceEqDiff, reduceIte, false_and, and_false, true_and, and_true, and_self, if_false, if_true, not_false_eq_true, not_true_eq_false, ne_eq]; exact a11) (by simp only [put_apply, Nat.reduceEqDiff, reduceIte, false_and, and_false, true_and, and_true, and_self, if_false, if_true, not_false_eq_true, not_true_eq_false, ne_eq]; exact a12) (by simp only [put_apply, Nat.reduceEqDiff, reduceIte, false_and, and_false, true_and, and_true, and_self, if_false, if_true, not_false_eq_true, not_true_eq_false, ne_eq]; exact a13) (fun j hj => ⟨by simp only [put_apply, Nat.reduceEqDiff, reduceIte, false_and, and_false, true_and, and_true, and_self, if_false, if_true, not_false_eq_true, not_true_eq_false, ne_eq]; exact (aT j hj).1, fun i hi => by simp only [put_apply, Nat.reduceEqDiff, reduceIte, false_and, and_false, true_and, and_true, and_self, if_false, if_true, not_false_eq_true, not_true_eq_false, ne_eq]; exact (aT j hj).2 i hi⟩)
    refine u_aloadn (k := 2) rfl rfl ?_
    refine a_iconst (k := 3) rfl ?_
    refine a_puti (k := 4) rfl pRX11_98 rfl rfl ?_
    refine u_aloadn (k := 5) rfl rfl ?_
    refine u_aloadn (k := 6) rfl rfl ?_
    refine a_geti (k := 7) rfl fRX11_108 rfl rfl ?_
    rw [put_ne (by simp), g10]
    refine a_puti (k := 8) rfl pRX11_23 rfl rfl ?_
    refine u_aloadn (k := 9) rfl rfl ?_
    refine a_geti (k := 10) rfl fRX11_105 rfl rfl ?_
    rw [put_ne (by simp), put_ne (by simp), g9]
    refine a_if_le (k := 11) rfl (fun c_21 => ?_) (fun c_21 => ?_)
    · refine a_iconst (k := 17) rfl ?_
      refine a_istoren (k := 18) (lv' := [(1, _), (0, _)]) rfl (Nat.le_of_ble_eq_true rfl) rfl ?_
      exact Lz 92 0 _ (by omega) ((mo.pt (by omega)).pt (by omega)) (by simp only [put_apply, Nat.reduceEqDiff, reduceIte, false_and, and_false, true_and, and_true, and_self, if_false, if_true, not_false_eq_true, not_true_eq_false, ne_eq]; exact g3) (by simp only [put_apply, Nat.reduceEqDiff, reduceIte, false_and, and_false, true_and, and_true, and_self, if_false, if_true, not_false_eq_true, not_true_eq_false, ne_eq]; exact g1) (by simp only [put_apply, Nat.reduceEqDiff, reduceIte, false_and, and_false, true_and, and_true, and_self, if_false, if_true, not_false_eq_true, not_true_eq_false, ne_eq]) (by simp only [put_apply, Nat.reduceEqDiff, reduceIte, false_and, and_false, true_and, and_true, and_self, if_false, if_true, not_false_eq_true, not_true_eq_false, ne_eq]) (by simp only [put_apply, Nat.reduceEqDiff, reduceIte, false_and, and_false, true_and, and_true, and_self, if_false, if_true, not_false_eq_true, not_true_eq_false, ne_eq]; exact g12) (by simp only [put_apply, Nat.reduceEqDiff, reduceIte, false_and, and_false, true_and, and_true, and_self, if_false, if_true, not_false_eq_true, not_true_eq_false, ne_eq]; exact g13) (fun j hj => ⟨by simp only [put_apply, Nat.reduceEqDiff, reduceIte, false_and, and_false, true_and, and_true, and_self, if_false, if_true, not_false_eq_true, not_true_eq_false, ne_eq]; exact (gTH j hj).1, fun i hi => by simp only [put_apply, Nat.reduceEqDiff, reduceIte, false_and, and_false, true_and, and_true, and_self, if_false, if_true, not_false_eq_true, not_true_eq_false, ne_eq]; exact (gTH j hj).2 i hi⟩)
    · omega
  refine Sp.of rfl kX11_tray (Nat.le_of_ble_eq_true rfl) ?_
  refine u_aloadn (k := 0) rfl rfl ?_
  refine uv_virt0 (M' := mX11_reads) (k := 1) rfl lRX11_153 oX11_reads vX11_reads ⟨Nat.le_of_ble_eq_true rfl, Nat.le_of_ble_eq_true rfl⟩ rfl rfl (Nat.le_of_ble_eq_true rfl) (hrd) (by intro r g hp; exact hp.1) (fun g hg => ?_)
  obtain ⟨-, hF, hD⟩ := hg
  rcases hD with ⟨hS, h1⟩ | ⟨p, p1, p2, p3, p4, p5, p6, p7, p8⟩
  · exact bad g hF hS h1
  · exact good g p hF p1 p2 p3 p4 p5 p6 p7 p8
