/-! the whole text, by the reference -/
def trm : List (Nat × Nat) := [(45, 0), (46, 0), (47, 0)]
def krm : List (Nat × Nat × Nat) := [(40, 0, 8), (40, 0, 9), (40, 0, 10), (40, 0, 12), (40, 0, 13), (40, 0, 1)]
/-- the text was read: a fault, or what it says -/
def RD (L : Nat) (tx : Nat → Nat) (h : HH) (g : HH) : Prop := (FS L tx g ∧ g 40 0 1 = h 40 0 1) ∨ ∃ p, rgo tx L = .inl p ∧ ed p = true ∧ g 40 0 9 = 0 ∧ g 40 0 10 = -1 ∧ g 40 0 1 = b01 (decide (p.1 = 4)) ∧ g 40 0 12 = (p.2.2.2.1 : Int) ∧ g 40 0 13 = (p.2.2.2.2.1.1 : Int) ∧ THm p.2.2.2.2.1.1 p.2.2.2.2.1.2 g
theorem m_reads (L : Nat) (tx : Nat → Nat) (h : HH) (hT : TXm L tx h) (hL : L ≤ 240) (h256 : ∀ i, i < L → tx i < 256) (h01 : h 40 0 1 = 0 ∨ h 40 0 1 = 1) : Sp mX11_reads [vr 40 0] h (fun z g => z = none ∧ Fr trm krm h g ∧ RD L tx h g) := by
  refine Sp.of rfl kX11_reads (Nat.le_of_ble_eq_true rfl) ?_
  have F142 : ∀ (g : HH) (b : Bool), Fr trm krm h g → FS L tx g → g 40 0 1 = h 40 0 1 → AW mX11_reads (fun z g => z = none ∧ Fr trm krm h g ∧ RD L tx h g) 27 [(1, vi (b01 b)), (0, vr 40 0)] [] g := by
    intro g b hF hS h1
    obtain ⟨e, w, e1, e2, e3, e4⟩ := hS
    refine u_aloadn (k := 17) rfl rfl ?_
    refine a_geti (k := 18) rfl fRX11_105 rfl rfl ?_
    rw [e2]
    refine a_if_ne (k := 19) rfl (fun c_31 => ?_) (fun c_31 => ?_)
    · refine u_aloadn (k := 75) rfl rfl ?_
      refine u_aloadn (k := 76) rfl rfl ?_
      refine a_geti (k := 77) rfl fRX11_105 rfl rfl ?_
      rw [e2]
      refine a_if_ne (k := 78) rfl (fun c_147 => ?_) (fun c_147 => ?_)
      · refine u_aloadn (k := 85) rfl rfl ?_
        refine a_geti (k := 86) rfl fRX11_149 rfl rfl ?_
        refine a_putz (k := 87) rfl pRX11_149 rfl rfl (by rw [h1]; omega) ?_
        refine a_return (k := 88) rfl rfl ?_
        exact ⟨rfl, hF.p2 (by simp [krm]), Or.inl ⟨⟨e, w, e1, by simp only [put_apply, Nat.reduceEqDiff, reduceIte, false_and, and_false, true_and, and_true, and_self, if_false, if_true, not_false_eq_true, not_true_eq_false, ne_eq]; exact e2, by simp only [put_apply, Nat.reduceEqDiff, reduceIte, false_and, and_false, true_and, and_true, and_self, if_false, if_true, not_false_eq_true, not_true_eq_false, ne_eq]; exact e3, e4⟩, by rw [put_eq]; exact h1⟩⟩
      · omega
    · omega
  have Lp : ∀ (d a : Nat) (p : PS) (b : Bool) (x2 : Option Int) (g : HH), L - a ≤ d → a ≤ L → Fr trm krm h g → RS L tx a g → rgo tx a = .inl p → p.1 = (if b then 0 else 4) → (b = true → p.2.2.2.2.1.1 = 0) → g 40 0 1 = h 40 0 1 → g 40 0 12 = (p.2.2.2.1 : Int) → g 40 0 13 = (p.2.2.2.2.1.1 : Int) → THm p.2.2.2.2.1.1 p.2.2.2.2.1.2 g → AW mX11_reads (fun z g => z = none ∧ Fr trm krm h g ∧ RD L tx h g) 27 [(1, vi (b01 b)), (0, vr 40 0)] [] g := by
    intro d
    induction d with
    | zero =>
      intro a p b _ g hd haL hF hRS hgo hp hb0 hg1 hg12 hg13 hTH
      have ha : a = L := by omega
      subst ha
      have hnx : nx tx a a = -1 := by unfold nx; rw [sk_end, if_neg (Nat.lt_irrefl _)]
      obtain ⟨hTX, hg8, hg9, hg10⟩ := hRS
      have hed : ed p = true := by
        unfold ed
        rw [hp]
        cases b <;> decide
      have h4 : (1 : Int) = b01 (decide (p.1 = 4)) ∧ b = false ∨ (0 : Int) = b01 (decide (p.1 = 4)) ∧ b = true := by
        rw [hp]
        cases b
        · exact Or.inl ⟨rfl, rfl⟩
        · exact Or.inr ⟨rfl, rfl⟩
      refine u_aloadn (k := 17) rfl rfl ?_
      refine a_geti (k := 18) rfl fRX11_105 rfl rfl ?_
      rw [hg9]
      refine a_if_ne (k := 19) rfl (fun c_31 => ?_) (fun c_31 => ?_)
      · exact absurd rfl c_31
      · refine u_aloadn (k := 20) rfl rfl ?_
        refine ui_virt0 (M' := mX11_next) (k := 21) rfl lRX11_111 oX11_next vX11_next ⟨Nat.le_of_ble_eq_true rfl, Nat.le_of_ble_eq_true rfl⟩ rfl rfl (Nat.le_of_ble_eq_true rfl) (m_next a a tx g hTX hL h256 hg8 haL) (by intro r g hp; exact ⟨_, hp.1⟩) (fun z g2 hg2 => ?_)
        obtain ⟨hz, h82, hF2⟩ := hg2; cases hz
        have hg9' : g2 40 0 9 = 0 := by rw [hF2 40 0 9 (by simp) (by simp)]; exact hg9
        rw [hnx]
        refine a_if_lt (k := 22) rfl (fun c_38 => ?_) (fun c_38 => ?_)
        · refine u_aloadn (k := 75) rfl rfl ?_
          refine u_aloadn (k := 76) rfl rfl ?_
          refine a_geti (k := 77) rfl fRX11_105 rfl rfl ?_
          rw [hg9']
          refine a_if_ne (k := 78) rfl (fun c_147 => ?_) (fun c_147 => ?_)
          · exact absurd rfl c_147
          · refine u_iloadn (k := 79) rfl rfl ?_
            refine a_if_ne (k := 80) rfl (fun c_151 => ?_) (fun c_151 => ?_)
            · have e151 := b01_t c_151
              refine a_iconst (k := 83) rfl ?_
              refine a_goto (k := 84) rfl ?_
              refine a_putz (k := 87) rfl pRX11_149 rfl rfl (by omega) ?_
              refine a_return (k := 88) rfl rfl ?_
              refine ⟨rfl, (hF.tr hF2 (by simp) (by simp [krm])).p2 (by simp [krm]), Or.inr ⟨p, hgo, hed, by simp only [put_apply, Nat.reduceEqDiff, reduceIte, false_and, and_false, true_and, and_true, and_self, if_false, if_true, not_false_eq_true, not_true_eq_false, ne_eq]; exact hg9', by simp only [put_apply, Nat.reduceEqDiff, reduceIte, false_and, and_false, true_and, and_true, and_self, if_false, if_true, not_false_eq_true, not_true_eq_false, ne_eq]; rw [hF2 40 0 10 (by simp) (by simp)]; exact hg10, ?_, by simp only [put_apply, Nat.reduceEqDiff, reduceIte, false_and, and_false, true_and, and_true, and_self, if_false, if_true, not_false_eq_true, not_true_eq_false, ne_eq]; rw [hF2 40 0 12 (by simp) (by simp)]; exact hg12, by simp only [put_apply, Nat.reduceEqDiff, reduceIte, false_and, and_false, true_and, and_true, and_self, if_false, if_true, not_false_eq_true, not_true_eq_false, ne_eq]; rw [hF2 40 0 13 (by simp) (by simp)]; exact hg13, fun k hk => ⟨by simp only [put_apply, Nat.reduceEqDiff, reduceIte, false_and, and_false, true_and, and_true, and_self, if_false, if_true, not_false_eq_true, not_true_eq_false, ne_eq]; rw [hF2 45 0 k (by simp) (by simp)]; exact (hTH k hk).1, fun i hi => by simp only [put_apply, Nat.reduceEqDiff, reduceIte, false_and, and_false, true_and, and_true, and_self, if_false, if_true, not_false_eq_true, not_true_eq_false, ne_eq]; rw [hF2 46 0 _ (by simp) (by simp)]; exact (hTH k hk).2 i hi⟩⟩⟩
              rw [put_eq]
              rcases h4 with ⟨z1, z2⟩ | ⟨z1, z2⟩
              · first | exact z1 | (rw [e151] at z2; cases z2)
              · first | exact z1 | (rw [e151] at z2; cases z2)
            · have e151 := b01_f c_151
              refine a_iconst (k := 81) rfl ?_
              refine a_goto (k := 82) rfl ?_
              refine a_putz (k := 87) rfl pRX11_149 rfl rfl (by omega) ?_
              refine a_return (k := 88) rfl rfl ?_
              refine ⟨rfl, (hF.tr hF2 (by simp) (by simp [krm])).p2 (by simp [krm]), Or.inr ⟨p, hgo, hed, by simp only [put_apply, Nat.reduceEqDiff, reduceIte, false_and, and_false, true_and, and_true, and_self, if_false, if_true, not_false_eq_true, not_true_eq_false, ne_eq]; exact hg9', by simp only [put_apply, Nat.reduceEqDiff, reduceIte, false_and, and_false, true_and, and_true, and_self, if_false, if_true, not_false_eq_true, not_true_eq_false, ne_eq]; rw [hF2 40 0 10 (by simp) (by simp)]; exact hg10, ?_, by simp only [put_apply, Nat.reduceEqDiff, reduceIte, false_and, and_false, true_and, and_true, and_self, if_false, if_true, not_false_eq_true, not_true_eq_false, ne_eq]; rw [hF2 40 0 12 (by simp) (by simp)]; exact hg12, by simp only [put_apply, Nat.reduceEqDiff, reduceIte, false_and, and_false, true_and, and_true, and_self, if_false, if_true, not_false_eq_true, not_true_eq_false, ne_eq]; rw [hF2 40 0 13 (by simp) (by simp)]; exact hg13, fun k hk => ⟨by simp only [put_apply, Nat.reduceEqDiff, reduceIte, false_and, and_false, true_and, and_true, and_self, if_false, if_true, not_false_eq_true, not_true_eq_false, ne_eq]; rw [hF2 45 0 k (by simp) (by simp)]; exact (hTH k hk).1, fun i hi => by simp only [put_apply, Nat.reduceEqDiff, reduceIte, false_and, and_false, true_and, and_true, and_self, if_false, if_true, not_false_eq_true, not_true_eq_false, ne_eq]; rw [hF2 46 0 _ (by simp) (by simp)]; exact (hTH k hk).2 i hi⟩⟩⟩
              rw [put_eq]
              rcases h4 with ⟨z1, z2⟩ | ⟨z1, z2⟩
              · first | exact z1 | (rw [e151] at z2; cases z2)
              · first | exact z1 | (rw [e151] at z2; cases z2)
        · omega
    | succ d ih =>
      intro a p b _ g hd haL hF hRS hgo hp hb0 hg1 hg12 hg13 hTH
      have hp2 : p.1 ≠ 2 := by rw [hp]; split <;> decide
      obtain ⟨s1, s2, s3⟩ := sk_ok (tx := tx) haL
      have hgb := rgo_sk (L := L) hp2 hgo
      have hss := sk_sk (tx := tx) haL
      have hnxb : nx tx L (sk tx L a) = nx tx L a := by unfold nx; rw [hss]
      have hPK := rgo_PK hgo
      have hRS0 := hRS
      obtain ⟨hTX, hg8, hg9, hg10⟩ := hRS
      have keep : ∀ g2 : HH, Fr [] [(40, 0, 8)] g g2 → g2 40 0 8 = (sk tx L a : Int) → RS L tx (sk tx L a) g2 ∧ Fr trm krm h g2 ∧ g2 40 0 1 = h 40 0 1 ∧ g2 40 0 12 = (p.2.2.2.1 : Int) ∧ g2 40 0 13 = (p.2.2.2.2.1.1 : Int) ∧ THm p.2.2.2.2.1.1 p.2.2.2.2.1.2 g2 := fun g2 hF2 h82 => ⟨⟨hTX.kp hF2 (by simp) (by simp) (by simp) (by simp), h82, by rw [hF2 40 0 9 (by simp) (by simp)]; exact hg9, by rw [hF2 40 0 10 (by simp) (by simp)]; exact hg10⟩, hF.tr hF2 (by simp) (by simp [krm]), by rw [hF2 40 0 1 (by simp) (by simp)]; exact hg1, by rw [hF2 40 0 12 (by simp) (by simp)]; exact hg12, by rw [hF2 40 0 13 (by simp) (by simp)]; exact hg13, fun k hk => ⟨by rw [hF2 45 0 k (by simp) (by simp)]; exact (hTH k hk).1, fun i hi => by rw [hF2 46 0 _ (by simp) (by simp)]; exact (hTH k hk).2 i hi⟩⟩
      by_cases hlt : sk tx L a < L
      · have hnx : nx tx L a = (tx (sk tx L a) : Int) := by unfold nx; rw [if_pos hlt]
        have h256b := h256 _ hlt
        have h32 := s3 hlt
        generalize hb : sk tx L a = q at *
        have bad : ∀ (g2 : HH) (e : Nat), 0 < e → RS L tx q g2 ∧ Fr trm krm h g2 ∧ g2 40 0 1 = h 40 0 1 → vd tx L = some (e, q) → AW mX11_reads (fun z g => z = none ∧ Fr trm krm h g ∧ RD L tx h g) 27 [(1, vi (b01 b)), (0, vr 40 0)] [] (put (put g2 40 0 9 (e : Int)) 40 0 10 (q : Int)) := fun g2 e he hk hvd => F142 _ b ((hk.2.1.p2 (by simp [krm])).p2 (by simp [krm])) ⟨e, q, he, by simp only [put_apply, Nat.reduceEqDiff, reduceIte, false_and, and_false, true_and, and_true, and_self, if_false, if_true, not_false_eq_true, not_true_eq_false, ne_eq], by simp only [put_apply, Nat.reduceEqDiff, reduceIte, false_and, and_false, true_and, and_true, and_self, if_false, if_true, not_false_eq_true, not_true_eq_false, ne_eq], hvd⟩ (by simp only [put_apply, Nat.reduceEqDiff, reduceIte, false_and, and_false, true_and, and_true, and_self, if_false, if_true, not_false_eq_true, not_true_eq_false, ne_eq]; exact hk.2.2)
        have rs1 : ¬ tx q = 117 → (¬ tx q = 107 ∨ b = true) → vd tx L = some (1, q) := fun n1 n2 => by
          refine vd_rs hgb hlt ?_ (by decide)
          unfold rs
          rw [if_neg h32]
          by_cases hbt : b = true
          · rw [if_pos hbt] at hp
            rw [if_pos hp, if_neg n1]
          · rw [if_neg hbt] at hp
            rw [if_neg (by omega), if_neg (by omega), if_neg (by omega), if_neg (by omega), if_pos hp, if_neg n1, if_pos (n2.resolve_right hbt)]
        have rs3 : b = false → (tx q = 117 ∨ (tx q = 107 ∧ 5 ≤ p.2.2.2.2.1.1)) → vd tx L = some (3, q) := fun hbf n2 => by
          refine vd_rs hgb hlt ?_ (by decide)
          rw [hbf, if_neg (by decide)] at hp
          unfold rs
          rw [if_neg h32, if_neg (by omega), if_neg (by omega), if_neg (by omega), if_neg (by omega), if_pos hp]
          rcases n2 with n2 | ⟨n2, n3⟩
          · rw [if_pos n2]
          · rw [if_neg (by omega), if_neg (by omega), if_pos n3]
        have rsu : b = true → tx q = 117 → rgo tx (q + 1) = .inl (1, p.2) := fun hbt n1 => rgo_ok hgb (by
          rw [if_pos hbt] at hp
          unfold rs
          rw [if_neg h32, if_pos hp, if_pos n1])
        have rsk : b = false → tx q = 107 → p.2.2.2.2.1.1 < 5 → rgo tx (q + 1) = .inl (5, p.2.1, p.2.2.1, p.2.2.2.1, p.2.2.2.2.1, (0, p.2.2.2.2.2.2)) := fun hbf n1 n2 => rgo_ok hgb (by
          rw [hbf, if_neg (by decide)] at hp
          unfold rs
          rw [if_neg h32, if_neg (by omega), if_neg (by omega), if_neg (by omega), if_neg (by omega), if_pos hp, if_neg (by omega), if_neg (by omega), if_neg (by omega)])
        have T110 : ∀ (g2 : HH), RS L tx q g2 ∧ Fr trm krm h g2 ∧ g2 40 0 1 = h 40 0 1 ∧ g2 40 0 12 = (p.2.2.2.1 : Int) ∧ g2 40 0 13 = (p.2.2.2.2.1.1 : Int) ∧ THm p.2.2.2.2.1.1 p.2.2.2.2.1.2 g2 → ((tx q = 117 ∧ b = true) ∨ (tx q = 107 ∧ b = false ∧ p.2.2.2.2.1.1 < 5)) → AW mX11_reads (fun z g => z = none ∧ Fr trm krm h g ∧ RD L tx h g) 110 [(2, vi (tx q : Int)), (1, vi (b01 b)), (0, vr 40 0)] [] g2 := by
          intro g2 ⟨q1, q2, q3, q4, q5, q6⟩ hcs
          have q1' : RS L tx (q + 1) (put g2 40 0 8 ((q : Int) + 1)) := ⟨q1.1.keep (by simp only [put_apply, Nat.reduceEqDiff, reduceIte, false_and, and_false, true_and, and_true, and_self, if_false, if_true, not_false_eq_true, not_true_eq_false, ne_eq]) (fun i => by simp only [put_apply, Nat.reduceEqDiff, reduceIte, false_and, and_false, true_and, and_true, and_self, if_false, if_true, not_false_eq_true, not_true_eq_false, ne_eq]), by rw [put_eq]; omega, by simp only [put_apply, Nat.reduceEqDiff, reduceIte, false_and, and_false, true_and, and_true, and_self, if_false, if_true, not_false_eq_true, not_true_eq_false, ne_eq]; exact q1.2.2.1, by simp only [put_apply, Nat.reduceEqDiff, reduceIte, false_and, and_false, true_and, and_true, and_self, if_false, if_true, not_false_eq_true, not_true_eq_false, ne_eq]; exact q1.2.2.2⟩
          have hF3 : Fr trm krm h (put g2 40 0 8 ((q : Int) + 1)) := q2.p2 (by simp [krm])
          rcases hcs with ⟨cu, cb⟩ | ⟨ck, cb, cK⟩
          · have hgr := m_grains L (q + 1) tx (1, p.2) (put g2 40 0 8 ((q : Int) + 1)) q1' hL h256 (by omega) rfl (rsu cb cu)
            refine u_aloadn (k := 58) rfl rfl ?_
            refine a_dup (k := 59) rfl rfl ?_
            refine a_geti (k := 60) rfl fRX11_102 rfl rfl ?_
            refine a_iconst (k := 61) rfl ?_
            rw [q1.2.1]
            refine u_iadd (k := 62) rfl (by omega) ?_
            refine a_puti (k := 63) rfl pRX11_102 rfl rfl ?_
            refine a_iconst (k := 64) rfl ?_
            refine a_istoren (k := 65) (lv' := [(1, _), (2, _), (0, _)]) rfl (Nat.le_of_ble_eq_true rfl) rfl ?_
            refine u_iloadn (k := 66) rfl rfl ?_
            refine a_bipush (k := 67) rfl ?_
            refine a_icmp_ne (k := 68) rfl (fun c_125 => ?_) (fun c_125 => ?_)
            · omega
            · refine u_aloadn (k := 69) rfl rfl ?_
              refine uv_virt0 (M' := mX11_grains) (k := 70) rfl lRX11_143 oX11_grains vX11_grains ⟨Nat.le_of_ble_eq_true rfl, Nat.le_of_ble_eq_true rfl⟩ rfl rfl (Nat.le_of_ble_eq_true rfl) (hgr) (by intro r g hp; exact hp.1) (fun g3 hg3 => ?_)
              obtain ⟨-, hF4, hc⟩ := hg3
              refine a_goto (k := 71) rfl ?_
              refine a_goto (k := 74) rfl ?_
              refine a_sub [0, 2] rfl ?_
              rcases hc with hc | ⟨a', p', e1, e2, e3, e4, e5, e6, e7⟩
              · exact F142 g3 false (hF3.tr hF4 (by simp) (by simp [kgr, krm])) hc (by rw [hF4 40 0 1 (by simp) (by simp [kgr])]; simp only [put_apply, Nat.reduceEqDiff, reduceIte, false_and, and_false, true_and, and_true, and_self, if_false, if_true, not_false_eq_true, not_true_eq_false, ne_eq]; exact q3)
              · have eK : p'.2.2.2.2.1.1 = 0 := by rw [e7]; exact hb0 cb
                refine ih a' p' false none g3 (by omega) e2 (hF3.tr hF4 (by simp) (by simp [kgr, krm])) e3 e4 (by rw [e5]; rfl) (fun z => by cases z) (by rw [hF4 40 0 1 (by simp) (by simp [kgr])]; simp only [put_apply, Nat.reduceEqDiff, reduceIte, false_and, and_false, true_and, and_true, and_self, if_false, if_true, not_false_eq_true, not_true_eq_false, ne_eq]; exact q3) e6 ?_ (fun k hk => by omega)
                rw [hF4 40 0 13 (by simp) (by simp [kgr])]
                simp only [put_apply, Nat.reduceEqDiff, reduceIte, false_and, and_false, true_and, and_true, and_self, if_false, if_true, not_false_eq_true, not_true_eq_false, ne_eq]
                rw [q5, e7]
          · have hth := m_threads L (q + 1) p.2.1 p.2.2.1 p.2.2.2.1 p.2.2.2.2.1.1 p.2.2.2.2.1.2 p.2.2.2.2.2.2 tx (put g2 40 0 8 ((q : Int) + 1)) q1' hL h256 (by omega) (rsk cb ck cK) (by simp only [put_apply, Nat.reduceEqDiff, reduceIte, false_and, and_false, true_and, and_true, and_self, if_false, if_true, not_false_eq_true, not_true_eq_false, ne_eq]; exact q5) (fun k hk => ⟨by simp only [put_apply, Nat.reduceEqDiff, reduceIte, false_and, and_false, true_and, and_true, and_self, if_false, if_true, not_false_eq_true, not_true_eq_false, ne_eq]; exact (q6 k hk).1, fun i hi => by simp only [put_apply, Nat.reduceEqDiff, reduceIte, false_and, and_false, true_and, and_true, and_self, if_false, if_true, not_false_eq_true, not_true_eq_false, ne_eq]; exact (q6 k hk).2 i hi⟩)
            refine u_aloadn (k := 58) rfl rfl ?_
            refine a_dup (k := 59) rfl rfl ?_
            refine a_geti (k := 60) rfl fRX11_102 rfl rfl ?_
            refine a_iconst (k := 61) rfl ?_
            rw [q1.2.1]
            refine u_iadd (k := 62) rfl (by omega) ?_
            refine a_puti (k := 63) rfl pRX11_102 rfl rfl ?_
            refine a_iconst (k := 64) rfl ?_
            refine a_istoren (k := 65) (lv' := [(1, _), (2, _), (0, _)]) rfl (Nat.le_of_ble_eq_true rfl) rfl ?_
            refine u_iloadn (k := 66) rfl rfl ?_
            refine a_bipush (k := 67) rfl ?_
            refine a_icmp_ne (k := 68) rfl (fun c_125 => ?_) (fun c_125 => ?_)
            · refine u_aloadn (k := 72) rfl rfl ?_
              refine uv_virt0 (M' := mX11_threads) (k := 73) rfl lRX11_146 oX11_threads vX11_threads ⟨Nat.le_of_ble_eq_true rfl, Nat.le_of_ble_eq_true rfl⟩ rfl rfl (Nat.le_of_ble_eq_true rfl) (hth) (by intro r g hp; exact hp.1) (fun g3 hg3 => ?_)
              obtain ⟨-, hF4, hc⟩ := hg3
              refine a_goto (k := 74) rfl ?_
              refine a_sub [0, 2] rfl ?_
              rcases hc with hc | ⟨a', p', e1, e2, e3, e4, e5, e6, e7, e8⟩
              · exact F142 g3 false (hF3.tr hF4 (by simp [tth, trm]) (by simp [kth, krm])) hc (by rw [hF4 40 0 1 (by simp [tth]) (by simp [kth])]; simp only [put_apply, Nat.reduceEqDiff, reduceIte, false_and, and_false, true_and, and_true, and_self, if_false, if_true, not_false_eq_true, not_true_eq_false, ne_eq]; exact q3)
              · refine ih a' p' false none g3 (by omega) e2 (hF3.tr hF4 (by simp [tth, trm]) (by simp [kth, krm])) e3 e4 (by rw [e5]; rfl) (fun z => by cases z) (by rw [hF4 40 0 1 (by simp [tth]) (by simp [kth])]; simp only [put_apply, Nat.reduceEqDiff, reduceIte, false_and, and_false, true_and, and_true, and_self, if_false, if_true, not_false_eq_true, not_true_eq_false, ne_eq]; exact q3) ?_ e6 e7
                rw [hF4 40 0 12 (by simp [tth]) (by simp [kth])]
                simp only [put_apply, Nat.reduceEqDiff, reduceIte, false_and, and_false, true_and, and_true, and_self, if_false, if_true, not_false_eq_true, not_true_eq_false, ne_eq]
                rw [q4, e8]
            · omega
        refine u_aloadn (k := 17) rfl rfl ?_
        refine a_geti (k := 18) rfl fRX11_105 rfl rfl ?_
        rw [hg9]
        refine a_if_ne (k := 19) rfl (fun c_31 => ?_) (fun c_31 => ?_)
        · exact absurd rfl c_31
        · refine u_aloadn (k := 20) rfl rfl ?_
          refine ui_virt0 (M' := mX11_next) (k := 21) rfl lRX11_111 oX11_next vX11_next ⟨Nat.le_of_ble_eq_true rfl, Nat.le_of_ble_eq_true rfl⟩ rfl rfl (Nat.le_of_ble_eq_true rfl) (m_next L a tx g hTX hL h256 hg8 haL) (by intro r g hp; exact ⟨_, hp.1⟩) (fun z g2 hg2 => ?_)
          obtain ⟨hz, h82, hF2⟩ := hg2; cases hz; rw [hb] at h82; have K2 := keep g2 hF2 h82
          rw [hnx]
          refine a_if_lt (k := 22) rfl (fun c_38 => ?_) (fun c_38 => ?_)
          · omega
          · refine u_aloadn (k := 23) rfl rfl ?_
            refine ui_virt0 (M' := mX11_next) (k := 24) rfl lRX11_111 oX11_next vX11_next ⟨Nat.le_of_ble_eq_true rfl, Nat.le_of_ble_eq_true rfl⟩ rfl rfl (Nat.le_of_ble_eq_true rfl) (m_next L q tx g2 K2.1.1 hL h256 K2.1.2.1 s2) (by intro r g hp; exact ⟨_, hp.1⟩) (fun z g3 hg3 => ?_)
            obtain ⟨hz, h83, hF3⟩ := hg3; cases hz; rw [hss] at h83; have K3 := keep g3 (hF2.tr hF3 (by simp) (by simp)) h83
            rw [hnxb, hnx]
            refine a_istoren (k := 25) (lv' := [(2, _), (1, _), (0, _)]) rfl (Nat.le_of_ble_eq_true rfl) rfl ?_
            refine u_iloadn (k := 26) rfl rfl ?_
            refine a_bipush (k := 27) rfl ?_
            refine a_icmp_eq (k := 28) rfl (fun c_49 => ?_) (fun c_49 => ?_)
            · refine u_iloadn (k := 40) rfl rfl ?_
              refine a_bipush (k := 41) rfl ?_
              refine a_icmp_ne (k := 42) rfl (fun c_77 => ?_) (fun c_77 => ?_)
              · refine u_iloadn (k := 45) rfl rfl ?_
                refine a_bipush (k := 46) rfl ?_
                refine a_icmp_ne (k := 47) rfl (fun c_87 => ?_) (fun c_87 => ?_)
                · first
                    | exact T110 g3 K3 (Or.inl ⟨by omega, e81⟩)
                    | exact T110 g3 K3 (Or.inr ⟨by omega, e59, by have := hPK.2.2.1; omega⟩)
                    | (exfalso; omega)
                · refine u_aloadn (k := 48) rfl rfl ?_
                  refine a_geti (k := 49) rfl fRX11_140 rfl rfl ?_
                  refine a_iconst (k := 50) rfl ?_
                  rw [K3.2.2.2.2.1]
                  refine a_icmp_ne (k := 51) rfl (fun c_95 => ?_) (fun c_95 => ?_)
                  · first
                      | exact T110 g3 K3 (Or.inl ⟨by omega, e81⟩)
                      | exact T110 g3 K3 (Or.inr ⟨by omega, e59, by have := hPK.2.2.1; omega⟩)
                      | (exfalso; omega)
                  · refine u_aloadn (k := 52) rfl rfl ?_
                    refine a_iconst (k := 53) rfl ?_
                    refine u_aloadn (k := 54) rfl rfl ?_
                    refine a_geti (k := 55) rfl fRX11_102 rfl rfl ?_
                    rw [K3.1.2.1]
                    refine v_virt2 (M' := mX11_blames) (k := 56) rfl lRX11_115 oX11_blames vX11_blames ⟨Nat.le_of_ble_eq_true rfl, Nat.le_of_ble_eq_true rfl⟩ rfl rfl (Nat.le_of_ble_eq_true rfl) (m_blames 3 q g3 K3.1.2.2.1 K3.1.2.2.2) ?_
                    refine a_goto (k := 57) rfl ?_
                    refine a_goto (k := 74) rfl ?_
                    refine a_sub [1, 2] rfl ?_
                    first
                      | exact bad g3 1 (by omega) ⟨K3.1, K3.2.1, K3.2.2.1⟩ (rs1 (by omega) (Or.inl (by omega)))
                      | exact bad g3 1 (by omega) ⟨K3.1, K3.2.1, K3.2.2.1⟩ (rs1 (by omega) (Or.inr e59))
                      | exact bad g3 3 (by omega) ⟨K3.1, K3.2.1, K3.2.2.1⟩ (rs3 e81 (Or.inl (by omega)))
                      | exact bad g3 3 (by omega) ⟨K3.1, K3.2.1, K3.2.2.1⟩ (rs3 e59 (Or.inr ⟨by omega, by omega⟩))
                      | (exfalso; omega)
              · refine u_iloadn (k := 43) rfl rfl ?_
                refine a_if_eq (k := 44) rfl (fun c_81 => ?_) (fun c_81 => ?_)
                · have e81 := b01_f c_81
                  refine u_aloadn (k := 52) rfl rfl ?_
                  refine a_iconst (k := 53) rfl ?_
                  refine u_aloadn (k := 54) rfl rfl ?_
                  refine a_geti (k := 55) rfl fRX11_102 rfl rfl ?_
                  rw [K3.1.2.1]
                  refine v_virt2 (M' := mX11_blames) (k := 56) rfl lRX11_115 oX11_blames vX11_blames ⟨Nat.le_of_ble_eq_true rfl, Nat.le_of_ble_eq_true rfl⟩ rfl rfl (Nat.le_of_ble_eq_true rfl) (m_blames 3 q g3 K3.1.2.2.1 K3.1.2.2.2) ?_
                  refine a_goto (k := 57) rfl ?_
                  refine a_goto (k := 74) rfl ?_
                  refine a_sub [1, 2] rfl ?_
                  first
                    | exact bad g3 1 (by omega) ⟨K3.1, K3.2.1, K3.2.2.1⟩ (rs1 (by omega) (Or.inl (by omega)))
                    | exact bad g3 1 (by omega) ⟨K3.1, K3.2.1, K3.2.2.1⟩ (rs1 (by omega) (Or.inr e59))
                    | exact bad g3 3 (by omega) ⟨K3.1, K3.2.1, K3.2.2.1⟩ (rs3 e81 (Or.inl (by omega)))
                    | exact bad g3 3 (by omega) ⟨K3.1, K3.2.1, K3.2.2.1⟩ (rs3 e59 (Or.inr ⟨by omega, by omega⟩))
                    | (exfalso; omega)
                · have e81 := b01_t c_81
                  refine u_iloadn (k := 45) rfl rfl ?_
                  refine a_bipush (k := 46) rfl ?_
                  refine a_icmp_ne (k := 47) rfl (fun c_87 => ?_) (fun c_87 => ?_)
                  · first
                      | exact T110 g3 K3 (Or.inl ⟨by omega, e81⟩)
                      | exact T110 g3 K3 (Or.inr ⟨by omega, e59, by have := hPK.2.2.1; omega⟩)
                      | (exfalso; omega)
                  · refine u_aloadn (k := 48) rfl rfl ?_
                    refine a_geti (k := 49) rfl fRX11_140 rfl rfl ?_
                    refine a_iconst (k := 50) rfl ?_
                    rw [K3.2.2.2.2.1]
                    refine a_icmp_ne (k := 51) rfl (fun c_95 => ?_) (fun c_95 => ?_)
                    · first
                        | exact T110 g3 K3 (Or.inl ⟨by omega, e81⟩)
                        | exact T110 g3 K3 (Or.inr ⟨by omega, e59, by have := hPK.2.2.1; omega⟩)
                        | (exfalso; omega)
                    · refine u_aloadn (k := 52) rfl rfl ?_
                      refine a_iconst (k := 53) rfl ?_
                      refine u_aloadn (k := 54) rfl rfl ?_
                      refine a_geti (k := 55) rfl fRX11_102 rfl rfl ?_
                      rw [K3.1.2.1]
                      refine v_virt2 (M' := mX11_blames) (k := 56) rfl lRX11_115 oX11_blames vX11_blames ⟨Nat.le_of_ble_eq_true rfl, Nat.le_of_ble_eq_true rfl⟩ rfl rfl (Nat.le_of_ble_eq_true rfl) (m_blames 3 q g3 K3.1.2.2.1 K3.1.2.2.2) ?_
                      refine a_goto (k := 57) rfl ?_
                      refine a_goto (k := 74) rfl ?_
                      refine a_sub [1, 2] rfl ?_
                      first
                        | exact bad g3 1 (by omega) ⟨K3.1, K3.2.1, K3.2.2.1⟩ (rs1 (by omega) (Or.inl (by omega)))
                        | exact bad g3 1 (by omega) ⟨K3.1, K3.2.1, K3.2.2.1⟩ (rs1 (by omega) (Or.inr e59))
                        | exact bad g3 3 (by omega) ⟨K3.1, K3.2.1, K3.2.2.1⟩ (rs3 e81 (Or.inl (by omega)))
                        | exact bad g3 3 (by omega) ⟨K3.1, K3.2.1, K3.2.2.1⟩ (rs3 e59 (Or.inr ⟨by omega, by omega⟩))
                        | (exfalso; omega)
            · refine u_iloadn (k := 29) rfl rfl ?_
              refine a_bipush (k := 30) rfl ?_
              refine a_icmp_ne (k := 31) rfl (fun c_55 => ?_) (fun c_55 => ?_)
              · refine u_aloadn (k := 34) rfl rfl ?_
                refine a_iconst (k := 35) rfl ?_
                refine u_aloadn (k := 36) rfl rfl ?_
                refine a_geti (k := 37) rfl fRX11_102 rfl rfl ?_
                rw [K3.1.2.1]
                refine v_virt2 (M' := mX11_blames) (k := 38) rfl lRX11_115 oX11_blames vX11_blames ⟨Nat.le_of_ble_eq_true rfl, Nat.le_of_ble_eq_true rfl⟩ rfl rfl (Nat.le_of_ble_eq_true rfl) (m_blames 1 q g3 K3.1.2.2.1 K3.1.2.2.2) ?_
                refine a_goto (k := 39) rfl ?_
                refine a_goto (k := 74) rfl ?_
                refine a_sub [1, 2] rfl ?_
                first
                  | exact bad g3 1 (by omega) ⟨K3.1, K3.2.1, K3.2.2.1⟩ (rs1 (by omega) (Or.inl (by omega)))
                  | exact bad g3 1 (by omega) ⟨K3.1, K3.2.1, K3.2.2.1⟩ (rs1 (by omega) (Or.inr e59))
                  | exact bad g3 3 (by omega) ⟨K3.1, K3.2.1, K3.2.2.1⟩ (rs3 e81 (Or.inl (by omega)))
                  | exact bad g3 3 (by omega) ⟨K3.1, K3.2.1, K3.2.2.1⟩ (rs3 e59 (Or.inr ⟨by omega, by omega⟩))
                  | (exfalso; omega)
              · refine u_iloadn (k := 32) rfl rfl ?_
                refine a_if_eq (k := 33) rfl (fun c_59 => ?_) (fun c_59 => ?_)
                · have e59 := b01_f c_59
                  refine u_iloadn (k := 40) rfl rfl ?_
                  refine a_bipush (k := 41) rfl ?_
                  refine a_icmp_ne (k := 42) rfl (fun c_77 => ?_) (fun c_77 => ?_)
                  · refine u_iloadn (k := 45) rfl rfl ?_
                    refine a_bipush (k := 46) rfl ?_
                    refine a_icmp_ne (k := 47) rfl (fun c_87 => ?_) (fun c_87 => ?_)
                    · first
                        | exact T110 g3 K3 (Or.inl ⟨by omega, e81⟩)
                        | exact T110 g3 K3 (Or.inr ⟨by omega, e59, by have := hPK.2.2.1; omega⟩)
                        | (exfalso; omega)
                    · refine u_aloadn (k := 48) rfl rfl ?_
                      refine a_geti (k := 49) rfl fRX11_140 rfl rfl ?_
                      refine a_iconst (k := 50) rfl ?_
                      rw [K3.2.2.2.2.1]
                      refine a_icmp_ne (k := 51) rfl (fun c_95 => ?_) (fun c_95 => ?_)
                      · first
                          | exact T110 g3 K3 (Or.inl ⟨by omega, e81⟩)
                          | exact T110 g3 K3 (Or.inr ⟨by omega, e59, by have := hPK.2.2.1; omega⟩)
                          | (exfalso; omega)
                      · refine u_aloadn (k := 52) rfl rfl ?_
                        refine a_iconst (k := 53) rfl ?_
                        refine u_aloadn (k := 54) rfl rfl ?_
                        refine a_geti (k := 55) rfl fRX11_102 rfl rfl ?_
                        rw [K3.1.2.1]
                        refine v_virt2 (M' := mX11_blames) (k := 56) rfl lRX11_115 oX11_blames vX11_blames ⟨Nat.le_of_ble_eq_true rfl, Nat.le_of_ble_eq_true rfl⟩ rfl rfl (Nat.le_of_ble_eq_true rfl) (m_blames 3 q g3 K3.1.2.2.1 K3.1.2.2.2) ?_
                        refine a_goto (k := 57) rfl ?_
                        refine a_goto (k := 74) rfl ?_
                        refine a_sub [1, 2] rfl ?_
                        first
                          | exact bad g3 1 (by omega) ⟨K3.1, K3.2.1, K3.2.2.1⟩ (rs1 (by omega) (Or.inl (by omega)))
                          | exact bad g3 1 (by omega) ⟨K3.1, K3.2.1, K3.2.2.1⟩ (rs1 (by omega) (Or.inr e59))
                          | exact bad g3 3 (by omega) ⟨K3.1, K3.2.1, K3.2.2.1⟩ (rs3 e81 (Or.inl (by omega)))
                          | exact bad g3 3 (by omega) ⟨K3.1, K3.2.1, K3.2.2.1⟩ (rs3 e59 (Or.inr ⟨by omega, by omega⟩))
                          | (exfalso; omega)
                  · refine u_iloadn (k := 43) rfl rfl ?_
                    refine a_if_eq (k := 44) rfl (fun c_81 => ?_) (fun c_81 => ?_)
                    · have e81 := b01_f c_81
                      refine u_aloadn (k := 52) rfl rfl ?_
                      refine a_iconst (k := 53) rfl ?_
                      refine u_aloadn (k := 54) rfl rfl ?_
                      refine a_geti (k := 55) rfl fRX11_102 rfl rfl ?_
                      rw [K3.1.2.1]
                      refine v_virt2 (M' := mX11_blames) (k := 56) rfl lRX11_115 oX11_blames vX11_blames ⟨Nat.le_of_ble_eq_true rfl, Nat.le_of_ble_eq_true rfl⟩ rfl rfl (Nat.le_of_ble_eq_true rfl) (m_blames 3 q g3 K3.1.2.2.1 K3.1.2.2.2) ?_
                      refine a_goto (k := 57) rfl ?_
                      refine a_goto (k := 74) rfl ?_
                      refine a_sub [1, 2] rfl ?_
                      first
                        | exact bad g3 1 (by omega) ⟨K3.1, K3.2.1, K3.2.2.1⟩ (rs1 (by omega) (Or.inl (by omega)))
                        | exact bad g3 1 (by omega) ⟨K3.1, K3.2.1, K3.2.2.1⟩ (rs1 (by omega) (Or.inr e59))
                        | exact bad g3 3 (by omega) ⟨K3.1, K3.2.1, K3.2.2.1⟩ (rs3 e81 (Or.inl (by omega)))
                        | exact bad g3 3 (by omega) ⟨K3.1, K3.2.1, K3.2.2.1⟩ (rs3 e59 (Or.inr ⟨by omega, by omega⟩))
                        | (exfalso; omega)
                    · have e81 := b01_t c_81
                      refine u_iloadn (k := 45) rfl rfl ?_
                      refine a_bipush (k := 46) rfl ?_
                      refine a_icmp_ne (k := 47) rfl (fun c_87 => ?_) (fun c_87 => ?_)
                      · first
                          | exact T110 g3 K3 (Or.inl ⟨by omega, e81⟩)
                          | exact T110 g3 K3 (Or.inr ⟨by omega, e59, by have := hPK.2.2.1; omega⟩)
                          | (exfalso; omega)
                      · refine u_aloadn (k := 48) rfl rfl ?_
                        refine a_geti (k := 49) rfl fRX11_140 rfl rfl ?_
                        refine a_iconst (k := 50) rfl ?_
                        rw [K3.2.2.2.2.1]
                        refine a_icmp_ne (k := 51) rfl (fun c_95 => ?_) (fun c_95 => ?_)
                        · first
                            | exact T110 g3 K3 (Or.inl ⟨by omega, e81⟩)
                            | exact T110 g3 K3 (Or.inr ⟨by omega, e59, by have := hPK.2.2.1; omega⟩)
                            | (exfalso; omega)
                        · refine u_aloadn (k := 52) rfl rfl ?_
                          refine a_iconst (k := 53) rfl ?_
                          refine u_aloadn (k := 54) rfl rfl ?_
                          refine a_geti (k := 55) rfl fRX11_102 rfl rfl ?_
                          rw [K3.1.2.1]
                          refine v_virt2 (M' := mX11_blames) (k := 56) rfl lRX11_115 oX11_blames vX11_blames ⟨Nat.le_of_ble_eq_true rfl, Nat.le_of_ble_eq_true rfl⟩ rfl rfl (Nat.le_of_ble_eq_true rfl) (m_blames 3 q g3 K3.1.2.2.1 K3.1.2.2.2) ?_
                          refine a_goto (k := 57) rfl ?_
                          refine a_goto (k := 74) rfl ?_
                          refine a_sub [1, 2] rfl ?_
                          first
                            | exact bad g3 1 (by omega) ⟨K3.1, K3.2.1, K3.2.2.1⟩ (rs1 (by omega) (Or.inl (by omega)))
                            | exact bad g3 1 (by omega) ⟨K3.1, K3.2.1, K3.2.2.1⟩ (rs1 (by omega) (Or.inr e59))
                            | exact bad g3 3 (by omega) ⟨K3.1, K3.2.1, K3.2.2.1⟩ (rs3 e81 (Or.inl (by omega)))
                            | exact bad g3 3 (by omega) ⟨K3.1, K3.2.1, K3.2.2.1⟩ (rs3 e59 (Or.inr ⟨by omega, by omega⟩))
                            | (exfalso; omega)
                · have e59 := b01_t c_59
                  refine u_aloadn (k := 34) rfl rfl ?_
                  refine a_iconst (k := 35) rfl ?_
                  refine u_aloadn (k := 36) rfl rfl ?_
                  refine a_geti (k := 37) rfl fRX11_102 rfl rfl ?_
                  rw [K3.1.2.1]
                  refine v_virt2 (M' := mX11_blames) (k := 38) rfl lRX11_115 oX11_blames vX11_blames ⟨Nat.le_of_ble_eq_true rfl, Nat.le_of_ble_eq_true rfl⟩ rfl rfl (Nat.le_of_ble_eq_true rfl) (m_blames 1 q g3 K3.1.2.2.1 K3.1.2.2.2) ?_
                  refine a_goto (k := 39) rfl ?_
                  refine a_goto (k := 74) rfl ?_
                  refine a_sub [1, 2] rfl ?_
                  first
                    | exact bad g3 1 (by omega) ⟨K3.1, K3.2.1, K3.2.2.1⟩ (rs1 (by omega) (Or.inl (by omega)))
                    | exact bad g3 1 (by omega) ⟨K3.1, K3.2.1, K3.2.2.1⟩ (rs1 (by omega) (Or.inr e59))
                    | exact bad g3 3 (by omega) ⟨K3.1, K3.2.1, K3.2.2.1⟩ (rs3 e81 (Or.inl (by omega)))
                    | exact bad g3 3 (by omega) ⟨K3.1, K3.2.1, K3.2.2.1⟩ (rs3 e59 (Or.inr ⟨by omega, by omega⟩))
                    | (exfalso; omega)
      · have hnx : nx tx L a = -1 := by unfold nx; rw [if_neg hlt]
        have hbL : sk tx L a = L := by omega
        rw [hbL] at hgb
        have hed : ed p = true := by
          unfold ed
          rw [hp]
          cases b <;> decide
        have h4 : (1 : Int) = b01 (decide (p.1 = 4)) ∧ b = false ∨ (0 : Int) = b01 (decide (p.1 = 4)) ∧ b = true := by
          rw [hp]
          cases b
          · exact Or.inl ⟨rfl, rfl⟩
          · exact Or.inr ⟨rfl, rfl⟩
        refine u_aloadn (k := 17) rfl rfl ?_
        refine a_geti (k := 18) rfl fRX11_105 rfl rfl ?_
        rw [hg9]
        refine a_if_ne (k := 19) rfl (fun c_31 => ?_) (fun c_31 => ?_)
        · exact absurd rfl c_31
        · refine u_aloadn (k := 20) rfl rfl ?_
          refine ui_virt0 (M' := mX11_next) (k := 21) rfl lRX11_111 oX11_next vX11_next ⟨Nat.le_of_ble_eq_true rfl, Nat.le_of_ble_eq_true rfl⟩ rfl rfl (Nat.le_of_ble_eq_true rfl) (m_next L a tx g hTX hL h256 hg8 haL) (by intro r g hp; exact ⟨_, hp.1⟩) (fun z g2 hg2 => ?_)
          obtain ⟨hz, h82, hF2⟩ := hg2; cases hz
          have hg9' : g2 40 0 9 = 0 := by rw [hF2 40 0 9 (by simp) (by simp)]; exact hg9
          rw [hnx]
          refine a_if_lt (k := 22) rfl (fun c_38 => ?_) (fun c_38 => ?_)
          · refine u_aloadn (k := 75) rfl rfl ?_
            refine u_aloadn (k := 76) rfl rfl ?_
            refine a_geti (k := 77) rfl fRX11_105 rfl rfl ?_
            rw [hg9']
            refine a_if_ne (k := 78) rfl (fun c_147 => ?_) (fun c_147 => ?_)
            · exact absurd rfl c_147
            · refine u_iloadn (k := 79) rfl rfl ?_
              refine a_if_ne (k := 80) rfl (fun c_151 => ?_) (fun c_151 => ?_)
              · have e151 := b01_t c_151
                refine a_iconst (k := 83) rfl ?_
                refine a_goto (k := 84) rfl ?_
                refine a_putz (k := 87) rfl pRX11_149 rfl rfl (by omega) ?_
                refine a_return (k := 88) rfl rfl ?_
                refine ⟨rfl, (hF.tr hF2 (by simp) (by simp [krm])).p2 (by simp [krm]), Or.inr ⟨p, hgb, hed, by simp only [put_apply, Nat.reduceEqDiff, reduceIte, false_and, and_false, true_and, and_true, and_self, if_false, if_true, not_false_eq_true, not_true_eq_false, ne_eq]; exact hg9', by simp only [put_apply, Nat.reduceEqDiff, reduceIte, false_and, and_false, true_and, and_true, and_self, if_false, if_true, not_false_eq_true, not_true_eq_false, ne_eq]; rw [hF2 40 0 10 (by simp) (by simp)]; exact hg10, ?_, by simp only [put_apply, Nat.reduceEqDiff, reduceIte, false_and, and_false, true_and, and_true, and_self, if_false, if_true, not_false_eq_true, not_true_eq_false, ne_eq]; rw [hF2 40 0 12 (by simp) (by simp)]; exact hg12, by simp only [put_apply, Nat.reduceEqDiff, reduceIte, false_and, and_false, true_and, and_true, and_self, if_false, if_true, not_false_eq_true, not_true_eq_false, ne_eq]; rw [hF2 40 0 13 (by simp) (by simp)]; exact hg13, fun k hk => ⟨by simp only [put_apply, Nat.reduceEqDiff, reduceIte, false_and, and_false, true_and, and_true, and_self, if_false, if_true, not_false_eq_true, not_true_eq_false, ne_eq]; rw [hF2 45 0 k (by simp) (by simp)]; exact (hTH k hk).1, fun i hi => by simp only [put_apply, Nat.reduceEqDiff, reduceIte, false_and, and_false, true_and, and_true, and_self, if_false, if_true, not_false_eq_true, not_true_eq_false, ne_eq]; rw [hF2 46 0 _ (by simp) (by simp)]; exact (hTH k hk).2 i hi⟩⟩⟩
                rw [put_eq]
                rcases h4 with ⟨z1, z2⟩ | ⟨z1, z2⟩
                · first | exact z1 | (rw [e151] at z2; cases z2)
                · first | exact z1 | (rw [e151] at z2; cases z2)
              · have e151 := b01_f c_151
                refine a_iconst (k := 81) rfl ?_
                refine a_goto (k := 82) rfl ?_
                refine a_putz (k := 87) rfl pRX11_149 rfl rfl (by omega) ?_
                refine a_return (k := 88) rfl rfl ?_
                refine ⟨rfl, (hF.tr hF2 (by simp) (by simp [krm])).p2 (by simp [krm]), Or.inr ⟨p, hgb, hed, by simp only [put_apply, Nat.reduceEqDiff, reduceIte, false_and, and_false, true_and, and_true, and_self, if_false, if_true, not_false_eq_true, not_true_eq_false, ne_eq]; exact hg9', by simp only [put_apply, Nat.reduceEqDiff, reduceIte, false_and, and_false, true_and, and_true, and_self, if_false, if_true, not_false_eq_true, not_true_eq_false, ne_eq]; rw [hF2 40 0 10 (by simp) (by simp)]; exact hg10, ?_, by simp only [put_apply, Nat.reduceEqDiff, reduceIte, false_and, and_false, true_and, and_true, and_self, if_false, if_true, not_false_eq_true, not_true_eq_false, ne_eq]; rw [hF2 40 0 12 (by simp) (by simp)]; exact hg12, by simp only [put_apply, Nat.reduceEqDiff, reduceIte, false_and, and_false, true_and, and_true, and_self, if_false, if_true, not_false_eq_true, not_true_eq_false, ne_eq]; rw [hF2 40 0 13 (by simp) (by simp)]; exact hg13, fun k hk => ⟨by simp only [put_apply, Nat.reduceEqDiff, reduceIte, false_and, and_false, true_and, and_true, and_self, if_false, if_true, not_false_eq_true, not_true_eq_false, ne_eq]; rw [hF2 45 0 k (by simp) (by simp)]; exact (hTH k hk).1, fun i hi => by simp only [put_apply, Nat.reduceEqDiff, reduceIte, false_and, and_false, true_and, and_true, and_self, if_false, if_true, not_false_eq_true, not_true_eq_false, ne_eq]; rw [hF2 46 0 _ (by simp) (by simp)]; exact (hTH k hk).2 i hi⟩⟩⟩
                rw [put_eq]
                rcases h4 with ⟨z1, z2⟩ | ⟨z1, z2⟩
                · first | exact z1 | (rw [e151] at z2; cases z2)
                · first | exact z1 | (rw [e151] at z2; cases z2)
          · omega
  refine u_aloadn (k := 0) rfl rfl ?_
  refine a_iconst (k := 1) rfl ?_
  refine a_puti (k := 2) rfl pRX11_102 rfl rfl ?_
  refine u_aloadn (k := 3) rfl rfl ?_
  refine a_iconst (k := 4) rfl ?_
  refine a_puti (k := 5) rfl pRX11_105 rfl rfl ?_
  refine u_aloadn (k := 6) rfl rfl ?_
  refine a_iconst (k := 7) rfl ?_
  refine a_puti (k := 8) rfl pRX11_108 rfl rfl ?_
  refine u_aloadn (k := 9) rfl rfl ?_
  refine a_iconst (k := 10) rfl ?_
  refine a_puti (k := 11) rfl pRX11_140 rfl rfl ?_
  refine u_aloadn (k := 12) rfl rfl ?_
  refine a_iconst (k := 13) rfl ?_
  refine a_puti (k := 14) rfl pRX11_123 rfl rfl ?_
  refine a_iconst (k := 15) rfl ?_
  refine a_istoren (k := 16) (lv' := [(1, _), (0, _)]) rfl (Nat.le_of_ble_eq_true rfl) rfl ?_
  refine Lp L 0 PS0 true none _ (by omega) (Nat.zero_le _) (((((Fr.rf.p2 (by simp [krm])).p2 (by simp [krm])).p2 (by simp [krm])).p2 (by simp [krm])).p2 (by simp [krm])) ⟨hT.keep (by simp only [put_apply, Nat.reduceEqDiff, reduceIte, false_and, and_false, true_and, and_true, and_self, if_false, if_true, not_false_eq_true, not_true_eq_false, ne_eq]) (fun i => by simp only [put_apply, Nat.reduceEqDiff, reduceIte, false_and, and_false, true_and, and_true, and_self, if_false, if_true, not_false_eq_true, not_true_eq_false, ne_eq]), by simp only [put_apply, Nat.reduceEqDiff, reduceIte, false_and, and_false, true_and, and_true, and_self, if_false, if_true, not_false_eq_true, not_true_eq_false, ne_eq]; rfl, by simp only [put_apply, Nat.reduceEqDiff, reduceIte, false_and, and_false, true_and, and_true, and_self, if_false, if_true, not_false_eq_true, not_true_eq_false, ne_eq], by simp only [put_apply, Nat.reduceEqDiff, reduceIte, false_and, and_false, true_and, and_true, and_self, if_false, if_true, not_false_eq_true, not_true_eq_false, ne_eq]⟩ rfl rfl (fun _ => rfl) (by simp only [put_apply, Nat.reduceEqDiff, reduceIte, false_and, and_false, true_and, and_true, and_self, if_false, if_true, not_false_eq_true, not_true_eq_false, ne_eq]) (by simp only [put_apply, Nat.reduceEqDiff, reduceIte, false_and, and_false, true_and, and_true, and_self, if_false, if_true, not_false_eq_true, not_true_eq_false, ne_eq]; rfl) (by simp only [put_apply, Nat.reduceEqDiff, reduceIte, false_and, and_false, true_and, and_true, and_self, if_false, if_true, not_false_eq_true, not_true_eq_false, ne_eq]; rfl) (fun k hk => absurd hk (Nat.not_lt_zero k))
