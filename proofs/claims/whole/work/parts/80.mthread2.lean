def tth : List (Nat × Nat) := [(45, 0), (46, 0), (47, 0)]
def kth : List (Nat × Nat × Nat) := [(40, 0, 8), (40, 0, 9), (40, 0, 10), (40, 0, 13)]
/-- the threads that were read -/
def THm (K : Nat) (T : Nat → Nat × (Nat → Nat)) (g : HH) : Prop := ∀ k, k < K → g 45 0 k = ((T k).1 : Int) ∧ ∀ i, i < (T k).1 → g 46 0 (16 * k + i) = ((T k).2 i : Int)
/-- a letter that names a pass -/
theorem nm_let {v : Nat} (h : 0 ≤ nmo (v : Int)) : ∃ x o, x < 26 ∧ o ≤ 1 ∧ nmo (v : Int) = ((x + 32 * o : Nat) : Int) ∧ ((o = 1 ∧ v = x + 65) ∨ (o = 0 ∧ v = x + 97)) := by
  unfold nmo at h ⊢
  split at h
  · rename_i h1
    rw [if_pos h1]
    exact ⟨v - 65, 1, by omega, by omega, by omega, Or.inl ⟨rfl, by omega⟩⟩
  · rename_i h1
    split at h
    · rename_i h2
      rw [if_neg h1, if_pos h2]
      exact ⟨v - 97, 0, by omega, by omega, by omega, Or.inr ⟨rfl, by omega⟩⟩
    · omega
theorem nm_no {v : Nat} (h : nmo (v : Int) < 0) : ¬ (65 ≤ v ∧ v ≤ 90) ∧ ¬ (97 ≤ v ∧ v ≤ 122) := by
  unfold nmo at h
  split at h
  · omega
  · split at h
    · omega
    · omega
theorem rs_pass {fg ff gr n x o v q : Nat} {KT : Nat × (Nat → Nat × (Nat → Nat))} {F : Nat → Nat} (hx : x < 26) (hv : (o = 1 ∧ v = x + 65) ∨ (o = 0 ∧ v = x + 97)) : rs (5, fg, ff, gr, KT, (n, F)) v q = rpass (5, fg, ff, gr, KT, (n, F)) x o := by
  unfold rs
  dsimp only
  rw [if_neg (by omega), if_neg (by decide), if_neg (by decide), if_neg (by decide), if_neg (by decide), if_neg (by decide)]
  rcases hv with ⟨rfl, hv⟩ | ⟨rfl, hv⟩
  · rw [if_pos (by omega), show v - 65 = x by omega]
  · rw [if_neg (by omega), if_pos (by omega), show v - 97 = x by omega]
theorem rs_oth {fg ff gr n v q : Nat} {KT : Nat × (Nat → Nat × (Nat → Nat))} {F : Nat → Nat} (h1 : ¬ (65 ≤ v ∧ v ≤ 90)) (h2 : ¬ (97 ≤ v ∧ v ≤ 122)) (h32 : v ≠ 32) : rs (5, fg, ff, gr, KT, (n, F)) v q = if v = 59 then rend (5, fg, ff, gr, KT, (n, F)) else .inr 1 := by
  unfold rs
  dsimp only
  rw [if_neg h32, if_neg (by decide), if_neg (by decide), if_neg (by decide), if_neg (by decide), if_neg (by decide), if_neg h1, if_neg h2]
def TP (L : Nat) (tx : Nat → Nat) (a0 gr : Nat) (h : HH) (z : Option AV) (g : HH) : Prop := z = none ∧ Fr tth kth h g ∧ (FS L tx g ∨ ∃ a' p', a0 < a' ∧ a' ≤ L ∧ RS L tx a' g ∧ rgo tx a' = .inl p' ∧ p'.1 = 4 ∧ g 40 0 13 = (p'.2.2.2.2.1.1 : Int) ∧ THm p'.2.2.2.2.1.1 p'.2.2.2.2.1.2 g ∧ p'.2.2.2.1 = gr)
theorem m_threads (L a0 fg ff gr K : Nat) (T : Nat → Nat × (Nat → Nat)) (F0 : Nat → Nat) (tx : Nat → Nat) (h : HH) (hS : RS L tx a0 h) (hL : L ≤ 240) (h256 : ∀ i, i < L → tx i < 256) (haL : a0 ≤ L) (hg0 : rgo tx a0 = .inl (5, fg, ff, gr, (K, T), (0, F0))) (h13 : h 40 0 13 = (K : Int)) (hTH : THm K T h) : Sp mX11_threads [vr 40 0] h (TP L tx a0 gr h) := by
  have hPK0 := rgo_PK hg0
  have hK5 : K < 5 := (hPK0.2.2.2.2 rfl).2.2.2
  have hT16 : ∀ k, k < K → (T k).1 ≤ 16 := fun k hk => by
    obtain ⟨r1, r2, _⟩ := hPK0.2.2.2.1 k hk
    have := RT_mny r1
    dsimp only at r1 r2 this
    omega
  have THk : ∀ {g g' : HH}, THm K T g → (∀ k, k < K → g' 45 0 k = g 45 0 k) → (∀ k, k < 16 * K → g' 46 0 k = g 46 0 k) → THm K T g' := fun hh h1 h2 k hk => ⟨by rw [h1 k hk]; exact (hh k hk).1, fun i hi => by rw [h2 _ (by have := hT16 k hk; omega)]; exact (hh k hk).2 i hi⟩
  refine Sp.of rfl kX11_threads (Nat.le_of_ble_eq_true rfl) ?_
  have T243 : ∀ (b n : Nat) (F : Nat → Nat) (g : HH) (x1 x2 : Int), b ≤ L → a0 ≤ b → n ≤ 16 → Fr tth kth h g → TXm L tx g → g 40 0 8 = (b : Int) → g 40 0 13 = (K : Int) → THm K T g → (∀ i, i < n → g 46 0 (16 * K + i) = (F i : Int)) → (FS L tx g ∨ (g 40 0 9 = 0 ∧ g 40 0 10 = -1 ∧ sk tx L b = b ∧ rgo tx b = .inl (5, fg, ff, gr, (K, T), (n, F)) ∧ (nx tx L b = 59 → clos F n = true) ∧ (b < L → ¬ (65 ≤ tx b ∧ tx b ≤ 90) ∧ ¬ (97 ≤ tx b ∧ tx b ≤ 122)))) → AW mX11_threads (TP L tx a0 gr h) 243 [(3, vi n), (2, vi x2), (1, vi x1), (0, vr 40 0)] [] g := by
    intro b n F g x1 x2 hbL hab hn16 hF hTX hg8 hg13 hTHg hrow hc
    have hF2 : Fr tth kth h (put (put g 45 0 K (n : Int)) 40 0 13 ((K : Int) + 1)) := (hF.p1 (by simp [tth])).p2 (by simp [kth])
    have hTX2 : TXm L tx (put (put g 45 0 K (n : Int)) 40 0 13 ((K : Int) + 1)) := hTX.keep (by simp only [put_apply, Nat.reduceEqDiff, reduceIte, false_and, and_false, true_and, and_true, and_self, if_false, if_true, not_false_eq_true, not_true_eq_false, ne_eq]) (fun i => by simp only [put_apply, Nat.reduceEqDiff, reduceIte, false_and, and_false, true_and, and_true, and_self, if_false, if_true, not_false_eq_true, not_true_eq_false, ne_eq])
    have h82 : put (put g 45 0 K (n : Int)) 40 0 13 ((K : Int) + 1) 40 0 8 = (b : Int) := by simp only [put_apply, Nat.reduceEqDiff, reduceIte, false_and, and_false, true_and, and_true, and_self, if_false, if_true, not_false_eq_true, not_true_eq_false, ne_eq]; exact hg8
    rcases hc with ⟨e, w, e1, e2, e3, e4⟩ | ⟨c1, c2, c3, c4, c5, c6⟩
    · refine u_aloadn (k := 135) rfl rfl ?_
      refine a_getr (k := 136) rfl fRX11_27 rfl rfl rfl ?_
      refine u_aloadn (k := 137) rfl rfl ?_
      refine a_geti (k := 138) rfl fRX11_140 rfl rfl ?_
      rw [hg13]
      refine u_iloadn (k := 139) rfl rfl ?_
      refine u_iast (k := 140) rfl rfl rfl (by omega) ?_
      refine u_aloadn (k := 141) rfl rfl ?_
      refine a_dup (k := 142) rfl rfl ?_
      refine a_geti (k := 143) rfl fRX11_140 rfl rfl ?_
      refine a_iconst (k := 144) rfl ?_
      rw [put_ne (by simp), hg13]
      refine u_iadd (k := 145) rfl (by omega) ?_
      refine a_puti (k := 146) rfl pRX11_140 rfl rfl ?_
      refine u_aloadn (k := 147) rfl rfl ?_
      refine uv_virt0 (M' := mX11_ends) (k := 148) rfl lRX11_126 oX11_ends vX11_ends ⟨Nat.le_of_ble_eq_true rfl, Nat.le_of_ble_eq_true rfl⟩ rfl rfl (Nat.le_of_ble_eq_true rfl) (m_ends1 b _ h82 (by omega) (by simp only [put_apply, Nat.reduceEqDiff, reduceIte, false_and, and_false, true_and, and_true, and_self, if_false, if_true, not_false_eq_true, not_true_eq_false, ne_eq]; rw [e2]; omega)) (by intro r g hp; exact hp.1) (fun g3 hg3 => ?_)
      obtain ⟨-, hF3⟩ := hg3
      refine a_return (k := 149) rfl rfl ?_
      refine ⟨rfl, hF2.tr hF3 (by simp) (by simp [kth]), Or.inl ⟨e, w, e1, ?_, ?_, e4⟩⟩
      · rw [hF3 40 0 9 (by simp) (by simp)]; simp only [put_apply, Nat.reduceEqDiff, reduceIte, false_and, and_false, true_and, and_true, and_self, if_false, if_true, not_false_eq_true, not_true_eq_false, ne_eq]; exact e2
      · rw [hF3 40 0 10 (by simp) (by simp)]; simp only [put_apply, Nat.reduceEqDiff, reduceIte, false_and, and_false, true_and, and_true, and_self, if_false, if_true, not_false_eq_true, not_true_eq_false, ne_eq]; exact e3
    · refine u_aloadn (k := 135) rfl rfl ?_
      refine a_getr (k := 136) rfl fRX11_27 rfl rfl rfl ?_
      refine u_aloadn (k := 137) rfl rfl ?_
      refine a_geti (k := 138) rfl fRX11_140 rfl rfl ?_
      rw [hg13]
      refine u_iloadn (k := 139) rfl rfl ?_
      refine u_iast (k := 140) rfl rfl rfl (by omega) ?_
      refine u_aloadn (k := 141) rfl rfl ?_
      refine a_dup (k := 142) rfl rfl ?_
      refine a_geti (k := 143) rfl fRX11_140 rfl rfl ?_
      refine a_iconst (k := 144) rfl ?_
      rw [put_ne (by simp), hg13]
      refine u_iadd (k := 145) rfl (by omega) ?_
      refine a_puti (k := 146) rfl pRX11_140 rfl rfl ?_
      refine u_aloadn (k := 147) rfl rfl ?_
      refine uv_virt0 (M' := mX11_ends) (k := 148) rfl lRX11_126 oX11_ends vX11_ends ⟨Nat.le_of_ble_eq_true rfl, Nat.le_of_ble_eq_true rfl⟩ rfl rfl (Nat.le_of_ble_eq_true rfl) (m_ends0 L b tx _ hTX2 hL h256 h82 hbL (by simp only [put_apply, Nat.reduceEqDiff, reduceIte, false_and, and_false, true_and, and_true, and_self, if_false, if_true, not_false_eq_true, not_true_eq_false, ne_eq]; exact c1) (by simp only [put_apply, Nat.reduceEqDiff, reduceIte, false_and, and_false, true_and, and_true, and_self, if_false, if_true, not_false_eq_true, not_true_eq_false, ne_eq]; exact c2)) (by intro r g hp; exact hp.1) (fun g3 hg3 => ?_)
      obtain ⟨-, e8, e59, en59, hF3⟩ := hg3
      refine a_return (k := 149) rfl rfl ?_
      refine ⟨rfl, hF2.tr hF3 (by simp) (by simp [ken, kth]), ?_⟩
      have hT4 := hTX2.kp hF3 (by simp) (by simp) (by simp [ken]) (by simp [ken])
      rw [c3] at e8 en59
      by_cases hnx : nx tx L b = 59
      · obtain ⟨n1, n2⟩ := e59 hnx
        have hcl := c5 hnx
        unfold nx at hnx
        rw [c3] at hnx
        split at hnx
        · rename_i hlt
          obtain ⟨d1, d2⟩ := c6 hlt
          have hl : tx b = 59 := by omega
          refine Or.inr ⟨b + 1, (4, fg, ff, gr, (K + 1, un T K (n, F)), (n, F)), by omega, by omega, ⟨hT4, e8, n1, n2⟩, rgo_ok c4 ?_, rfl, ?_, fun k hk => ?_, rfl⟩
          · rw [rs_oth d1 d2 (by omega), if_pos hl]
            unfold rend
            dsimp only
            rw [if_pos hcl]
          · rw [hF3 40 0 13 (by simp) (by simp [ken]), put_eq]
            show (K : Int) + 1 = ((K + 1 : Nat) : Int)
            omega
          · have hk : k < K + 1 := hk
            show g3 45 0 k = ((un T K (n, F) k).1 : Int) ∧ ∀ i, i < (un T K (n, F) k).1 → g3 46 0 (16 * k + i) = ((un T K (n, F) k).2 i : Int)
            by_cases he : k = K
            · rw [he, un_eq]
              refine ⟨by rw [hF3 45 0 K (by simp) (by simp [ken])]; simp only [put_apply, Nat.reduceEqDiff, reduceIte, false_and, and_false, true_and, and_true, and_self, if_false, if_true, not_false_eq_true, not_true_eq_false, ne_eq], fun i hi => ?_⟩
              rw [hF3 46 0 _ (by simp) (by simp [ken])]
              simp only [put_apply, Nat.reduceEqDiff, reduceIte, false_and, and_false, true_and, and_true, and_self, if_false, if_true, not_false_eq_true, not_true_eq_false, ne_eq]
              exact hrow i hi
            · rw [un_ne T _ he]
              refine ⟨by rw [hF3 45 0 k (by simp) (by simp [ken]), put_ne (by simp), put_ne (by simp [he])]; exact (hTHg k (by omega)).1, fun i hi => ?_⟩
              rw [hF3 46 0 _ (by simp) (by simp [ken])]
              simp only [put_apply, Nat.reduceEqDiff, reduceIte, false_and, and_false, true_and, and_true, and_self, if_false, if_true, not_false_eq_true, not_true_eq_false, ne_eq]
              exact (hTHg k (by omega)).2 i hi
        · omega
      · obtain ⟨n1, n2⟩ := en59 hnx
        refine Or.inl ⟨1, b, by omega, n1, n2, ?_⟩
        by_cases hlt : b < L
        · have h32 : tx b ≠ 32 := fun z => by
            have h6 := (sk_ok (tx := tx) hbL).2.2
            rw [c3] at h6
            exact h6 hlt z
          obtain ⟨d1, d2⟩ := c6 hlt
          have hl : tx b ≠ 59 := fun z => hnx (by unfold nx; rw [c3, if_pos hlt, z]; rfl)
          exact vd_rs c4 hlt (by rw [rs_oth d1 d2 h32, if_neg hl]) (by decide)
        · have he : b = L := by omega
          rw [he] at c4 ⊢
          exact vd_end c4 (by show 5 ≠ 0; decide) (by show 5 ≠ 4; decide)
  have T214 : ∀ (b n : Nat) (F : Nat → Nat) (g : HH), b ≤ L → a0 ≤ b → n ≤ 16 → Fr tth kth h g → RS L tx b g → g 40 0 13 = (K : Int) → THm K T g → (∀ i, i < n → g 46 0 (16 * K + i) = (F i : Int)) → sk tx L b = b → rgo tx b = .inl (5, fg, ff, gr, (K, T), (n, F)) → (b < L → ¬ (65 ≤ tx b ∧ tx b ≤ 90) ∧ ¬ (97 ≤ tx b ∧ tx b ≤ 122)) → ∀ x1 : Int, AW mX11_threads (TP L tx a0 gr h) 214 [(3, vi n), (2, vi (opn F n : Int)), (1, vi x1), (0, vr 40 0)] [] g := by
    intro b n F g hbL hab hn16 hF hRS hg13 hTHg hrow hsk hgo hlet x1
    obtain ⟨hTX, hg8, hg9, hg10⟩ := hRS
    have hop := opn_le F n
    have go243 : ∀ g2 : HH, Fr [] [(40, 0, 8)] g g2 → g2 40 0 8 = (b : Int) → (nx tx L b = 59 → clos F n = true) → AW mX11_threads (TP L tx a0 gr h) 243 [(3, vi n), (2, vi (opn F n : Int)), (1, vi x1), (0, vr 40 0)] [] g2 := fun g2 hF2 h82 hcl =>
      T243 b n F g2 _ _ hbL hab hn16 (hF.tr hF2 (by simp) (by simp [kth])) (hTX.kp hF2 (by simp) (by simp) (by simp) (by simp)) h82 (by rw [hF2 40 0 13 (by simp) (by simp)]; exact hg13) (THk hTHg (fun k _ => hF2 45 0 k (by simp) (by simp)) (fun k _ => hF2 46 0 k (by simp) (by simp))) (fun i hi => by rw [hF2 46 0 _ (by simp) (by simp)]; exact hrow i hi) (Or.inr ⟨by rw [hF2 40 0 9 (by simp) (by simp)]; exact hg9, by rw [hF2 40 0 10 (by simp) (by simp)]; exact hg10, hsk, hgo, hcl, hlet⟩)
    refine u_aloadn (k := 121) rfl rfl ?_
    refine a_geti (k := 122) rfl fRX11_105 rfl rfl ?_
    rw [hg9]
    refine a_if_ne (k := 123) rfl (fun c_218 => ?_) (fun c_218 => ?_)
    · exact absurd rfl c_218
    · refine u_aloadn (k := 124) rfl rfl ?_
      refine ui_virt0 (M' := mX11_next) (k := 125) rfl lRX11_111 oX11_next vX11_next ⟨Nat.le_of_ble_eq_true rfl, Nat.le_of_ble_eq_true rfl⟩ rfl rfl (Nat.le_of_ble_eq_true rfl) (m_next L b tx g hTX hL h256 hg8 hbL) (by intro r g hp; exact ⟨_, hp.1⟩) (fun z g2 hg2 => ?_)
      obtain ⟨hz, h82, hF2⟩ := hg2; cases hz; rw [hsk] at h82
      refine a_bipush (k := 126) rfl ?_
      refine a_icmp_ne (k := 127) rfl (fun c_227 => ?_) (fun c_227 => ?_)
      · exact go243 g2 hF2 h82 (fun z => absurd z c_227)
      · refine u_iloadn (k := 128) rfl rfl ?_
        refine a_if_le (k := 129) rfl (fun c_231 => ?_) (fun c_231 => ?_)
        · exact go243 g2 hF2 h82 (fun _ => opn_clos.mp (by omega))
        · refine u_aloadn (k := 130) rfl rfl ?_
          refine a_iconst (k := 131) rfl ?_
          refine u_aloadn (k := 132) rfl rfl ?_
          refine a_geti (k := 133) rfl fRX11_102 rfl rfl ?_
          rw [h82]
          refine v_virt2 (M' := mX11_blames) (k := 134) rfl lRX11_115 oX11_blames vX11_blames ⟨Nat.le_of_ble_eq_true rfl, Nat.le_of_ble_eq_true rfl⟩ rfl rfl (Nat.le_of_ble_eq_true rfl) (m_blames 5 b g2 (by rw [hF2 40 0 9 (by simp) (by simp)]; exact hg9) (by rw [hF2 40 0 10 (by simp) (by simp)]; exact hg10)) ?_
          refine T243 b n F _ _ _ hbL hab hn16 (((hF.tr hF2 (by simp) (by simp [kth])).p2 (by simp [kth])).p2 (by simp [kth])) ((hTX.kp hF2 (by simp) (by simp) (by simp) (by simp)).keep (by simp only [put_apply, Nat.reduceEqDiff, reduceIte, false_and, and_false, true_and, and_true, and_self, if_false, if_true, not_false_eq_true, not_true_eq_false, ne_eq]) (fun i => by simp only [put_apply, Nat.reduceEqDiff, reduceIte, false_and, and_false, true_and, and_true, and_self, if_false, if_true, not_false_eq_true, not_true_eq_false, ne_eq])) (by simp only [put_apply, Nat.reduceEqDiff, reduceIte, false_and, and_false, true_and, and_true, and_self, if_false, if_true, not_false_eq_true, not_true_eq_false, ne_eq]; exact h82) (by simp only [put_apply, Nat.reduceEqDiff, reduceIte, false_and, and_false, true_and, and_true, and_self, if_false, if_true, not_false_eq_true, not_true_eq_false, ne_eq]; rw [hF2 40 0 13 (by simp) (by simp)]; exact hg13) (THk hTHg (fun k _ => by simp only [put_apply, Nat.reduceEqDiff, reduceIte, false_and, and_false, true_and, and_true, and_self, if_false, if_true, not_false_eq_true, not_true_eq_false, ne_eq]; exact hF2 45 0 k (by simp) (by simp)) (fun k _ => by simp only [put_apply, Nat.reduceEqDiff, reduceIte, false_and, and_false, true_and, and_true, and_self, if_false, if_true, not_false_eq_true, not_true_eq_false, ne_eq]; exact hF2 46 0 k (by simp) (by simp))) (fun i hi => by simp only [put_apply, Nat.reduceEqDiff, reduceIte, false_and, and_false, true_and, and_true, and_self, if_false, if_true, not_false_eq_true, not_true_eq_false, ne_eq]; rw [hF2 46 0 _ (by simp) (by simp)]; exact hrow i hi) (Or.inl ⟨5, b, by omega, by simp only [put_apply, Nat.reduceEqDiff, reduceIte, false_and, and_false, true_and, and_true, and_self, if_false, if_true, not_false_eq_true, not_true_eq_false, ne_eq], by simp only [put_apply, Nat.reduceEqDiff, reduceIte, false_and, and_false, true_and, and_true, and_self, if_false, if_true, not_false_eq_true, not_true_eq_false, ne_eq], ?_⟩)
          have hnx : nx tx L b = 59 := Classical.byContradiction (fun z => absurd c_227 z)
          unfold nx at hnx
          rw [hsk] at hnx
          split at hnx
          · rename_i hlt
            obtain ⟨d1, d2⟩ := hlet hlt
            refine vd_rs hgo hlt ?_ (by decide)
            rw [rs_oth d1 d2 (by omega), if_pos (by omega)]
            unfold rend
            dsimp only
            rw [if_neg (fun z => by have := opn_clos.mpr z; omega)]
          · omega
  have Lp : ∀ (d a n : Nat) (F : Nat → Nat) (g : HH), L - a ≤ d → a ≤ L → a0 ≤ a → Fr tth kth h g → RS L tx a g → g 40 0 13 = (K : Int) → THm K T g → (∀ i, i < n → g 46 0 (16 * K + i) = (F i : Int)) → (∀ x, x < 26 → g 47 0 x = (nmv F n x : Int)) → rgo tx a = .inl (5, fg, ff, gr, (K, T), (n, F)) → AW mX11_threads (TP L tx a0 gr h) 27 [(3, vi n), (2, vi (opn F n : Int)), (1, vi (mny F n : Int)), (0, vr 40 0)] [] g := by
    intro d
    induction d with
    | zero =>
      intro a n F g hd haL2 h0a hF hRS hg13 hTHg hrow hnm hgo
      have ha : a = L := by omega
      subst ha
      obtain ⟨j1, j2, j3, j4⟩ := (rgo_PK hgo).2.2.2.2 rfl
      dsimp only at j1 j2 j3 j4
      have hn16 : n ≤ 16 := by have := len_mny j1; omega
      have hnx : nx tx a a = -1 := by unfold nx; rw [sk_end, if_neg (Nat.lt_irrefl _)]
      have hRS0 := hRS
      obtain ⟨hTX, hg8, hg9, hg10⟩ := hRS
      refine u_aloadn (k := 18) rfl rfl ?_
      refine a_geti (k := 19) rfl fRX11_105 rfl rfl ?_
      rw [hg9]
      refine a_if_ne (k := 20) rfl (fun c_31 => ?_) (fun c_31 => ?_)
      · exact absurd rfl c_31
      · refine u_aloadn (k := 21) rfl rfl ?_
        refine ui_virt0 (M' := mX11_next) (k := 22) rfl lRX11_111 oX11_next vX11_next ⟨Nat.le_of_ble_eq_true rfl, Nat.le_of_ble_eq_true rfl⟩ rfl rfl (Nat.le_of_ble_eq_true rfl) (m_next a a tx g hTX hL h256 hg8 haL2) (by intro r g hp; exact ⟨_, hp.1⟩) (fun z g2 hg2 => ?_)
        obtain ⟨hz, h82, hF2⟩ := hg2; cases hz; rw [sk_end] at h82
        rw [hnx]
        refine i_stat1 (M' := mX11_nameOf) (k := 23) rfl lRX11_137 oX11_nameOf vX11_nameOf ⟨Nat.le_of_ble_eq_true rfl, Nat.le_of_ble_eq_true rfl⟩ rfl (Nat.le_of_ble_eq_true rfl) (m_nameOf (-1) g2 (by omega) (by omega)) ?_
        refine a_if_lt (k := 24) rfl (fun c_41 => ?_) (fun c_41 => ?_)
        · exact T214 a n F g2 haL2 h0a hn16 (hF.tr hF2 (by simp) (by simp [kth])) ⟨hTX.kp hF2 (by simp) (by simp) (by simp) (by simp), h82, by rw [hF2 40 0 9 (by simp) (by simp)]; exact hg9, by rw [hF2 40 0 10 (by simp) (by simp)]; exact hg10⟩ (by rw [hF2 40 0 13 (by simp) (by simp)]; exact hg13) (THk hTHg (fun k _ => hF2 45 0 k (by simp) (by simp)) (fun k _ => hF2 46 0 k (by simp) (by simp))) (fun i hi => by rw [hF2 46 0 _ (by simp) (by simp)]; exact hrow i hi) sk_end hgo (fun z => absurd z (Nat.lt_irrefl _)) _
        · exact absurd (show nmo (-1) < 0 by decide) c_41
    | succ d ih =>
      intro a n F g hd haL2 h0a hF hRS hg13 hTHg hrow hnm hgo
      obtain ⟨j1, j2, j3, j4⟩ := (rgo_PK hgo).2.2.2.2 rfl
      dsimp only at j1 j2 j3 j4
      have hn16 : n ≤ 16 := by have := len_mny j1; omega
      obtain ⟨hTX, hg8, hg9, hg10⟩ := hRS
      obtain ⟨s1, s2, s3⟩ := sk_ok (tx := tx) haL2
      have hgb : rgo tx (sk tx L a) = .inl (5, fg, ff, gr, (K, T), (n, F)) := rgo_sk (by show 5 ≠ 2; decide) hgo
      have hss := sk_sk (tx := tx) haL2
      have hnxb : nx tx L (sk tx L a) = nx tx L a := by unfold nx; rw [hss]
      have hnxr : -1 ≤ nx tx L a ∧ nx tx L a ≤ 255 := by
        unfold nx
        split
        · rename_i hlt; have := h256 _ hlt; omega
        · omega
      have keep : ∀ g2 : HH, Fr [] [(40, 0, 8)] g g2 → g2 40 0 8 = (sk tx L a : Int) → RS L tx (sk tx L a) g2 ∧ Fr tth kth h g2 ∧ g2 40 0 13 = (K : Int) ∧ THm K T g2 ∧ (∀ i, i < n → g2 46 0 (16 * K + i) = (F i : Int)) ∧ (∀ x, x < 26 → g2 47 0 x = (nmv F n x : Int)) := fun g2 hF2 h82 => ⟨⟨hTX.kp hF2 (by simp) (by simp) (by simp) (by simp), h82, by rw [hF2 40 0 9 (by simp) (by simp)]; exact hg9, by rw [hF2 40 0 10 (by simp) (by simp)]; exact hg10⟩, hF.tr hF2 (by simp) (by simp [kth]), by rw [hF2 40 0 13 (by simp) (by simp)]; exact hg13, THk hTHg (fun k _ => hF2 45 0 k (by simp) (by simp)) (fun k _ => hF2 46 0 k (by simp) (by simp)), fun i hi => by rw [hF2 46 0 _ (by simp) (by simp)]; exact hrow i hi, fun x hx => by rw [hF2 47 0 x (by simp) (by simp)]; exact hnm x hx⟩
      by_cases hneg : nmo (nx tx L a) < 0
      · refine u_aloadn (k := 18) rfl rfl ?_
        refine a_geti (k := 19) rfl fRX11_105 rfl rfl ?_
        rw [hg9]
        refine a_if_ne (k := 20) rfl (fun c_31 => ?_) (fun c_31 => ?_)
        · exact absurd rfl c_31
        · refine u_aloadn (k := 21) rfl rfl ?_
          refine ui_virt0 (M' := mX11_next) (k := 22) rfl lRX11_111 oX11_next vX11_next ⟨Nat.le_of_ble_eq_true rfl, Nat.le_of_ble_eq_true rfl⟩ rfl rfl (Nat.le_of_ble_eq_true rfl) (m_next L a tx g hTX hL h256 hg8 haL2) (by intro r g hp; exact ⟨_, hp.1⟩) (fun z g2 hg2 => ?_)
          obtain ⟨hz, h82, hF2⟩ := hg2; cases hz
          refine i_stat1 (M' := mX11_nameOf) (k := 23) rfl lRX11_137 oX11_nameOf vX11_nameOf ⟨Nat.le_of_ble_eq_true rfl, Nat.le_of_ble_eq_true rfl⟩ rfl (Nat.le_of_ble_eq_true rfl) (m_nameOf (nx tx L a) g2 hnxr.1 hnxr.2) ?_
          refine a_if_lt (k := 24) rfl (fun c_41 => ?_) (fun c_41 => ?_)
          · obtain ⟨q1, q2, q3, q4, q5, q6⟩ := keep g2 hF2 h82
            refine T214 (sk tx L a) n F g2 s2 (by omega) hn16 q2 q1 q3 q4 q5 hss hgb (fun hlt => ?_) _
            unfold nx at hneg
            rw [if_pos hlt] at hneg
            exact nm_no hneg
          · exact absurd hneg c_41
      · have hlt : sk tx L a < L := by
          by_cases hh : sk tx L a < L
          · exact hh
          · exfalso
            refine hneg ?_
            unfold nx
            rw [if_neg hh]
            decide
        have hnx : nx tx L a = (tx (sk tx L a) : Int) := by unfold nx; rw [if_pos hlt]
        obtain ⟨x, o, hx, ho, hnm2, hvl⟩ := nm_let (v := tx (sk tx L a)) (by rw [← hnx]; omega)
        rw [← hnx] at hnm2
        have hrs : rs (5, fg, ff, gr, (K, T), (n, F)) (tx (sk tx L a)) (sk tx L a) = rpass (5, fg, ff, gr, (K, T), (n, F)) x o := rs_pass hx hvl
        have hv4 := nmv_4 F n x
        have h0v := nmv_0 (F := F) (n := n) (x := x)
        have hand := nmv_and (F := F) (n := n) (x := x) ho
        have hml := mny_le F n
        have hopl := opn_le F n
        generalize hb : sk tx L a = b at *
        generalize hvv : nmv F n x = v at *
        have T27f : ∀ (g2 : HH) (e : Nat) (x1 : Int), 0 < e → RS L tx b g2 → Fr tth kth h g2 → g2 40 0 13 = (K : Int) → THm K T g2 → (∀ i, i < n → g2 46 0 (16 * K + i) = (F i : Int)) → vd tx L = some (e, b) → AW mX11_threads (TP L tx a0 gr h) 27 [(3, vi n), (2, vi (opn F n : Int)), (1, vi x1), (0, vr 40 0)] [] (put (put g2 40 0 9 (e : Int)) 40 0 10 (b : Int)) := by
          intro g2 e x1 he q1 q2 q3 q4 q5 hvd
          have T1 := T243 b n F (put (put g2 40 0 9 (e : Int)) 40 0 10 (b : Int)) x1 (opn F n : Int) s2 (by omega) hn16 ((q2.p2 (by simp [kth])).p2 (by simp [kth])) (q1.1.keep (by simp only [put_apply, Nat.reduceEqDiff, reduceIte, false_and, and_false, true_and, and_true, and_self, if_false, if_true, not_false_eq_true, not_true_eq_false, ne_eq]) (fun i => by simp only [put_apply, Nat.reduceEqDiff, reduceIte, false_and, and_false, true_and, and_true, and_self, if_false, if_true, not_false_eq_true, not_true_eq_false, ne_eq])) (by simp only [put_apply, Nat.reduceEqDiff, reduceIte, false_and, and_false, true_and, and_true, and_self, if_false, if_true, not_false_eq_true, not_true_eq_false, ne_eq]; exact q1.2.1) (by simp only [put_apply, Nat.reduceEqDiff, reduceIte, false_and, and_false, true_and, and_true, and_self, if_false, if_true, not_false_eq_true, not_true_eq_false, ne_eq]; exact q3) (THk q4 (fun k _ => by simp only [put_apply, Nat.reduceEqDiff, reduceIte, false_and, and_false, true_and, and_true, and_self, if_false, if_true, not_false_eq_true, not_true_eq_false, ne_eq]) (fun k _ => by simp only [put_apply, Nat.reduceEqDiff, reduceIte, false_and, and_false, true_and, and_true, and_self, if_false, if_true, not_false_eq_true, not_true_eq_false, ne_eq])) (fun i hi => by simp only [put_apply, Nat.reduceEqDiff, reduceIte, false_and, and_false, true_and, and_true, and_self, if_false, if_true, not_false_eq_true, not_true_eq_false, ne_eq]; exact q5 i hi) (Or.inl ⟨e, b, he, by simp only [put_apply, Nat.reduceEqDiff, reduceIte, false_and, and_false, true_and, and_true, and_self, if_false, if_true, not_false_eq_true, not_true_eq_false, ne_eq], by simp only [put_apply, Nat.reduceEqDiff, reduceIte, false_and, and_false, true_and, and_true, and_self, if_false, if_true, not_false_eq_true, not_true_eq_false, ne_eq], hvd⟩)
          refine u_aloadn (k := 18) rfl rfl ?_
          refine a_geti (k := 19) rfl fRX11_105 rfl rfl ?_
          rw [put_ne (by simp), put_eq]
          refine a_if_ne (k := 20) rfl (fun c_31 => ?_) (fun c_31 => ?_)
          · refine u_aloadn (k := 121) rfl rfl ?_
            refine a_geti (k := 122) rfl fRX11_105 rfl rfl ?_
            rw [put_ne (by simp), put_eq]
            refine a_if_ne (k := 123) rfl (fun c_218 => ?_) (fun c_218 => ?_)
            · exact T1
            · omega
          · omega
        have T163 : ∀ (g2 : HH) (m2 o2 x4 : Int), RS L tx b g2 → Fr tth kth h g2 → g2 40 0 13 = (K : Int) → THm K T g2 → (∀ i, i < n → g2 46 0 (16 * K + i) = (F i : Int)) → (∀ y, y < 26 → g2 47 0 y = (nmv F n y : Int)) → isn F n (2 * x + o) = false → ¬ (num F x n = none ∧ 8 ≤ mny F n) → m2 = (mny (un F n (2 * x + o)) (n + 1) : Int) → o2 = (opn (un F n (2 * x + o)) (n + 1) : Int) → AW mX11_threads (TP L tx a0 gr h) 163 [(6, vi ((o : Int) + 1)), (5, vi x), (4, vi x4), (3, vi n), (2, vi o2), (1, vi m2), (0, vr 40 0)] [] g2 := by
          intro g2 m2 o2 x4 q1 q2 q3 q4 q5 q6 hno hn8 hm2 ho2
          subst hm2
          subst ho2
          have hgn : rgo tx (b + 1) = .inl (5, fg, ff, gr, (K, T), (n + 1, un F n (2 * x + o))) := rgo_ok hgb (by
            rw [hrs]
            unfold rpass
            dsimp only
            rw [hno, if_neg (by decide), if_neg hn8])
          obtain ⟨i1, i2, i3, i4⟩ := (rgo_PK hgn).2.2.2.2 rfl
          dsimp only at i1 i2
          have hn1 : n + 1 ≤ 16 := by have := len_mny i1; omega
          have h47 : g2 47 0 x = (v : Int) := by rw [q6 x hx, hvv]
          have hor := nmv_or (F := F) (n := n) (x := x) ho
          rw [hvv] at hor
          refine u_aloadn (k := 89) rfl rfl ?_
          refine a_getr (k := 90) rfl fRX11_33 rfl rfl rfl ?_
          refine u_iload (k := 91) rfl rfl ?_
          refine a_dup2 (k := 92) rfl rfl rfl ?_
          refine u_iald (k := 93) rfl rfl rfl (by omega) ?_
          rw [h47]
          refine u_iload (k := 94) rfl rfl ?_
          refine a_ior (k := 95) rfl ?_
          rw [show ((o : Int) + 1) = ((o + 1 : Nat) : Int) by omega, ior_nat (by omega) (by omega), ← hor]
          refine u_iast (k := 96) rfl rfl rfl (by omega) ?_
          refine u_aloadn (k := 97) rfl rfl ?_
          refine a_getr (k := 98) rfl fRX11_30 rfl rfl rfl ?_
          refine a_bipush (k := 99) rfl ?_
          refine u_aloadn (k := 100) rfl rfl ?_
          refine a_geti (k := 101) rfl fRX11_140 rfl rfl ?_
          rw [put_ne (by simp), q3]
          refine u_imul (k := 102) rfl (by omega) ?_
          refine u_iloadn (k := 103) rfl rfl ?_
          refine u_iadd (k := 104) rfl (by omega) ?_
          refine a_iconst (k := 105) rfl ?_
          refine u_iload (k := 106) rfl rfl ?_
          refine u_imul (k := 107) rfl (by omega) ?_
          refine u_iload (k := 108) rfl rfl ?_
          refine u_iadd (k := 109) rfl (by omega) ?_
          refine a_iconst (k := 110) rfl ?_
          refine u_isub (k := 111) rfl (by omega) ?_
          rw [show 2 * (x : Int) + ((o + 1 : Nat) : Int) - 1 = ((2 * x + o : Nat) : Int) by omega]
          refine u_iastx (16 * K + n) (k := 112) rfl rfl rfl (by omega) (by omega) ?_
          refine u_iinc (k := 113) (lv' := [(3, _), (6, _), (5, _), (4, _), (2, _), (1, _), (0, _)]) rfl rfl (Nat.le_of_ble_eq_true rfl) (by omega) rfl ?_
          refine u_aloadn (k := 114) rfl rfl ?_
          refine a_dup (k := 115) rfl rfl ?_
          refine a_geti (k := 116) rfl fRX11_102 rfl rfl ?_
          refine a_iconst (k := 117) rfl ?_
          rw [put_ne (by simp), put_ne (by simp), q1.2.1]
          refine u_iadd (k := 118) rfl (by omega) ?_
          refine a_puti (k := 119) rfl pRX11_102 rfl rfl ?_
          refine a_goto (k := 120) rfl ?_
          refine a_sub [0, 4, 5, 6] rfl ?_
          refine ih (b + 1) (n + 1) (un F n (2 * x + o)) _ (by omega) (by omega) (by omega) (((q2.p1 (by simp [tth])).p1 (by simp [tth])).p2 (by simp [kth])) ⟨q1.1.keep (by simp only [put_apply, Nat.reduceEqDiff, reduceIte, false_and, and_false, true_and, and_true, and_self, if_false, if_true, not_false_eq_true, not_true_eq_false, ne_eq]) (fun i => by simp only [put_apply, Nat.reduceEqDiff, reduceIte, false_and, and_false, true_and, and_true, and_self, if_false, if_true, not_false_eq_true, not_true_eq_false, ne_eq]), by rw [put_eq]; omega, by simp only [put_apply, Nat.reduceEqDiff, reduceIte, false_and, and_false, true_and, and_true, and_self, if_false, if_true, not_false_eq_true, not_true_eq_false, ne_eq]; exact q1.2.2.1, by simp only [put_apply, Nat.reduceEqDiff, reduceIte, false_and, and_false, true_and, and_true, and_self, if_false, if_true, not_false_eq_true, not_true_eq_false, ne_eq]; exact q1.2.2.2⟩ (by simp only [put_apply, Nat.reduceEqDiff, reduceIte, false_and, and_false, true_and, and_true, and_self, if_false, if_true, not_false_eq_true, not_true_eq_false, ne_eq]; exact q3) (THk q4 (fun k _ => by simp only [put_apply, Nat.reduceEqDiff, reduceIte, false_and, and_false, true_and, and_true, and_self, if_false, if_true, not_false_eq_true, not_true_eq_false, ne_eq]) (fun k hk => by rw [put_ne (by simp), put_ne (by simp; omega), put_ne (by simp)])) (fun i hi => ?_) (fun y hy => ?_) hgn
          · by_cases he : i = n
            · subst he; rw [put_ne (by simp), put_eq, un_eq]
            · rw [put_ne (by simp), put_ne (by simp; omega), put_ne (by simp), un_ne F _ he]; exact q5 i (by omega)
          · by_cases he : y = x
            · subst he; rw [put_ne (by simp), put_ne (by simp), put_eq]
            · rw [put_ne (by simp), put_ne (by simp), put_ne (by simp [he]), nmv_same ho he]; exact q6 y hy
        have T74 : ∀ (g2 : HH) (w x4 : Int), RS L tx b g2 → Fr tth kth h g2 → g2 40 0 13 = (K : Int) → THm K T g2 → (∀ i, i < n → g2 46 0 (16 * K + i) = (F i : Int)) → (∀ y, y < 26 → g2 47 0 y = (nmv F n y : Int)) → w = (o : Int) + 1 → AW mX11_threads (TP L tx a0 gr h) 74 [(6, vi w), (5, vi x), (4, vi x4), (3, vi n), (2, vi (opn F n : Int)), (1, vi (mny F n : Int)), (0, vr 40 0)] [] g2 := by
          intro g2 w x4 q1 q2 q3 q4 q5 q6 hw
          subst hw
          have h47 : g2 47 0 x = (v : Int) := by rw [q6 x hx, hvv]
          have hia : iand (v : Int) ((o : Int) + 1) = ((v &&& (o + 1) : Nat) : Int) := by
            rw [show ((o : Int) + 1) = ((o + 1 : Nat) : Int) by omega]
            exact iand_nat (by omega)
          by_cases hno : isn F n (2 * x + o) = false
          · have hop := opn_un (F := F) (n := n) hx ho hno
            rw [hvv] at hop
            have e0 : ((v &&& (o + 1) : Nat) : Int) = 0 := by rw [hand.mpr hno]; rfl
            by_cases hn8 : num F x n = none ∧ 8 ≤ mny F n
            · have hvd : vd tx L = some (3, b) := vd_rs hgb hlt (by rw [hrs]; unfold rpass; dsimp only; rw [hno, if_neg (by decide), if_pos hn8]) (by decide)
              have hv0 := h0v.mpr hn8.1
              refine u_aloadn (k := 40) rfl rfl ?_
              refine a_getr (k := 41) rfl fRX11_33 rfl rfl rfl ?_
              refine u_iload (k := 42) rfl rfl ?_
              refine u_iald (k := 43) rfl rfl rfl (by omega) ?_
              rw [h47]
              refine a_if_ne (k := 44) rfl (fun c_81 => ?_) (fun c_81 => ?_)
              · omega
              · refine u_iloadn (k := 45) rfl rfl ?_
                refine a_bipush (k := 46) rfl ?_
                refine a_icmp_ne (k := 47) rfl (fun c_87 => ?_) (fun c_87 => ?_)
                · omega
                · refine u_aloadn (k := 48) rfl rfl ?_
                  refine a_iconst (k := 49) rfl ?_
                  refine u_aloadn (k := 50) rfl rfl ?_
                  refine a_geti (k := 51) rfl fRX11_102 rfl rfl ?_
                  rw [q1.2.1]
                  refine v_virt2 (M' := mX11_blames) (k := 52) rfl lRX11_115 oX11_blames vX11_blames ⟨Nat.le_of_ble_eq_true rfl, Nat.le_of_ble_eq_true rfl⟩ rfl rfl (Nat.le_of_ble_eq_true rfl) (m_blames 3 b g2 q1.2.2.1 q1.2.2.2) ?_
                  refine a_goto (k := 53) rfl ?_
                  refine a_goto (k := 120) rfl ?_
                  refine a_sub [3, 4, 5, 6] rfl ?_
                  exact T27f g2 3 _ (by omega) q1 q2 q3 q4 q5 hvd
            · have hq : (v = 0 → mny (un F n (2 * x + o)) (n + 1) = mny F n + 1) ∧ (v ≠ 0 → mny (un F n (2 * x + o)) (n + 1) = mny F n) := by
                refine ⟨fun z => mny_un_new (by rw [show (2 * x + o) / 2 = x by omega]; exact h0v.mp z), fun z => ?_⟩
                cases hh : num F ((2 * x + o) / 2) n with
                | none => rw [show (2 * x + o) / 2 = x by omega] at hh; exact absurd (h0v.mpr hh) z
                | some w => exact mny_un_old hh
              have hm8 : v = 0 → mny F n ≠ 8 := fun z e8 => hn8 ⟨h0v.mp z, by omega⟩
              refine u_aloadn (k := 40) rfl rfl ?_
              refine a_getr (k := 41) rfl fRX11_33 rfl rfl rfl ?_
              refine u_iload (k := 42) rfl rfl ?_
              refine u_iald (k := 43) rfl rfl rfl (by omega) ?_
              rw [h47]
              refine a_if_ne (k := 44) rfl (fun c_81 => ?_) (fun c_81 => ?_)
              · refine u_aloadn (k := 54) rfl rfl ?_
                refine a_getr (k := 55) rfl fRX11_33 rfl rfl rfl ?_
                refine u_iload (k := 56) rfl rfl ?_
                refine u_iald (k := 57) rfl rfl rfl (by omega) ?_
                refine u_iload (k := 58) rfl rfl ?_
                rw [h47]
                refine a_iand (k := 59) rfl ?_
                rw [hia, e0]
                refine a_if_eq (k := 60) rfl (fun c_112 => ?_) (fun c_112 => ?_)
                · refine u_iloadn (k := 67) rfl rfl ?_
                  refine u_aloadn (k := 68) rfl rfl ?_
                  refine a_getr (k := 69) rfl fRX11_33 rfl rfl rfl ?_
                  refine u_iload (k := 70) rfl rfl ?_
                  refine u_iald (k := 71) rfl rfl rfl (by omega) ?_
                  rw [h47]
                  refine a_if_ne (k := 72) rfl (fun c_135 => ?_) (fun c_135 => ?_)
                  · refine a_iconst (k := 75) rfl ?_
                    refine u_iadd (k := 76) rfl (by omega) ?_
                    refine a_istoren (k := 77) (lv' := [(1, _), (6, _), (5, _), (4, _), (3, _), (2, _), (0, _)]) rfl (Nat.le_of_ble_eq_true rfl) rfl ?_
                    refine u_iloadn (k := 78) rfl rfl ?_
                    refine u_aloadn (k := 79) rfl rfl ?_
                    refine a_getr (k := 80) rfl fRX11_33 rfl rfl rfl ?_
                    refine u_iload (k := 81) rfl rfl ?_
                    refine u_iald (k := 82) rfl rfl rfl (by omega) ?_
                    rw [h47]
                    refine a_if_ne (k := 83) rfl (fun c_153 => ?_) (fun c_153 => ?_)
                    · refine a_iconst (k := 86) rfl ?_
                      refine u_iadd (k := 87) rfl (by omega) ?_
                      refine a_istoren (k := 88) (lv' := [(2, _), (1, _), (6, _), (5, _), (4, _), (3, _), (0, _)]) rfl (Nat.le_of_ble_eq_true rfl) rfl ?_
                      refine a_sub [2, 3, 4, 5, 0, 1, 6] rfl ?_
                      first
                        | exact T163 g2 _ _ _ q1 q2 q3 q4 q5 q6 hno hn8 (by have := hq.1 (by omega); omega) (by have := hop.1 (by omega); omega)
                        | exact T163 g2 _ _ _ q1 q2 q3 q4 q5 q6 hno hn8 (by have := hq.2 (by omega); omega) (by have := hop.2 (by omega); omega)
                        | (exfalso; omega)
                    · refine a_iconst (k := 84) rfl ?_
                      refine a_goto (k := 85) rfl ?_
                      refine u_iadd (k := 87) rfl (by omega) ?_
                      refine a_istoren (k := 88) (lv' := [(2, _), (1, _), (6, _), (5, _), (4, _), (3, _), (0, _)]) rfl (Nat.le_of_ble_eq_true rfl) rfl ?_
                      refine a_sub [2, 3, 4, 5, 0, 1, 6] rfl ?_
                      first
                        | exact T163 g2 _ _ _ q1 q2 q3 q4 q5 q6 hno hn8 (by have := hq.1 (by omega); omega) (by have := hop.1 (by omega); omega)
                        | exact T163 g2 _ _ _ q1 q2 q3 q4 q5 q6 hno hn8 (by have := hq.2 (by omega); omega) (by have := hop.2 (by omega); omega)
                        | (exfalso; omega)
                  · refine a_iconst (k := 73) rfl ?_
                    refine a_goto (k := 74) rfl ?_
                    refine u_iadd (k := 76) rfl (by omega) ?_
                    refine a_istoren (k := 77) (lv' := [(1, _), (6, _), (5, _), (4, _), (3, _), (2, _), (0, _)]) rfl (Nat.le_of_ble_eq_true rfl) rfl ?_
                    refine u_iloadn (k := 78) rfl rfl ?_
                    refine u_aloadn (k := 79) rfl rfl ?_
                    refine a_getr (k := 80) rfl fRX11_33 rfl rfl rfl ?_
                    refine u_iload (k := 81) rfl rfl ?_
                    refine u_iald (k := 82) rfl rfl rfl (by omega) ?_
                    rw [h47]
                    refine a_if_ne (k := 83) rfl (fun c_153 => ?_) (fun c_153 => ?_)
                    · refine a_iconst (k := 86) rfl ?_
                      refine u_iadd (k := 87) rfl (by omega) ?_
                      refine a_istoren (k := 88) (lv' := [(2, _), (1, _), (6, _), (5, _), (4, _), (3, _), (0, _)]) rfl (Nat.le_of_ble_eq_true rfl) rfl ?_
                      refine a_sub [2, 3, 4, 5, 0, 1, 6] rfl ?_
                      first
                        | exact T163 g2 _ _ _ q1 q2 q3 q4 q5 q6 hno hn8 (by have := hq.1 (by omega); omega) (by have := hop.1 (by omega); omega)
                        | exact T163 g2 _ _ _ q1 q2 q3 q4 q5 q6 hno hn8 (by have := hq.2 (by omega); omega) (by have := hop.2 (by omega); omega)
                        | (exfalso; omega)
                    · refine a_iconst (k := 84) rfl ?_
                      refine a_goto (k := 85) rfl ?_
                      refine u_iadd (k := 87) rfl (by omega) ?_
                      refine a_istoren (k := 88) (lv' := [(2, _), (1, _), (6, _), (5, _), (4, _), (3, _), (0, _)]) rfl (Nat.le_of_ble_eq_true rfl) rfl ?_
                      refine a_sub [2, 3, 4, 5, 0, 1, 6] rfl ?_
                      first
                        | exact T163 g2 _ _ _ q1 q2 q3 q4 q5 q6 hno hn8 (by have := hq.1 (by omega); omega) (by have := hop.1 (by omega); omega)
                        | exact T163 g2 _ _ _ q1 q2 q3 q4 q5 q6 hno hn8 (by have := hq.2 (by omega); omega) (by have := hop.2 (by omega); omega)
                        | (exfalso; omega)
                · exact absurd rfl c_112
              · refine u_iloadn (k := 45) rfl rfl ?_
                refine a_bipush (k := 46) rfl ?_
                refine a_icmp_ne (k := 47) rfl (fun c_87 => ?_) (fun c_87 => ?_)
                · refine u_aloadn (k := 54) rfl rfl ?_
                  refine a_getr (k := 55) rfl fRX11_33 rfl rfl rfl ?_
                  refine u_iload (k := 56) rfl rfl ?_
                  refine u_iald (k := 57) rfl rfl rfl (by omega) ?_
                  refine u_iload (k := 58) rfl rfl ?_
                  rw [h47]
                  refine a_iand (k := 59) rfl ?_
                  rw [hia, e0]
                  refine a_if_eq (k := 60) rfl (fun c_112 => ?_) (fun c_112 => ?_)
                  · refine u_iloadn (k := 67) rfl rfl ?_
                    refine u_aloadn (k := 68) rfl rfl ?_
                    refine a_getr (k := 69) rfl fRX11_33 rfl rfl rfl ?_
                    refine u_iload (k := 70) rfl rfl ?_
                    refine u_iald (k := 71) rfl rfl rfl (by omega) ?_
                    rw [h47]
                    refine a_if_ne (k := 72) rfl (fun c_135 => ?_) (fun c_135 => ?_)
                    · refine a_iconst (k := 75) rfl ?_
                      refine u_iadd (k := 76) rfl (by omega) ?_
                      refine a_istoren (k := 77) (lv' := [(1, _), (6, _), (5, _), (4, _), (3, _), (2, _), (0, _)]) rfl (Nat.le_of_ble_eq_true rfl) rfl ?_
                      refine u_iloadn (k := 78) rfl rfl ?_
                      refine u_aloadn (k := 79) rfl rfl ?_
                      refine a_getr (k := 80) rfl fRX11_33 rfl rfl rfl ?_
                      refine u_iload (k := 81) rfl rfl ?_
                      refine u_iald (k := 82) rfl rfl rfl (by omega) ?_
                      rw [h47]
                      refine a_if_ne (k := 83) rfl (fun c_153 => ?_) (fun c_153 => ?_)
                      · refine a_iconst (k := 86) rfl ?_
                        refine u_iadd (k := 87) rfl (by omega) ?_
                        refine a_istoren (k := 88) (lv' := [(2, _), (1, _), (6, _), (5, _), (4, _), (3, _), (0, _)]) rfl (Nat.le_of_ble_eq_true rfl) rfl ?_
                        refine a_sub [2, 3, 4, 5, 0, 1, 6] rfl ?_
                        first
                          | exact T163 g2 _ _ _ q1 q2 q3 q4 q5 q6 hno hn8 (by have := hq.1 (by omega); omega) (by have := hop.1 (by omega); omega)
                          | exact T163 g2 _ _ _ q1 q2 q3 q4 q5 q6 hno hn8 (by have := hq.2 (by omega); omega) (by have := hop.2 (by omega); omega)
                          | (exfalso; omega)
                      · refine a_iconst (k := 84) rfl ?_
                        refine a_goto (k := 85) rfl ?_
                        refine u_iadd (k := 87) rfl (by omega) ?_
                        refine a_istoren (k := 88) (lv' := [(2, _), (1, _), (6, _), (5, _), (4, _), (3, _), (0, _)]) rfl (Nat.le_of_ble_eq_true rfl) rfl ?_
                        refine a_sub [2, 3, 4, 5, 0, 1, 6] rfl ?_
                        first
                          | exact T163 g2 _ _ _ q1 q2 q3 q4 q5 q6 hno hn8 (by have := hq.1 (by omega); omega) (by have := hop.1 (by omega); omega)
                          | exact T163 g2 _ _ _ q1 q2 q3 q4 q5 q6 hno hn8 (by have := hq.2 (by omega); omega) (by have := hop.2 (by omega); omega)
                          | (exfalso; omega)
                    · refine a_iconst (k := 73) rfl ?_
                      refine a_goto (k := 74) rfl ?_
                      refine u_iadd (k := 76) rfl (by omega) ?_
                      refine a_istoren (k := 77) (lv' := [(1, _), (6, _), (5, _), (4, _), (3, _), (2, _), (0, _)]) rfl (Nat.le_of_ble_eq_true rfl) rfl ?_
                      refine u_iloadn (k := 78) rfl rfl ?_
                      refine u_aloadn (k := 79) rfl rfl ?_
                      refine a_getr (k := 80) rfl fRX11_33 rfl rfl rfl ?_
                      refine u_iload (k := 81) rfl rfl ?_
                      refine u_iald (k := 82) rfl rfl rfl (by omega) ?_
                      rw [h47]
                      refine a_if_ne (k := 83) rfl (fun c_153 => ?_) (fun c_153 => ?_)
                      · refine a_iconst (k := 86) rfl ?_
                        refine u_iadd (k := 87) rfl (by omega) ?_
                        refine a_istoren (k := 88) (lv' := [(2, _), (1, _), (6, _), (5, _), (4, _), (3, _), (0, _)]) rfl (Nat.le_of_ble_eq_true rfl) rfl ?_
                        refine a_sub [2, 3, 4, 5, 0, 1, 6] rfl ?_
                        first
                          | exact T163 g2 _ _ _ q1 q2 q3 q4 q5 q6 hno hn8 (by have := hq.1 (by omega); omega) (by have := hop.1 (by omega); omega)
                          | exact T163 g2 _ _ _ q1 q2 q3 q4 q5 q6 hno hn8 (by have := hq.2 (by omega); omega) (by have := hop.2 (by omega); omega)
                          | (exfalso; omega)
                      · refine a_iconst (k := 84) rfl ?_
                        refine a_goto (k := 85) rfl ?_
                        refine u_iadd (k := 87) rfl (by omega) ?_
                        refine a_istoren (k := 88) (lv' := [(2, _), (1, _), (6, _), (5, _), (4, _), (3, _), (0, _)]) rfl (Nat.le_of_ble_eq_true rfl) rfl ?_
                        refine a_sub [2, 3, 4, 5, 0, 1, 6] rfl ?_
                        first
                          | exact T163 g2 _ _ _ q1 q2 q3 q4 q5 q6 hno hn8 (by have := hq.1 (by omega); omega) (by have := hop.1 (by omega); omega)
                          | exact T163 g2 _ _ _ q1 q2 q3 q4 q5 q6 hno hn8 (by have := hq.2 (by omega); omega) (by have := hop.2 (by omega); omega)
                          | (exfalso; omega)
                  · exact absurd rfl c_112
                · exact absurd (by omega) (hm8 (by omega))
          · have hyes : isn F n (2 * x + o) = true := by revert hno; cases isn F n (2 * x + o) <;> simp
            have hvd : vd tx L = some (4, b) := vd_rs hgb hlt (by rw [hrs]; unfold rpass; dsimp only; rw [hyes, if_pos rfl]) (by decide)
            have hv0 : v ≠ 0 := fun z => hno (hand.mp (by rw [z, Nat.zero_and]))
            have hv1 : ¬ ((v &&& (o + 1) : Nat) : Int) = 0 := fun z => hno (hand.mp (by omega))
            refine u_aloadn (k := 40) rfl rfl ?_
            refine a_getr (k := 41) rfl fRX11_33 rfl rfl rfl ?_
            refine u_iload (k := 42) rfl rfl ?_
            refine u_iald (k := 43) rfl rfl rfl (by omega) ?_
            rw [h47]
            refine a_if_ne (k := 44) rfl (fun c_81 => ?_) (fun c_81 => ?_)
            · refine u_aloadn (k := 54) rfl rfl ?_
              refine a_getr (k := 55) rfl fRX11_33 rfl rfl rfl ?_
              refine u_iload (k := 56) rfl rfl ?_
              refine u_iald (k := 57) rfl rfl rfl (by omega) ?_
              refine u_iload (k := 58) rfl rfl ?_
              rw [h47]
              refine a_iand (k := 59) rfl ?_
              rw [hia]
              refine a_if_eq (k := 60) rfl (fun c_112 => ?_) (fun c_112 => ?_)
              · exact absurd c_112 hv1
              · refine u_aloadn (k := 61) rfl rfl ?_
                refine a_iconst (k := 62) rfl ?_
                refine u_aloadn (k := 63) rfl rfl ?_
                refine a_geti (k := 64) rfl fRX11_102 rfl rfl ?_
                rw [q1.2.1]
                refine v_virt2 (M' := mX11_blames) (k := 65) rfl lRX11_115 oX11_blames vX11_blames ⟨Nat.le_of_ble_eq_true rfl, Nat.le_of_ble_eq_true rfl⟩ rfl rfl (Nat.le_of_ble_eq_true rfl) (m_blames 4 b g2 q1.2.2.1 q1.2.2.2) ?_
                refine a_goto (k := 66) rfl ?_
                refine a_goto (k := 120) rfl ?_
                refine a_sub [3, 4, 5, 6] rfl ?_
                exact T27f g2 4 _ (by omega) q1 q2 q3 q4 q5 hvd
            · omega
        refine u_aloadn (k := 18) rfl rfl ?_
        refine a_geti (k := 19) rfl fRX11_105 rfl rfl ?_
        rw [hg9]
        refine a_if_ne (k := 20) rfl (fun c_31 => ?_) (fun c_31 => ?_)
        · exact absurd rfl c_31
        · refine u_aloadn (k := 21) rfl rfl ?_
          refine ui_virt0 (M' := mX11_next) (k := 22) rfl lRX11_111 oX11_next vX11_next ⟨Nat.le_of_ble_eq_true rfl, Nat.le_of_ble_eq_true rfl⟩ rfl rfl (Nat.le_of_ble_eq_true rfl) (m_next L a tx g hTX hL h256 hg8 haL2) (by intro r g hp; exact ⟨_, hp.1⟩) (fun z g2 hg2 => ?_)
          obtain ⟨hz, h82, hF2⟩ := hg2; cases hz; rw [hb] at h82; obtain ⟨q1, q2, q3, q4, q5, q6⟩ := keep g2 hF2 h82
          refine i_stat1 (M' := mX11_nameOf) (k := 23) rfl lRX11_137 oX11_nameOf vX11_nameOf ⟨Nat.le_of_ble_eq_true rfl, Nat.le_of_ble_eq_true rfl⟩ rfl (Nat.le_of_ble_eq_true rfl) (m_nameOf (nx tx L a) g2 hnxr.1 hnxr.2) ?_
          refine a_if_lt (k := 24) rfl (fun c_41 => ?_) (fun c_41 => ?_)
          · exact absurd c_41 hneg
          · refine u_aloadn (k := 25) rfl rfl ?_
            refine ui_virt0 (M' := mX11_next) (k := 26) rfl lRX11_111 oX11_next vX11_next ⟨Nat.le_of_ble_eq_true rfl, Nat.le_of_ble_eq_true rfl⟩ rfl rfl (Nat.le_of_ble_eq_true rfl) (m_next L b tx g2 q1.1 hL h256 q1.2.1 s2) (by intro r g hp; exact ⟨_, hp.1⟩) (fun z g3 hg3 => ?_)
            obtain ⟨hz, h83, hF3⟩ := hg3; cases hz; rw [hss] at h83; obtain ⟨r1, r2, r3, r4, r5, r6⟩ := keep g3 (hF2.tr hF3 (by simp) (by simp)) h83
            rw [hnxb]
            refine i_stat1 (M' := mX11_nameOf) (k := 27) rfl lRX11_137 oX11_nameOf vX11_nameOf ⟨Nat.le_of_ble_eq_true rfl, Nat.le_of_ble_eq_true rfl⟩ rfl (Nat.le_of_ble_eq_true rfl) (m_nameOf (nx tx L a) g3 hnxr.1 hnxr.2) ?_
            rw [hnm2]
            refine a_istore (k := 28) (lv' := [(4, _), (3, _), (2, _), (1, _), (0, _)]) rfl (Nat.le_of_ble_eq_true rfl) rfl ?_
            refine u_iload (k := 29) rfl rfl ?_
            refine a_bipush (k := 30) rfl ?_
            refine u_irem (k := 31) rfl (by omega) (by omega) ?_
            rw [show ((x + 32 * o : Nat) : Int) % 32 = (x : Int) by omega]
            refine a_istore (k := 32) (lv' := [(5, _), (4, _), (3, _), (2, _), (1, _), (0, _)]) rfl (Nat.le_of_ble_eq_true rfl) rfl ?_
            refine u_iload (k := 33) rfl rfl ?_
            refine a_bipush (k := 34) rfl ?_
            refine a_icmp_ge (k := 35) rfl (fun c_64 => ?_) (fun c_64 => ?_)
            · refine a_iconst (k := 38) rfl ?_
              refine a_istore (k := 39) (lv' := [(6, _), (5, _), (4, _), (3, _), (2, _), (1, _), (0, _)]) rfl (Nat.le_of_ble_eq_true rfl) rfl ?_
              exact T74 g3 _ _ r1 r2 r3 r4 r5 r6 (by omega)
            · refine a_iconst (k := 36) rfl ?_
              refine a_goto (k := 37) rfl ?_
              refine a_istore (k := 39) (lv' := [(6, _), (5, _), (4, _), (3, _), (2, _), (1, _), (0, _)]) rfl (Nat.le_of_ble_eq_true rfl) rfl ?_
              exact T74 g3 _ _ r1 r2 r3 r4 r5 r6 (by omega)
  have Lz : ∀ (d q : Nat) (g : HH), q + d = 26 → Fr tth kth h g → RS L tx a0 g → g 40 0 13 = (K : Int) → THm K T g → (∀ x, x < q → g 47 0 x = 0) → AW mX11_threads (TP L tx a0 gr h) 2 [(1, vi q), (0, vr 40 0)] [] g := by
    intro d
    induction d with
    | zero =>
      intro q g hq hF hRS hg13 hTHg hz
      refine u_iloadn (k := 2) rfl rfl ?_
      refine a_bipush (k := 3) rfl ?_
      refine a_icmp_ge (k := 4) rfl (fun c_5 => ?_) (fun c_5 => ?_)
      · refine a_iconst (k := 12) rfl ?_
        refine a_istoren (k := 13) (lv' := [(1, _), (0, _)]) rfl (Nat.le_of_ble_eq_true rfl) rfl ?_
        refine a_iconst (k := 14) rfl ?_
        refine a_istoren (k := 15) (lv' := [(2, _), (1, _), (0, _)]) rfl (Nat.le_of_ble_eq_true rfl) rfl ?_
        refine a_iconst (k := 16) rfl ?_
        refine a_istoren (k := 17) (lv' := [(3, _), (2, _), (1, _), (0, _)]) rfl (Nat.le_of_ble_eq_true rfl) rfl ?_
        refine Lp (L - a0) a0 0 F0 g (Nat.le_refl _) haL (Nat.le_refl _) hF hRS hg13 hTHg (fun i hi => absurd hi (Nat.not_lt_zero i)) (fun x hx => ?_) hg0
        rw [hz x (by omega)]
        rfl
      · omega
    | succ d ih =>
      intro q g hq hF hRS hg13 hTHg hz
      refine u_iloadn (k := 2) rfl rfl ?_
      refine a_bipush (k := 3) rfl ?_
      refine a_icmp_ge (k := 4) rfl (fun c_5 => ?_) (fun c_5 => ?_)
      · omega
      · refine u_aloadn (k := 5) rfl rfl ?_
        refine a_getr (k := 6) rfl fRX11_33 rfl rfl rfl ?_
        refine u_iloadn (k := 7) rfl rfl ?_
        refine a_iconst (k := 8) rfl ?_
        refine u_iast (k := 9) rfl rfl rfl (by omega) ?_
        refine u_iinc (k := 10) (lv' := [(1, _), (0, _)]) rfl rfl (Nat.le_of_ble_eq_true rfl) (by omega) rfl ?_
        refine a_goto (k := 11) rfl ?_
        refine ih (q + 1) _ (by omega) (hF.p1 (by simp [tth])) ⟨hRS.1.keep (by simp only [put_apply, Nat.reduceEqDiff, reduceIte, false_and, and_false, true_and, and_true, and_self, if_false, if_true, not_false_eq_true, not_true_eq_false, ne_eq]) (fun i => by simp only [put_apply, Nat.reduceEqDiff, reduceIte, false_and, and_false, true_and, and_true, and_self, if_false, if_true, not_false_eq_true, not_true_eq_false, ne_eq]), by simp only [put_apply, Nat.reduceEqDiff, reduceIte, false_and, and_false, true_and, and_true, and_self, if_false, if_true, not_false_eq_true, not_true_eq_false, ne_eq]; exact hRS.2.1, by simp only [put_apply, Nat.reduceEqDiff, reduceIte, false_and, and_false, true_and, and_true, and_self, if_false, if_true, not_false_eq_true, not_true_eq_false, ne_eq]; exact hRS.2.2.1, by simp only [put_apply, Nat.reduceEqDiff, reduceIte, false_and, and_false, true_and, and_true, and_self, if_false, if_true, not_false_eq_true, not_true_eq_false, ne_eq]; exact hRS.2.2.2⟩ (by simp only [put_apply, Nat.reduceEqDiff, reduceIte, false_and, and_false, true_and, and_true, and_self, if_false, if_true, not_false_eq_true, not_true_eq_false, ne_eq]; exact hg13) (THk hTHg (fun k _ => by simp only [put_apply, Nat.reduceEqDiff, reduceIte, false_and, and_false, true_and, and_true, and_self, if_false, if_true, not_false_eq_true, not_true_eq_false, ne_eq]) (fun k _ => by simp only [put_apply, Nat.reduceEqDiff, reduceIte, false_and, and_false, true_and, and_true, and_self, if_false, if_true, not_false_eq_true, not_true_eq_false, ne_eq])) (fun i hi => ?_)
        by_cases he : i = q
        · subst he; rw [put_eq]
        · rw [put_ne (by simp [he])]; exact hz i (by omega)
  refine a_iconst (k := 0) rfl ?_
  refine a_istoren (k := 1) (lv' := [(1, _), (0, _)]) rfl (Nat.le_of_ble_eq_true rfl) rfl ?_
  exact Lz 26 0 h (by omega) Fr.rf hS h13 hTH (fun i hi => absurd hi (Nat.not_lt_zero i))
