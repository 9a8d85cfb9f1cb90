/-! rollings, by the class and by the reference -/
theorem succ_mod {x n : Nat} (hn : 0 < n) : (x + 1) % n = if x % n + 1 = n then 0 else x % n + 1 := by
  have h1 := Nat.div_add_mod x n
  have h2 := Nat.mod_lt x hn
  split
  · rename_i h
    have : x + 1 = n * (x / n + 1) := by rw [Nat.mul_add]; omega
    rw [this, Nat.mul_mod_right]
  · rename_i h
    have : x + 1 = n * (x / n) + (x % n + 1) := by omega
    rw [this, Nat.mul_add_mod, Nat.mod_eq_of_lt (by omega)]
theorem ps_rot {n q : Nat} (hq : q < n) : ∀ i, ps n false q i = (q + i) % n
  | 0 => by
    show q = (q + 0) % n
    rw [Nat.add_zero, Nat.mod_eq_of_lt hq]
  | i + 1 => by
    rw [ps_s, if_neg (by decide), ps_rot hq i, ← Nat.add_assoc, succ_mod (by omega)]
theorem ps_back {n q : Nat} (hq : q < n) : ∀ i, ps n true q i = n - 1 - (n - 1 - q + i) % n
  | 0 => by
    show q = _
    rw [Nat.add_zero, Nat.mod_eq_of_lt (by omega)]
    omega
  | i + 1 => by
    have := Nat.mod_lt (n - 1 - q + i) (show 0 < n by omega)
    rw [ps_s, if_pos rfl, ps_back hq i, ← Nat.add_assoc, succ_mod (by omega)]
    split <;> split <;> omega
theorem gq_rot {f : Nat → Nat} {n q : Nat} (hq : q < n) : gq f n false q = rot f n q := funext fun i => by
  unfold gq rot
  rw [ps_rot hq]
theorem gq_back {f : Nat → Nat} {n q : Nat} (hq : q < n) : gq f n true q = rot (rvf f n) n (n - 1 - q) := funext fun i => by
  unfold gq rot rvf
  rw [ps_back hq]
theorem ga_rot {f : Nat → Nat} {n q i : Nat} (hq : q < n) : ga f n false q 0 i = rn (rot f n q) i := by
  unfold ga rn
  rw [gq_rot hq, Nat.xor_zero]
/-- the least word -/
theorem cmp_v (A B : Nat → Int) : ∀ m q, cmpL A B m q = 0 ∨ cmpL A B m q = -1 ∨ cmpL A B m q = 1
  | 0, q => Or.inl rfl
  | m + 1, q => by
    unfold cmpL
    split
    · exact cmp_v A B m (q + 1)
    · split <;> simp
theorem cmp_cong {A B A' B' : Nat → Int} : ∀ {m q : Nat}, (∀ i, q ≤ i → i < q + m → A i = A' i ∧ B i = B' i) → cmpL A B m q = cmpL A' B' m q
  | 0, q, _ => rfl
  | m + 1, q, h => by
    unfold cmpL
    rw [(h q (Nat.le_refl _) (by omega)).1, (h q (Nat.le_refl _) (by omega)).2, cmp_cong (m := m) (q := q + 1) (fun i h1 h2 => h i (by omega) (by omega))]
def twd : List (Nat × Nat) := [(50, 0), (51, 0), (52, 0)]
def kwd : List (Nat × Nat × Nat) := [(40, 0, 20), (40, 0, 24)]
theorem n_words {B : Nat} {σ : AS} {h : HH} (hW : WA B σ) (hM : MR σ h) (k d : Int) : Sp mX11_words [vr 40 0, vi k, vi d] h (MP (o_words σ k d) h) := by
  rcases kcase k σ.now.1 with hk | ⟨q, rfl, hk⟩
  · rw [show o_words σ k d = _ from on_no hk]
    refine Sp.of rfl kX11_words (Nat.le_of_ble_eq_true rfl) ?_
    refine u_aloadn (k := 0) rfl rfl ?_
    refine u_iloadn (k := 1) rfl rfl ?_
    refine i_virt1 (M' := mX11_isOne) (k := 2) rfl lRX11_206 oX11_isOne vX11_isOne ⟨Nat.le_of_ble_eq_true rfl, Nat.le_of_ble_eq_true rfl⟩ rfl rfl (Nat.le_of_ble_eq_true rfl) (hM.one hW k) ?_
    rw [one_no hk]
    refine a_if_ne (k := 3) rfl (fun c_5 => ?_) (fun c_5 => ?_)
    · exact absurd rfl c_5
    · refine a_ldc (k := 4) rfl nRX11_210 ⟨by decide, by decide⟩ ?_
      refine a_ireturn (k := 5) rfl rfl ?_
      exact ⟨rfl, hM, FMo.rf⟩
  · have h5 := hW.now.1
    have hWr := hW.now.2.2 q hk
    have h8 := hWr.1
    have hs2 := hWr.2.1
    have hp8 := (p8 h8).2
    rw [show o_words σ (q : Int) d = _ from on_yes hk]
    by_cases hd : 0 ≤ d ∧ d < 2 * ((σ.now.2.2 q).1 : Int)
    · obtain ⟨e, rfl⟩ : ∃ e : Nat, d = (e : Int) := ⟨d.toNat, by omega⟩
      rw [if_pos hd, Int.toNat_natCast]
      have hsl := hM.slot hk
      have hV := hWr.2.2.1
      generalize hn2 : 2 * (σ.now.2.2 q).1 = n at *
      generalize hf : (σ.now.2.2 q).2.2 = f at *
      generalize hs : (σ.now.2.2 q).2.1 = s at *
      have f52 : ∀ i, i < n → f i < 52 := fun i hi => hV.b h8 i (by omega)
      refine Sp.of rfl kX11_words (Nat.le_of_ble_eq_true rfl) ?_
      have Lo : ∀ (m a : Nat) (g : HH), a + m = n → RW n f s g → Fr twd kwd h g → (a = 0 ∨ ∀ i, i < n → g 51 0 i = (lwd f n a i : Int)) → AW mX11_words (MP ((lwd f n n e : Int), σ) h) 36 [(3, vi a), (0, vr 40 0), (1, vi q), (2, vi e)] [] g := by
        intro m
        induction m with
        | zero =>
          intro a g ha hR hF h51
          have ha : a = n := by omega
          subst ha
          have h51 : ∀ i, i < a → g 51 0 i = (lwd f a a i : Int) := h51.resolve_left (by omega)
          refine u_iloadn (k := 23) rfl rfl ?_
          refine u_aloadn (k := 24) rfl rfl ?_
          refine a_geti (k := 25) rfl fRX11_156 rfl rfl ?_
          rw [hR.1]
          refine a_icmp_ge (k := 26) rfl (fun c_41 => ?_) (fun c_41 => ?_)
          · refine u_aloadn (k := 94) rfl rfl ?_
            refine a_getr (k := 95) rfl fRX11_45 rfl rfl rfl ?_
            refine u_iloadn (k := 96) rfl rfl ?_
            refine u_iald (k := 97) rfl rfl rfl (by omega) ?_
            refine a_ireturn (k := 98) rfl rfl ?_
            exact ⟨by rw [h51 e (by omega)], hM.scr hW (Fs_of hF (by simp [tms, twd]) (by simp [kms, kwd])), Fr.mo hF (by simp [twd]) (by simp [kwd])⟩
          · omega
        | succ m ih =>
          intro a g ha hR hF h51
          have e1 : lwd f n (a + 1) = if a = 0 ∨ cmpL (fun i => (ga f n false a 0 i : Int)) (fun i => (lwd f n a i : Int)) n 0 < 0 then ga f n false a 0 else lwd f n a := rfl
          have cp : ∀ (g2 : HH), RW n f s g2 → Fr twd kwd h g2 → (∀ i, i < n → g2 52 0 i = (rn (rot f n a) i : Int)) → (a = 0 ∨ cmpL (fun i => (ga f n false a 0 i : Int)) (fun i => (lwd f n a i : Int)) n 0 < 0) → ∀ (m2 r : Nat) (g3 : HH) (x4 : Int), r + m2 = n → RW n f s g3 → Fr twd kwd h g3 → (∀ i, i < n → g3 52 0 i = (rn (rot f n a) i : Int)) → (∀ i, i < r → g3 51 0 i = (rn (rot f n a) i : Int)) → AW mX11_words (MP ((lwd f n n e : Int), σ) h) 138 [(6, vi r), (5, vi 1), (4, vi x4), (3, vi a), (0, vr 40 0), (1, vi q), (2, vi e)] [] g3 := by
            intro g2 _ _ _ hc m2
            induction m2 with
            | zero =>
              intro r g3 x4 hr hR3 hF3 h3 h4
              refine u_iload (k := 75) rfl rfl ?_
              refine u_aloadn (k := 76) rfl rfl ?_
              refine a_geti (k := 77) rfl fRX11_156 rfl rfl ?_
              rw [hR3.1]
              refine a_icmp_ge (k := 78) rfl (fun c_144 => ?_) (fun c_144 => ?_)
              · refine u_iinc (k := 92) (lv' := [(3, _), (6, _), (5, _), (4, _), (0, _), (1, _), (2, _)]) rfl rfl (Nat.le_of_ble_eq_true rfl) (by omega) rfl ?_
                refine a_goto (k := 93) rfl ?_
                refine a_sub [0, 4, 5, 6] rfl ?_
                refine ih (a + 1) g3 (by omega) hR3 hF3 (Or.inr (fun i hi => ?_))
                rw [h4 i (by omega), e1, if_pos hc, ga_rot (by omega)]
              · omega
            | succ m2 ih2 =>
              intro r g3 x4 hr hR3 hF3 h3 h4
              refine u_iload (k := 75) rfl rfl ?_
              refine u_aloadn (k := 76) rfl rfl ?_
              refine a_geti (k := 77) rfl fRX11_156 rfl rfl ?_
              rw [hR3.1]
              refine a_icmp_ge (k := 78) rfl (fun c_144 => ?_) (fun c_144 => ?_)
              · omega
              · refine u_iload (k := 79) rfl rfl ?_
                refine a_iconst (k := 80) rfl ?_
                refine a_icmp_ne (k := 81) rfl (fun c_150 => ?_) (fun c_150 => ?_)
                · exact absurd rfl c_150
                · refine u_aloadn (k := 82) rfl rfl ?_
                  refine a_getr (k := 83) rfl fRX11_45 rfl rfl rfl ?_
                  refine u_iload (k := 84) rfl rfl ?_
                  refine u_aloadn (k := 85) rfl rfl ?_
                  refine a_getr (k := 86) rfl fRX11_48 rfl rfl rfl ?_
                  refine u_iload (k := 87) rfl rfl ?_
                  refine u_iald (k := 88) rfl rfl rfl (by omega) ?_
                  rw [h3 r (by omega)]
                  refine u_iast (k := 89) rfl rfl rfl (by omega) ?_
                  refine u_iinc (k := 90) (lv' := [(6, _), (5, _), (4, _), (3, _), (0, _), (1, _), (2, _)]) rfl rfl (Nat.le_of_ble_eq_true rfl) (by omega) rfl ?_
                  refine a_goto (k := 91) rfl ?_
                  refine ih2 (r + 1) _ x4 (by omega) (hR3.keep (by simp only [put_apply, Nat.reduceEqDiff, reduceIte, false_and, and_false, true_and, and_true, and_self, if_false, if_true, not_false_eq_true, not_true_eq_false, ne_eq]) (by simp only [put_apply, Nat.reduceEqDiff, reduceIte, false_and, and_false, true_and, and_true, and_self, if_false, if_true, not_false_eq_true, not_true_eq_false, ne_eq]) (fun k => by simp only [put_apply, Nat.reduceEqDiff, reduceIte, false_and, and_false, true_and, and_true, and_self, if_false, if_true, not_false_eq_true, not_true_eq_false, ne_eq])) (hF3.p1 (by simp [twd])) (fun i hi => by rw [put_ne (by simp)]; exact h3 i hi) (fun i hi => ?_)
                  by_cases he : i = r
                  · subst he; rw [put_eq]
                  · rw [put_ne (by simp [he])]; exact h4 i (by omega)
          have nc : ∀ (g3 : HH) (x4 x5 : Int), RW n f s g3 → Fr twd kwd h g3 → (∀ i, i < n → g3 51 0 i = (lwd f n a i : Int)) → ¬ (a = 0 ∨ cmpL (fun i => (ga f n false a 0 i : Int)) (fun i => (lwd f n a i : Int)) n 0 < 0) → ¬ x5 = 1 → ∀ x6 : Int, AW mX11_words (MP ((lwd f n n e : Int), σ) h) 135 [(6, vi x6), (5, vi x5), (4, vi x4), (3, vi a), (0, vr 40 0), (1, vi q), (2, vi e)] [] g3 := by
            intro g3 x4 x5 hR3 hF3 h4 hc hx x6
            refine a_iconst (k := 73) rfl ?_
            refine a_istore (k := 74) (lv' := [(6, _), (5, _), (4, _), (3, _), (0, _), (1, _), (2, _)]) rfl (Nat.le_of_ble_eq_true rfl) rfl ?_
            refine u_iload (k := 75) rfl rfl ?_
            refine u_aloadn (k := 76) rfl rfl ?_
            refine a_geti (k := 77) rfl fRX11_156 rfl rfl ?_
            rw [hR3.1]
            refine a_icmp_ge (k := 78) rfl (fun c_144 => ?_) (fun c_144 => ?_)
            · omega
            · refine u_iload (k := 79) rfl rfl ?_
              refine a_iconst (k := 80) rfl ?_
              refine a_icmp_ne (k := 81) rfl (fun c_150 => ?_) (fun c_150 => ?_)
              · refine u_iinc (k := 92) (lv' := [(3, _), (6, _), (5, _), (4, _), (0, _), (1, _), (2, _)]) rfl rfl (Nat.le_of_ble_eq_true rfl) (by omega) rfl ?_
                refine a_goto (k := 93) rfl ?_
                refine a_sub [0, 4, 5, 6] rfl ?_
                refine ih (a + 1) g3 (by omega) hR3 hF3 (Or.inr (fun i hi => ?_))
                rw [h4 i hi, e1, if_neg hc]
              · exact absurd (by omega) hx
          have cp0 : ∀ (g3 : HH) (x4 x6 : Int), RW n f s g3 → Fr twd kwd h g3 → (∀ i, i < n → g3 52 0 i = (rn (rot f n a) i : Int)) → (a = 0 ∨ cmpL (fun i => (ga f n false a 0 i : Int)) (fun i => (lwd f n a i : Int)) n 0 < 0) → AW mX11_words (MP ((lwd f n n e : Int), σ) h) 135 [(6, vi x6), (5, vi 1), (4, vi x4), (3, vi a), (0, vr 40 0), (1, vi q), (2, vi e)] [] g3 := by
            intro g3 x4 x6 hR3 hF3 h3 hc
            refine a_iconst (k := 73) rfl ?_
            refine a_istore (k := 74) (lv' := [(6, _), (5, _), (4, _), (3, _), (0, _), (1, _), (2, _)]) rfl (Nat.le_of_ble_eq_true rfl) rfl ?_
            exact cp g3 hR3 hF3 h3 hc n 0 g3 x4 (by omega) hR3 hF3 h3 (fun i hi => absurd hi (Nat.not_lt_zero i))
          have Li : ∀ (g2 : HH) (x4 : Nat), RW n f s g2 → Fr twd kwd h g2 → (∀ i, i < n → g2 52 0 i = (rn (rot f n a) i : Int)) → ¬ a = 0 → (∀ i, i < n → g2 51 0 i = (lwd f n a i : Int)) → ∀ (m2 r : Nat), r + m2 = n → cmpL (fun i => (ga f n false a 0 i : Int)) (fun i => (lwd f n a i : Int)) n 0 = cmpL (fun i => (ga f n false a 0 i : Int)) (fun i => (lwd f n a i : Int)) m2 r → AW mX11_words (MP ((lwd f n n e : Int), σ) h) 65 [(6, vi r), (5, vi 0), (4, vi x4), (3, vi a), (0, vr 40 0), (1, vi q), (2, vi e)] [] g2 := by
            intro g2 x4 hR2 hF2 h3 ha0 h4 m2
            induction m2 with
            | zero =>
              intro r hr hc
              refine u_iload (k := 39) rfl rfl ?_
              refine u_aloadn (k := 40) rfl rfl ?_
              refine a_geti (k := 41) rfl fRX11_156 rfl rfl ?_
              rw [hR2.1]
              refine a_icmp_ge (k := 42) rfl (fun c_71 => ?_) (fun c_71 => ?_)
              · refine nc g2 x4 0 hR2 hF2 h4 (fun z => ?_) (by omega) _
                rcases z with z | z
                · exact ha0 z
                · rw [hc] at z; exact absurd z (by show ¬ (0 : Int) < 0; omega)
              · omega
            | succ m2 ih2 =>
              intro r hr hc
              have b1 := h3 r (by omega)
              have b2 := h4 r (by omega)
              rw [← ga_rot (by omega)] at b1
              have stp : cmpL (fun i => (ga f n false a 0 i : Int)) (fun i => (lwd f n a i : Int)) (m2 + 1) r = if (ga f n false a 0 r : Int) = (lwd f n a r : Int) then cmpL (fun i => (ga f n false a 0 i : Int)) (fun i => (lwd f n a i : Int)) m2 (r + 1) else if (ga f n false a 0 r : Int) < (lwd f n a r : Int) then -1 else 1 := rfl
              have N127 : ∀ v : Int, (v = 0 ∧ ga f n false a 0 r = lwd f n a r) → AW mX11_words (MP ((lwd f n n e : Int), σ) h) 127 [(6, vi r), (5, vi 0), (4, vi x4), (3, vi a), (0, vr 40 0), (1, vi q), (2, vi e)] [vi v] g2 := by
                rintro v ⟨rfl, he⟩
                refine a_istore (k := 70) (lv' := [(5, _), (6, _), (4, _), (3, _), (0, _), (1, _), (2, _)]) rfl (Nat.le_of_ble_eq_true rfl) rfl ?_
                refine u_iinc (k := 71) (lv' := [(6, _), (5, _), (4, _), (3, _), (0, _), (1, _), (2, _)]) rfl rfl (Nat.le_of_ble_eq_true rfl) (by omega) rfl ?_
                refine a_goto (k := 72) rfl ?_
                exact ih2 (r + 1) (by omega) (by rw [hc, stp, if_pos (by rw [he])])
              have N127b : ∀ v : Int, (v = 1 ∧ ga f n false a 0 r < lwd f n a r) ∨ (v = -1 ∧ lwd f n a r < ga f n false a 0 r) → AW mX11_words (MP ((lwd f n n e : Int), σ) h) 127 [(6, vi r), (5, vi 0), (4, vi x4), (3, vi a), (0, vr 40 0), (1, vi q), (2, vi e)] [vi v] g2 := by
                intro v hv
                have h135 : AW mX11_words (MP ((lwd f n n e : Int), σ) h) 135 [(6, vi ((r : Int) + 1)), (5, vi v), (4, vi x4), (3, vi a), (0, vr 40 0), (1, vi q), (2, vi e)] [] g2 := by
                  rcases hv with ⟨rfl, hv⟩ | ⟨rfl, hv⟩
                  · exact cp0 g2 x4 _ hR2 hF2 h3 (Or.inr (by rw [hc, stp, if_neg (by omega), if_pos (by omega)]; omega))
                  · refine nc g2 x4 (-1) hR2 hF2 h4 (fun z => ?_) (by omega) _
                    rcases z with z | z
                    · exact ha0 z
                    · rw [hc, stp, if_neg (by omega), if_neg (by omega)] at z
                      omega
                refine a_istore (k := 70) (lv' := [(5, _), (6, _), (4, _), (3, _), (0, _), (1, _), (2, _)]) rfl (Nat.le_of_ble_eq_true rfl) rfl ?_
                refine u_iinc (k := 71) (lv' := [(6, _), (5, _), (4, _), (3, _), (0, _), (1, _), (2, _)]) rfl rfl (Nat.le_of_ble_eq_true rfl) (by omega) rfl ?_
                refine a_goto (k := 72) rfl ?_
                refine u_iload (k := 39) rfl rfl ?_
                refine u_aloadn (k := 40) rfl rfl ?_
                refine a_geti (k := 41) rfl fRX11_156 rfl rfl ?_
                rw [hR2.1]
                refine a_icmp_ge (k := 42) rfl (fun c_71 => ?_) (fun c_71 => ?_)
                · exact h135
                · refine u_iload (k := 43) rfl rfl ?_
                  refine a_if_ne (k := 44) rfl (fun c_76 => ?_) (fun c_76 => ?_)
                  · exact h135
                  · omega
              refine u_iload (k := 39) rfl rfl ?_
              refine u_aloadn (k := 40) rfl rfl ?_
              refine a_geti (k := 41) rfl fRX11_156 rfl rfl ?_
              rw [hR2.1]
              refine a_icmp_ge (k := 42) rfl (fun c_71 => ?_) (fun c_71 => ?_)
              · omega
              · refine u_iload (k := 43) rfl rfl ?_
                refine a_if_ne (k := 44) rfl (fun c_76 => ?_) (fun c_76 => ?_)
                · exact absurd rfl c_76
                · refine u_iload (k := 45) rfl rfl ?_
                  refine a_if_lt (k := 46) rfl (fun c_81 => ?_) (fun c_81 => ?_)
                  · omega
                  · refine u_aloadn (k := 47) rfl rfl ?_
                    refine a_getr (k := 48) rfl fRX11_48 rfl rfl rfl ?_
                    refine u_iload (k := 49) rfl rfl ?_
                    refine u_iald (k := 50) rfl rfl rfl (by omega) ?_
                    refine u_aloadn (k := 51) rfl rfl ?_
                    refine a_getr (k := 52) rfl fRX11_45 rfl rfl rfl ?_
                    refine u_iload (k := 53) rfl rfl ?_
                    refine u_iald (k := 54) rfl rfl rfl (by omega) ?_
                    rw [b1, b2]
                    refine a_icmp_ge (k := 55) rfl (fun c_98 => ?_) (fun c_98 => ?_)
                    · refine u_aloadn (k := 58) rfl rfl ?_
                      refine a_getr (k := 59) rfl fRX11_48 rfl rfl rfl ?_
                      refine u_iload (k := 60) rfl rfl ?_
                      refine u_iald (k := 61) rfl rfl rfl (by omega) ?_
                      refine u_aloadn (k := 62) rfl rfl ?_
                      refine a_getr (k := 63) rfl fRX11_45 rfl rfl rfl ?_
                      refine u_iload (k := 64) rfl rfl ?_
                      refine u_iald (k := 65) rfl rfl rfl (by omega) ?_
                      rw [b1, b2]
                      refine a_icmp_le (k := 66) rfl (fun c_119 => ?_) (fun c_119 => ?_)
                      · refine a_iconst (k := 69) rfl ?_
                        first
                          | exact N127 0 ⟨rfl, by omega⟩
                          | exact N127b 1 (Or.inl ⟨rfl, by omega⟩)
                          | exact N127b (-1) (Or.inr ⟨rfl, by omega⟩)
                      · refine a_iconst (k := 67) rfl ?_
                        refine a_goto (k := 68) rfl ?_
                        first
                          | exact N127 0 ⟨rfl, by omega⟩
                          | exact N127b 1 (Or.inl ⟨rfl, by omega⟩)
                          | exact N127b (-1) (Or.inr ⟨rfl, by omega⟩)
                    · refine a_iconst (k := 56) rfl ?_
                      refine a_goto (k := 57) rfl ?_
                      first
                        | exact N127 0 ⟨rfl, by omega⟩
                        | exact N127b 1 (Or.inl ⟨rfl, by omega⟩)
                        | exact N127b (-1) (Or.inr ⟨rfl, by omega⟩)
          by_cases ha0 : a = 0
          · subst ha0
            refine u_iloadn (k := 23) rfl rfl ?_
            refine u_aloadn (k := 24) rfl rfl ?_
            refine a_geti (k := 25) rfl fRX11_156 rfl rfl ?_
            rw [hR.1]
            refine a_icmp_ge (k := 26) rfl (fun c_41 => ?_) (fun c_41 => ?_)
            · omega
            · refine u_aloadn (k := 27) rfl rfl ?_
              refine u_iloadn (k := 28) rfl rfl ?_
              refine ui_virt1 (M' := mX11_numbers) (k := 29) rfl lRX11_176 oX11_numbers vX11_numbers ⟨Nat.le_of_ble_eq_true rfl, Nat.le_of_ble_eq_true rfl⟩ rfl rfl (Nat.le_of_ble_eq_true rfl) (m_numbers n 0 s f g (by omega) (by omega) (by omega) hR f52) (by intro r g hp; exact ⟨_, hp.1⟩) (fun z g2 hg2 => ?_)
              obtain ⟨hz', ha2, hF2⟩ := hg2; cases hz'
              have hR2 : RW n f s g2 := hR.keep (hF2 40 0 20 (by simp) (by simp)) (hF2 40 0 24 (by simp) (by simp)) (fun k => hF2 50 0 k (by simp) (by simp))
              have hF3 : Fr twd kwd h g2 := hF.tr hF2 (by simp [twd]) (by simp)
              refine a_istore (k := 30) (lv' := [(4, _), (3, _), (0, _), (1, _), (2, _)]) rfl (Nat.le_of_ble_eq_true rfl) rfl ?_
              refine u_iloadn (k := 31) rfl rfl ?_
              refine a_if_ne (k := 32) rfl (fun c_52 => ?_) (fun c_52 => ?_)
              · exact absurd rfl c_52
              · refine a_iconst (k := 33) rfl ?_
                refine a_goto (k := 34) rfl ?_
                refine a_istore (k := 36) (lv' := [(5, _), (4, _), (3, _), (0, _), (1, _), (2, _)]) rfl (Nat.le_of_ble_eq_true rfl) rfl ?_
                refine a_iconst (k := 37) rfl ?_
                refine a_istore (k := 38) (lv' := [(6, _), (5, _), (4, _), (3, _), (0, _), (1, _), (2, _)]) rfl (Nat.le_of_ble_eq_true rfl) rfl ?_
                refine u_iload (k := 39) rfl rfl ?_
                refine u_aloadn (k := 40) rfl rfl ?_
                refine a_geti (k := 41) rfl fRX11_156 rfl rfl ?_
                rw [hR2.1]
                refine a_icmp_ge (k := 42) rfl (fun c_71 => ?_) (fun c_71 => ?_)
                · exact cp0 g2 _ _ hR2 hF3 ha2 (Or.inl rfl)
                · refine u_iload (k := 43) rfl rfl ?_
                  refine a_if_ne (k := 44) rfl (fun c_76 => ?_) (fun c_76 => ?_)
                  · exact cp0 g2 _ _ hR2 hF3 ha2 (Or.inl rfl)
                  · omega
          · have h51' := h51.resolve_left ha0
            refine u_iloadn (k := 23) rfl rfl ?_
            refine u_aloadn (k := 24) rfl rfl ?_
            refine a_geti (k := 25) rfl fRX11_156 rfl rfl ?_
            rw [hR.1]
            refine a_icmp_ge (k := 26) rfl (fun c_41 => ?_) (fun c_41 => ?_)
            · omega
            · refine u_aloadn (k := 27) rfl rfl ?_
              refine u_iloadn (k := 28) rfl rfl ?_
              refine ui_virt1 (M' := mX11_numbers) (k := 29) rfl lRX11_176 oX11_numbers vX11_numbers ⟨Nat.le_of_ble_eq_true rfl, Nat.le_of_ble_eq_true rfl⟩ rfl rfl (Nat.le_of_ble_eq_true rfl) (m_numbers n a s f g (by omega) (by omega) (by omega) hR f52) (by intro r g hp; exact ⟨_, hp.1⟩) (fun z g2 hg2 => ?_)
              obtain ⟨hz', ha2, hF2⟩ := hg2; cases hz'
              have hR2 : RW n f s g2 := hR.keep (hF2 40 0 20 (by simp) (by simp)) (hF2 40 0 24 (by simp) (by simp)) (fun k => hF2 50 0 k (by simp) (by simp))
              have hF3 : Fr twd kwd h g2 := hF.tr hF2 (by simp [twd]) (by simp)
              refine a_istore (k := 30) (lv' := [(4, _), (3, _), (0, _), (1, _), (2, _)]) rfl (Nat.le_of_ble_eq_true rfl) rfl ?_
              refine u_iloadn (k := 31) rfl rfl ?_
              refine a_if_ne (k := 32) rfl (fun c_52 => ?_) (fun c_52 => ?_)
              · refine a_iconst (k := 35) rfl ?_
                refine a_istore (k := 36) (lv' := [(5, _), (4, _), (3, _), (0, _), (1, _), (2, _)]) rfl (Nat.le_of_ble_eq_true rfl) rfl ?_
                refine a_iconst (k := 37) rfl ?_
                refine a_istore (k := 38) (lv' := [(6, _), (5, _), (4, _), (3, _), (0, _), (1, _), (2, _)]) rfl (Nat.le_of_ble_eq_true rfl) rfl ?_
                exact Li g2 _ hR2 hF3 ha2 ha0 (fun i hi => by rw [hF2 51 0 i (by simp) (by simp)]; exact h51' i hi) n 0 (by omega) rfl
              · omega
      have hld := m_loads q (σ.now.2.2 q) h (by omega) h8 hsl
      rw [hn2, hf, hs] at hld
      refine u_aloadn (k := 0) rfl rfl ?_
      refine u_iloadn (k := 1) rfl rfl ?_
      refine i_virt1 (M' := mX11_isOne) (k := 2) rfl lRX11_206 oX11_isOne vX11_isOne ⟨Nat.le_of_ble_eq_true rfl, Nat.le_of_ble_eq_true rfl⟩ rfl rfl (Nat.le_of_ble_eq_true rfl) (hM.one hW q) ?_
      rw [one_yes hk]
      refine a_if_ne (k := 3) rfl (fun c_5 => ?_) (fun c_5 => ?_)
      · refine u_aloadn (k := 6) rfl rfl ?_
        refine u_iloadn (k := 7) rfl rfl ?_
        refine uv_virt1 (M' := mX11_loads) (k := 8) rfl lRX11_211 oX11_loads vX11_loads ⟨Nat.le_of_ble_eq_true rfl, Nat.le_of_ble_eq_true rfl⟩ rfl rfl (Nat.le_of_ble_eq_true rfl) (hld) (by intro r g hp; exact hp.1) (fun g2 hg2 => ?_)
        obtain ⟨-, hR2, hF2⟩ := hg2
        refine u_iloadn (k := 9) rfl rfl ?_
        refine a_i2l (k := 10) rfl ?_
        refine a_lconst (k := 11) rfl ?_
        refine u_aloadn (k := 12) rfl rfl ?_
        refine a_geti (k := 13) rfl fRX11_156 rfl rfl ?_
        refine a_iconst (k := 14) rfl ?_
        rw [hR2.1]
        refine u_isub (k := 15) rfl (by omega) ?_
        refine a_i2l (k := 16) rfl ?_
        refine i_stat3 (M' := mX11_in) (k := 17) rfl lRX11_81 oX11_in vX11_in ⟨Nat.le_of_ble_eq_true rfl, Nat.le_of_ble_eq_true rfl⟩ rfl (Nat.le_of_ble_eq_true rfl) (m_in e 0 ((n : Int) - 1) g2) ?_
        rw [inb_t (by omega)]
        refine a_if_ne (k := 18) rfl (fun c_29 => ?_) (fun c_29 => ?_)
        · refine a_iconst (k := 21) rfl ?_
          refine a_istoren (k := 22) (lv' := [(3, _), (0, _), (1, _), (2, _)]) rfl (Nat.le_of_ble_eq_true rfl) rfl ?_
          exact Lo n 0 g2 (by omega) hR2 (hF2.mono (by simp [twd]) (by simp [kwd])) (Or.inl rfl)
        · exact absurd c_29 (by decide)
      · exact absurd c_5 (by decide)
    · rw [if_neg hd]
      refine Sp.of rfl kX11_words (Nat.le_of_ble_eq_true rfl) ?_
      refine u_aloadn (k := 0) rfl rfl ?_
      refine u_iloadn (k := 1) rfl rfl ?_
      refine i_virt1 (M' := mX11_isOne) (k := 2) rfl lRX11_206 oX11_isOne vX11_isOne ⟨Nat.le_of_ble_eq_true rfl, Nat.le_of_ble_eq_true rfl⟩ rfl rfl (Nat.le_of_ble_eq_true rfl) (hM.one hW q) ?_
      rw [one_yes hk]
      refine a_if_ne (k := 3) rfl (fun c_5 => ?_) (fun c_5 => ?_)
      · refine u_aloadn (k := 6) rfl rfl ?_
        refine u_iloadn (k := 7) rfl rfl ?_
        refine uv_virt1 (M' := mX11_loads) (k := 8) rfl lRX11_211 oX11_loads vX11_loads ⟨Nat.le_of_ble_eq_true rfl, Nat.le_of_ble_eq_true rfl⟩ rfl rfl (Nat.le_of_ble_eq_true rfl) (m_loads q _ h (by omega) h8 (hM.slot hk)) (by intro r g hp; exact hp.1) (fun g2 hg2 => ?_)
        obtain ⟨-, hR2, hF2⟩ := hg2
        refine u_iloadn (k := 9) rfl rfl ?_
        refine a_i2l (k := 10) rfl ?_
        refine a_lconst (k := 11) rfl ?_
        refine u_aloadn (k := 12) rfl rfl ?_
        refine a_geti (k := 13) rfl fRX11_156 rfl rfl ?_
        refine a_iconst (k := 14) rfl ?_
        rw [hR2.1]
        refine u_isub (k := 15) rfl (by omega) ?_
        refine a_i2l (k := 16) rfl ?_
        refine i_stat3 (M' := mX11_in) (k := 17) rfl lRX11_81 oX11_in vX11_in ⟨Nat.le_of_ble_eq_true rfl, Nat.le_of_ble_eq_true rfl⟩ rfl (Nat.le_of_ble_eq_true rfl) (m_in d 0 (((2 * (σ.now.2.2 q).1 : Nat) : Int) - 1) g2) ?_
        rw [inb_f (by omega)]
        refine a_if_ne (k := 18) rfl (fun c_29 => ?_) (fun c_29 => ?_)
        · exact absurd rfl c_29
        · refine a_iconst (k := 19) rfl ?_
          refine a_ireturn (k := 20) rfl rfl ?_
          exact ⟨rfl, hM.scr hW (Fs_of hF2 (by simp [tms]) (by simp [kms])), Fr.mo hF2 (by simp) (by simp)⟩
      · exact absurd c_5 (by decide)
/-! same -/
theorem cmT_iff {f f2 : Nat → Nat} {n : Nat} {b : Bool} {fl : Nat} : ∀ {m q : Nat}, cmT f f2 n b fl m q = true ↔ n = 0 ∨ ∃ a, q ≤ a ∧ a < q + m ∧ ∀ i, i < n → ga f n b a fl i = f2 i
  | 0, q => by
    show decide (n = 0) = true ↔ _
    rw [decide_eq_true_iff]
    constructor
    · exact Or.inl
    · rintro (h | ⟨a, h1, h2, _⟩)
      · exact h
      · omega
  | m + 1, q => by
    show (if cmpL (fun i => (ga f n b q fl i : Int)) (fun i => (f2 i : Int)) n 0 = 0 then true else cmT f f2 n b fl m (q + 1)) = true ↔ _
    split
    · rename_i hh
      rw [cmp_eq] at hh
      refine ⟨fun _ => Or.inr ⟨q, Nat.le_refl _, by omega, fun i hi => ?_⟩, fun _ => rfl⟩
      have := hh i (by omega) (by omega)
      omega
    · rename_i hh
      rw [cmp_eq] at hh
      rw [cmT_iff (m := m) (q := q + 1)]
      constructor
      · rintro (h | ⟨a, h1, h2, h3⟩)
        · exact Or.inl h
        · exact Or.inr ⟨a, by omega, by omega, h3⟩
      · rintro (h | ⟨a, h1, h2, h3⟩)
        · exact Or.inl h
        · by_cases he : a = q
          · subst he
            exact absurd (fun i _ hi => by rw [h3 i (by omega)]) hh
          · exact Or.inr ⟨a, by omega, by omega, h3⟩
theorem sme_iff {F Q : Nat → Nat} {n : Nat} : ∀ {m q : Nat}, sme F Q n m q = true ↔ n = 0 ∨ ∃ a, q ≤ a ∧ a < q + m ∧ ∀ i, i < n → rn (rot F n a) i = Q i
  | 0, q => by
    show decide (n = 0) = true ↔ _
    rw [decide_eq_true_iff]
    constructor
    · exact Or.inl
    · rintro (h | ⟨a, h1, h2, _⟩)
      · exact h
      · omega
  | m + 1, q => by
    unfold sme
    split
    · rename_i hh
      exact ⟨fun _ => Or.inr ⟨q, Nat.le_refl _, by omega, hh⟩, fun _ => rfl⟩
    · rename_i hh
      rw [sme_iff (m := m) (q := q + 1)]
      constructor
      · rintro (h | ⟨a, h1, h2, h3⟩)
        · exact Or.inl h
        · exact Or.inr ⟨a, by omega, by omega, h3⟩
      · rintro (h | ⟨a, h1, h2, h3⟩)
        · exact Or.inl h
        · by_cases he : a = q
          · subst he
            exact absurd h3 hh
          · exact Or.inr ⟨a, by omega, by omega, h3⟩
/-- the thread gone along in a way -/
def wyF (f : Nat → Nat) (n w : Nat) : Nat → Nat := if w = 0 then f else if w = 1 then rvf f n else if w = 2 then swf f 255 else swf (rvf f n) 255
theorem swf255 {F : Nat → Nat} {q : Nat} (h : F q < 16) : swf F 255 q % 2 = F q % 2 ^^^ 1 := by
  have hb : (255 : Nat).testBit (F q / 2) = true := by
    have : ∀ x, x < 8 → (255 : Nat).testBit x = true := by decide
    exact this _ (by omega)
  rw [swf_mod, if_pos hb]
  have : ∀ x, x < 2 → 1 - x = x ^^^ 1 := by decide
  exact this _ (by omega)
theorem rn_sw {F : Nat → Nat} {n a i : Nat} (hn : 0 < n) (h16 : ∀ q, q < n → F q < 16) : rn (rot (swf F 255) n a) i = 2 * cr (rot F n a) i + (rot F n a i % 2 ^^^ 1) := by
  have e1 : cr (rot (swf F 255) n a) i = cr (rot F n a) i := cr_part (m := i + 1) (fun x y _ _ => by unfold rot; rw [swf_div, swf_div]) (by omega)
  have e2 : rot (swf F 255) n a i % 2 = rot F n a i % 2 ^^^ 1 := swf255 (h16 _ (Nat.mod_lt _ hn))
  show 2 * cr (rot (swf F 255) n a) i + rot (swf F 255) n a i % 2 = _
  rw [e1, e2]
theorem wy_eq {f f2 : Nat → Nat} {n w : Nat} (hw : w < 4) (h16 : ∀ q, q < n → f q < 16) : cmT f f2 n (decide (w % 2 = 1)) (w / 2) n 0 = sme (wyF f n w) f2 n n 0 := by
  rw [Bool.eq_iff_iff, cmT_iff, sme_iff]
  refine or_congr_right ?_
  have r16 : ∀ q, q < n → rvf f n q < 16 := fun q hq => h16 _ (by omega)
  have hz : w = 0 ∨ w = 1 ∨ w = 2 ∨ w = 3 := by omega
  rcases hz with rfl | rfl | rfl | rfl
  · constructor
    · rintro ⟨a, h1, h2, h3⟩
      exact ⟨a, h1, h2, fun i hi => by rw [← h3 i hi]; exact (ga_rot (by omega)).symm⟩
    · rintro ⟨a, h1, h2, h3⟩
      exact ⟨a, h1, h2, fun i hi => by rw [← h3 i hi]; exact ga_rot (by omega)⟩
  · have key : ∀ a i, a < n → ga f n true a 0 i = rn (rot (rvf f n) n (n - 1 - a)) i := fun a i ha => by
      unfold ga rn
      rw [gq_back ha, Nat.xor_zero]
    constructor
    · rintro ⟨a, h1, h2, h3⟩
      exact ⟨n - 1 - a, by omega, by omega, fun i hi => by rw [← h3 i hi]; exact (key a i (by omega)).symm⟩
    · rintro ⟨a, h1, h2, h3⟩
      refine ⟨n - 1 - a, by omega, by omega, fun i hi => ?_⟩
      rw [← h3 i hi]
      refine (key (n - 1 - a) i (by omega)).trans ?_
      rw [show n - 1 - (n - 1 - a) = a by omega]
      rfl
  · have key : ∀ a i, a < n → ga f n false a 1 i = rn (rot (swf f 255) n a) i := fun a i ha => by
      rw [rn_sw (by omega) h16]
      unfold ga
      rw [gq_rot ha]
    constructor
    · rintro ⟨a, h1, h2, h3⟩
      exact ⟨a, h1, h2, fun i hi => by rw [← h3 i hi]; exact (key a i (by omega)).symm⟩
    · rintro ⟨a, h1, h2, h3⟩
      exact ⟨a, h1, h2, fun i hi => by rw [← h3 i hi]; exact key a i (by omega)⟩
  · have key : ∀ a i, a < n → ga f n true a 1 i = rn (rot (swf (rvf f n) 255) n (n - 1 - a)) i := fun a i ha => by
      rw [rn_sw (by omega) r16]
      unfold ga
      rw [gq_back ha]
    constructor
    · rintro ⟨a, h1, h2, h3⟩
      exact ⟨n - 1 - a, by omega, by omega, fun i hi => by rw [← h3 i hi]; exact (key a i (by omega)).symm⟩
    · rintro ⟨a, h1, h2, h3⟩
      refine ⟨n - 1 - a, by omega, by omega, fun i hi => ?_⟩
      rw [← h3 i hi]
      refine (key (n - 1 - a) i (by omega)).trans ?_
      rw [show n - 1 - (n - 1 - a) = a by omega]
      rfl
