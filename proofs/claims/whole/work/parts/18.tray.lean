/-! Tray, History, Book -/
theorem x_ropeOf (t k : Nat) (h : HH) (hk : (k : Int) < h 3 t 1) (h5 : k < 5) : SpR mX9_ropeOf [vr 3 t, vi k] h (vr 5 (5 * t + k)) h := by
  refine Sp.of rfl kX9_ropeOf (Nat.le_of_ble_eq_true rfl) ?_
  refine u_iloadn (k := 0) rfl rfl ?_
  refine a_if_lt (k := 1) rfl (fun c_1 => ?_) (fun c_1 => ?_)
  · omega
  · refine u_iloadn (k := 2) rfl rfl ?_
    refine u_aloadn (k := 3) rfl rfl ?_
    refine a_geti (k := 4) rfl fRX9_20 rfl rfl ?_
    refine a_icmp_ge (k := 5) rfl (fun c_9 => ?_) (fun c_9 => ?_)
    · omega
    · refine u_iloadn (k := 6) rfl rfl ?_
      refine a_iconst (k := 7) rfl ?_
      refine a_icmp_ge (k := 8) rfl (fun c_14 => ?_) (fun c_14 => ?_)
      · omega
      · refine u_aloadn (k := 9) rfl rfl ?_
        refine a_getr (k := 10) rfl fRX9_11 rfl rfl rfl ?_
        refine u_iloadn (k := 11) rfl rfl ?_
        refine u_aald (k := 12) rfl rfl rfl (by decide) (by omega) rfl ?_
        refine a_goto (k := 13) rfl ?_
        refine a_areturn (k := 15) rfl rfl (Or.inr ⟨_, _, rfl⟩) ?_
        exact ⟨rfl, rfl⟩
theorem x_ropeNo (t : Nat) (k : Int) (h : HH) (hk : k < 0 ∨ h 3 t 1 ≤ k) : SpR mX9_ropeOf [vr 3 t, vi k] h vn h := by
  refine Sp.of rfl kX9_ropeOf (Nat.le_of_ble_eq_true rfl) ?_
  refine u_iloadn (k := 0) rfl rfl ?_
  refine a_if_lt (k := 1) rfl (fun c_1 => ?_) (fun c_1 => ?_)
  · refine a_null (k := 14) rfl ?_
    refine a_areturn (k := 15) rfl rfl (Or.inl rfl) ?_
    exact ⟨rfl, rfl⟩
  · refine u_iloadn (k := 2) rfl rfl ?_
    refine u_aloadn (k := 3) rfl rfl ?_
    refine a_geti (k := 4) rfl fRX9_20 rfl rfl ?_
    refine a_icmp_ge (k := 5) rfl (fun c_9 => ?_) (fun c_9 => ?_)
    · refine a_null (k := 14) rfl ?_
      refine a_areturn (k := 15) rfl rfl (Or.inl rfl) ?_
      exact ⟨rfl, rfl⟩
    · refine u_iloadn (k := 6) rfl rfl ?_
      refine a_iconst (k := 7) rfl ?_
      refine a_icmp_ge (k := 8) rfl (fun c_14 => ?_) (fun c_14 => ?_)
      · refine a_null (k := 14) rfl ?_
        refine a_areturn (k := 15) rfl rfl (Or.inl rfl) ?_
        exact ⟨rfl, rfl⟩
      · omega
/-- tray t holds what tray t2 of h holds -/
def TC (t t2 : Nat) (h g : HH) : Prop := g 3 t 1 = h 3 t2 1 ∧ g 3 t 2 = h 3 t2 2 ∧ ∀ k, k < 5 → g 5 (5 * t + k) 2 = h 5 (5 * t2 + k) 2 ∧ g 5 (5 * t + k) 3 = h 5 (5 * t2 + k) 3 ∧ ∀ i, i < 16 → g 6 (5 * t + k) i = h 6 (5 * t2 + k) i
def tcs (t : Nat) : List (Nat × Nat) := [(3, t), (5, 5 * t), (5, 5 * t + 1), (5, 5 * t + 2), (5, 5 * t + 3), (5, 5 * t + 4), (6, 5 * t), (6, 5 * t + 1), (6, 5 * t + 2), (6, 5 * t + 3), (6, 5 * t + 4)]
theorem tcs5 {t k : Nat} (h : k < 5) : (5, 5 * t + k) ∈ tcs t := by
  unfold tcs
  rcases (show k = 0 ∨ k = 1 ∨ k = 2 ∨ k = 3 ∨ k = 4 by omega) with rfl | rfl | rfl | rfl | rfl <;> simp
theorem tcs6 {t k : Nat} (h : k < 5) : (6, 5 * t + k) ∈ tcs t := by
  unfold tcs
  rcases (show k = 0 ∨ k = 1 ∨ k = 2 ∨ k = 3 ∨ k = 4 by omega) with rfl | rfl | rfl | rfl | rfl <;> simp
theorem tcs_no {t a b : Nat} (h : ∀ k, k < 5 → b ≠ 5 * t + k) (ha : a = 3 → b ≠ t) : (a, b) ∉ tcs t := by
  unfold tcs
  have h0 := h 0 (by omega)
  have h1 := h 1 (by omega)
  have h2 := h 2 (by omega)
  have h3 := h 3 (by omega)
  have h4 := h 4 (by omega)
  simp only [List.mem_cons, Prod.mk.injEq, List.not_mem_nil, or_false, not_or]
  refine ⟨fun q => ha q.1 q.2, fun q => h0 q.2, fun q => h1 q.2, fun q => h2 q.2, fun q => h3 q.2, fun q => h4 q.2, fun q => h0 q.2, fun q => h1 q.2, fun q => h2 q.2, fun q => h3 q.2, fun q => h4 q.2⟩
theorem tcs_tag {t a b : Nat} (h3 : a ≠ 3) (h5 : a ≠ 5) (h6 : a ≠ 6) : (a, b) ∉ tcs t := by
  unfold tcs
  simp [h3, h5, h6]
theorem x_tcopy (t t2 : Nat) (h : HH) (hne : t ≠ t2) : Sp mX9_copyFrom [vr 3 t, vr 3 t2] h (fun r g => r = none ∧ TC t t2 h g ∧ Fr (tcs t) [] h g) := by
  refine Sp.of rfl kX9_copyFrom (Nat.le_of_ble_eq_true rfl) ?_
  have L : ∀ (m n : Nat) (g : HH), n + m = 5 → g 3 t 1 = h 3 t2 1 → g 3 t 2 = h 3 t2 2 → (∀ k, k < n → g 5 (5 * t + k) 2 = h 5 (5 * t2 + k) 2 ∧ g 5 (5 * t + k) 3 = h 5 (5 * t2 + k) 3 ∧ ∀ i, i < 16 → g 6 (5 * t + k) i = h 6 (5 * t2 + k) i) → Fr (tcs t) [] h g →
      AW mX9_copyFrom (fun r g => r = none ∧ TC t t2 h g ∧ Fr (tcs t) [] h g) 18 [(0, vr 3 t), (1, vr 3 t2), (2, vi n)] [] g := by
    intro m
    induction m with
    | zero =>
      intro n g hn h1 h2 hp hF
      have hn : n = 5 := by omega
      subst hn
      refine u_iloadn (k := 10) rfl rfl ?_
      refine a_iconst (k := 11) rfl ?_
      refine a_icmp_ge (k := 12) rfl (fun c_20 => ?_) (fun c_20 => ?_)
      · refine a_return (k := 24) rfl rfl ?_
        exact ⟨rfl, ⟨h1, h2, hp⟩, hF⟩
      · omega
    | succ m ih =>
      intro n g hn h1 h2 hp hF
      refine u_iloadn (k := 10) rfl rfl ?_
      refine a_iconst (k := 11) rfl ?_
      refine a_icmp_ge (k := 12) rfl (fun c_20 => ?_) (fun c_20 => ?_)
      · omega
      · refine u_aloadn (k := 13) rfl rfl ?_
        refine a_getr (k := 14) rfl fRX9_11 rfl rfl rfl ?_
        refine u_iloadn (k := 15) rfl rfl ?_
        refine u_aald (k := 16) rfl rfl rfl (by decide) (by omega) rfl ?_
        refine u_aloadn (k := 17) rfl rfl ?_
        refine a_getr (k := 18) rfl fRX9_11 rfl rfl rfl ?_
        refine u_iloadn (k := 19) rfl rfl ?_
        refine u_aald (k := 20) rfl rfl rfl (by decide) (by omega) rfl ?_
        refine uv_virt1 (M' := mX6_copyFrom) (k := 21) rfl lRX9_27 oX6_copyFrom vX6_copyFrom ⟨Nat.le_of_ble_eq_true rfl, Nat.le_of_ble_eq_true rfl⟩ rfl rfl (Nat.le_of_ble_eq_true rfl) (x_copyFrom (5 * t + n) (5 * t2 + n) g (by omega)) (by intro r g hp; exact hp.1) (fun g1 hg1 => ?_)
        obtain ⟨-, b1, b2, b3, b4⟩ := hg1
        refine u_iinc (k := 22) (lv' := [(2, _), (0, _), (1, _)]) rfl rfl (Nat.le_of_ble_eq_true rfl) (by omega) rfl ?_
        refine a_goto (k := 23) rfl ?_
        refine a_sub [1, 2, 0] rfl ?_
        refine ih (n + 1) g1 (by omega) (by rw [b4 3 t 1 (by simp) (by simp)]; exact h1) (by rw [b4 3 t 2 (by simp) (by simp)]; exact h2) (fun k hk => ?_) (hF.tr b4 (fun q hq => ?_) (by simp))
        · have z5 : ∀ x, g 5 (5 * t2 + k) x = h 5 (5 * t2 + k) x := fun x => hF 5 _ x (tcs_no (fun k2 _ => by omega) (by omega)) (by simp)
          have z6 : ∀ x, g 6 (5 * t2 + k) x = h 6 (5 * t2 + k) x := fun x => hF 6 _ x (tcs_no (fun k2 _ => by omega) (by omega)) (by simp)
          by_cases he : k = n
          · subst he; exact ⟨by rw [b1, z5], by rw [b2, z5], fun i hi => by rw [b3 i hi, z6]⟩
          · obtain ⟨y1, y2, y3⟩ := hp k (by omega)
            exact ⟨by rw [b4 5 _ 2 (by simp; omega) (by simp)]; exact y1, by rw [b4 5 _ 3 (by simp; omega) (by simp)]; exact y2, fun i hi => by rw [b4 6 _ i (by simp; omega) (by simp)]; exact y3 i hi⟩
        · rcases List.mem_cons.mp hq with rfl | hq
          · exact tcs5 (by omega)
          · rw [List.mem_singleton.mp hq]; exact tcs6 (by omega)
  refine u_aloadn (k := 0) rfl rfl ?_
  refine u_aloadn (k := 1) rfl rfl ?_
  refine a_geti (k := 2) rfl fRX9_20 rfl rfl ?_
  refine a_puti (k := 3) rfl pRX9_20 rfl rfl ?_
  refine u_aloadn (k := 4) rfl rfl ?_
  refine u_aloadn (k := 5) rfl rfl ?_
  refine a_geti (k := 6) rfl fRX9_24 rfl rfl ?_
  rw [put_ne (by simp)]
  refine a_puti (k := 7) rfl pRX9_24 rfl rfl ?_
  refine a_iconst (k := 8) rfl ?_
  refine a_istoren (k := 9) (lv' := [(2, _), (0, _), (1, _)]) rfl (Nat.le_of_ble_eq_true rfl) rfl ?_
  refine a_sub [1, 2, 0] rfl ?_
  exact L 5 0 _ (by omega) (by simp only [put_apply, Nat.reduceEqDiff, reduceIte, false_and, and_false, true_and, and_true, and_self, if_false, if_true, not_false_eq_true, not_true_eq_false, ne_eq]) (by rw [put_eq]) (fun k hk => absurd hk (Nat.not_lt_zero k)) ((Fr.rf.p1 (by simp [tcs])).p1 (by simp [tcs]))
theorem x_forget (h : HH) : SpV mX2_forgetAll [vr 10 0] h (put h 10 0 2 0) := by
  refine Sp.of rfl kX2_forgetAll (Nat.le_of_ble_eq_true rfl) ?_
  refine u_aloadn (k := 0) rfl rfl ?_
  refine a_iconst (k := 1) rfl ?_
  refine a_puti (k := 2) rfl pRX2_20 rfl rfl ?_
  refine a_return (k := 3) rfl rfl ?_
  exact ⟨rfl, rfl⟩
theorem x_remember (n c : Nat) (h : HH) (hn : h 10 0 1 = (n : Int)) (hn2 : n < 16) (hc : h 10 0 2 = (c : Int)) (hc2 : c ≤ 16) : Sp mX2_remember [vr 10 0, vr 3 1] h (fun r g => r = none ∧ TC (2 + n) 1 h g ∧ g 10 0 1 = (((n + 1) % 16 : Nat) : Int) ∧ g 10 0 2 = ((min (c + 1) 16 : Nat) : Int) ∧ Fr (tcs (2 + n)) [(10, 0, 1), (10, 0, 2)] h g) := by
  refine Sp.of rfl kX2_remember (Nat.le_of_ble_eq_true rfl) ?_
  refine u_aloadn (k := 0) rfl rfl ?_
  refine a_getr (k := 1) rfl fRX2_11 rfl rfl rfl ?_
  refine u_aloadn (k := 2) rfl rfl ?_
  refine a_geti (k := 3) rfl fRX2_24 rfl rfl ?_
  rw [hn]
  refine u_aald (k := 4) rfl rfl rfl (by decide) (by omega) rfl ?_
  refine u_aloadn (k := 5) rfl rfl ?_
  refine uv_virt1 (M' := mX9_copyFrom) (k := 6) rfl lRX2_27 oX9_copyFrom vX9_copyFrom ⟨Nat.le_of_ble_eq_true rfl, Nat.le_of_ble_eq_true rfl⟩ rfl rfl (Nat.le_of_ble_eq_true rfl) (x_tcopy (2 + n) 1 h (by omega)) (by intro r g hp; exact hp.1) (fun g1 hg1 => ?_)
  obtain ⟨-, b1, b2⟩ := hg1; have e1 : g1 10 0 1 = (n : Int) := (b2 10 0 1 (tcs_tag (by omega) (by omega) (by omega)) (by simp)).trans hn; have e2 : g1 10 0 2 = (c : Int) := (b2 10 0 2 (tcs_tag (by omega) (by omega) (by omega)) (by simp)).trans hc
  refine u_aloadn (k := 7) rfl rfl ?_
  refine u_aloadn (k := 8) rfl rfl ?_
  refine a_geti (k := 9) rfl fRX2_24 rfl rfl ?_
  refine a_iconst (k := 10) rfl ?_
  refine u_iadd (k := 11) rfl (by omega) ?_
  refine a_bipush (k := 12) rfl ?_
  refine u_irem (k := 13) rfl (by omega) (by omega) ?_
  refine a_puti (k := 14) rfl pRX2_24 rfl rfl ?_
  refine u_aloadn (k := 15) rfl rfl ?_
  refine u_aloadn (k := 16) rfl rfl ?_
  refine a_geti (k := 17) rfl fRX2_20 rfl rfl ?_
  rw [put_ne (by simp)]
  refine a_iconst (k := 18) rfl ?_
  refine u_iadd (k := 19) rfl (by omega) ?_
  refine a_bipush (k := 20) rfl ?_
  refine i_stat2 (M' := mJ9_min_7cf53) (k := 21) rfl lRX2_31 oJ9_min_7cf53 vJ9_min_7cf53 ⟨Nat.le_of_ble_eq_true rfl, Nat.le_of_ble_eq_true rfl⟩ rfl (Nat.le_of_ble_eq_true rfl) (x_min _ _ _) ?_
  refine a_puti (k := 22) rfl pRX2_20 rfl rfl ?_
  refine a_return (k := 23) rfl rfl ?_
  refine ⟨rfl, ⟨by simp only [put_apply, Nat.reduceEqDiff, reduceIte, false_and, and_false, true_and, and_true, and_self, if_false, if_true, not_false_eq_true, not_true_eq_false, ne_eq]; exact b1.1, by simp only [put_apply, Nat.reduceEqDiff, reduceIte, false_and, and_false, true_and, and_true, and_self, if_false, if_true, not_false_eq_true, not_true_eq_false, ne_eq]; exact b1.2.1, fun k hk => ⟨by simp only [put_apply, Nat.reduceEqDiff, reduceIte, false_and, and_false, true_and, and_true, and_self, if_false, if_true, not_false_eq_true, not_true_eq_false, ne_eq]; exact (b1.2.2 k hk).1, by simp only [put_apply, Nat.reduceEqDiff, reduceIte, false_and, and_false, true_and, and_true, and_self, if_false, if_true, not_false_eq_true, not_true_eq_false, ne_eq]; exact (b1.2.2 k hk).2.1, fun i hi => by simp only [put_apply, Nat.reduceEqDiff, reduceIte, false_and, and_false, true_and, and_true, and_self, if_false, if_true, not_false_eq_true, not_true_eq_false, ne_eq]; exact (b1.2.2 k hk).2.2 i hi⟩⟩, by rw [put_ne (by simp), put_eq, e1]; omega, by rw [put_eq, e2]; split <;> omega, ((b2.mono (fun q hq => hq) (by simp)).p2 (by simp)).p2 (by simp)⟩
theorem x_restore (n c : Nat) (h : HH) (hn : h 10 0 1 = (n : Int)) (hn2 : n < 16) (hc : h 10 0 2 = (c : Int)) (hc2 : c ≤ 16) (hc0 : 0 < c) : Sp mX2_restore [vr 10 0, vr 3 1] h (fun r g => r = some (vi 1) ∧ TC 1 (2 + (n + 15) % 16) h g ∧ g 10 0 1 = (((n + 15) % 16 : Nat) : Int) ∧ g 10 0 2 = ((c - 1 : Nat) : Int) ∧ Fr (tcs 1) [(10, 0, 1), (10, 0, 2)] h g) := by
  refine Sp.of rfl kX2_restore (Nat.le_of_ble_eq_true rfl) ?_
  have em : ((n : Int) + 16 - 1) % 16 = (((n + 15) % 16 : Nat) : Int) := by omega
  refine u_aloadn (k := 0) rfl rfl ?_
  refine a_geti (k := 1) rfl fRX2_20 rfl rfl ?_
  refine a_if_gt (k := 2) rfl (fun c_4 => ?_) (fun c_4 => ?_)
  · refine u_aloadn (k := 5) rfl rfl ?_
    refine u_aloadn (k := 6) rfl rfl ?_
    refine a_geti (k := 7) rfl fRX2_24 rfl rfl ?_
    rw [hn]
    refine a_bipush (k := 8) rfl ?_
    refine u_iadd (k := 9) rfl (by omega) ?_
    refine a_iconst (k := 10) rfl ?_
    refine u_isub (k := 11) rfl (by omega) ?_
    refine a_bipush (k := 12) rfl ?_
    refine u_irem (k := 13) rfl (by omega) (by omega) ?_
    rw [em]
    refine a_puti (k := 14) rfl pRX2_24 rfl rfl ?_
    refine u_aloadn (k := 15) rfl rfl ?_
    refine a_dup (k := 16) rfl rfl ?_
    refine a_geti (k := 17) rfl fRX2_20 rfl rfl ?_
    rw [put_ne (by simp), hc]
    refine a_iconst (k := 18) rfl ?_
    refine u_isub (k := 19) rfl (by omega) ?_
    refine a_puti (k := 20) rfl pRX2_20 rfl rfl ?_
    refine u_aloadn (k := 21) rfl rfl ?_
    refine u_aloadn (k := 22) rfl rfl ?_
    refine a_getr (k := 23) rfl fRX2_11 rfl rfl rfl ?_
    refine u_aloadn (k := 24) rfl rfl ?_
    refine a_geti (k := 25) rfl fRX2_24 rfl rfl ?_
    rw [put_ne (by simp), put_eq]
    refine u_aald (k := 26) rfl rfl rfl (by decide) (by omega) rfl ?_
    refine uv_virt1 (M' := mX9_copyFrom) (k := 27) rfl lRX2_27 oX9_copyFrom vX9_copyFrom ⟨Nat.le_of_ble_eq_true rfl, Nat.le_of_ble_eq_true rfl⟩ rfl rfl (Nat.le_of_ble_eq_true rfl) (x_tcopy 1 (2 + (n + 15) % 16) _ (by omega)) (by intro r g hp; exact hp.1) (fun g1 hg1 => ?_)
    obtain ⟨-, b1, b2⟩ := hg1
    refine a_iconst (k := 28) rfl ?_
    refine a_zreturn (k := 29) rfl rfl (by omega) ?_
    refine ⟨rfl, ⟨by rw [b1.1]; simp only [put_apply, Nat.reduceEqDiff, reduceIte, false_and, and_false, true_and, and_true, and_self, if_false, if_true, not_false_eq_true, not_true_eq_false, ne_eq], by rw [b1.2.1]; simp only [put_apply, Nat.reduceEqDiff, reduceIte, false_and, and_false, true_and, and_true, and_self, if_false, if_true, not_false_eq_true, not_true_eq_false, ne_eq], fun k hk => ⟨by rw [(b1.2.2 k hk).1]; simp only [put_apply, Nat.reduceEqDiff, reduceIte, false_and, and_false, true_and, and_true, and_self, if_false, if_true, not_false_eq_true, not_true_eq_false, ne_eq], by rw [(b1.2.2 k hk).2.1]; simp only [put_apply, Nat.reduceEqDiff, reduceIte, false_and, and_false, true_and, and_true, and_self, if_false, if_true, not_false_eq_true, not_true_eq_false, ne_eq], fun i hi => by rw [(b1.2.2 k hk).2.2 i hi]; simp only [put_apply, Nat.reduceEqDiff, reduceIte, false_and, and_false, true_and, and_true, and_self, if_false, if_true, not_false_eq_true, not_true_eq_false, ne_eq]⟩⟩, by rw [b2 10 0 1 (tcs_tag (by omega) (by omega) (by omega)) (by simp)]; simp only [put_apply, Nat.reduceEqDiff, reduceIte, false_and, and_false, true_and, and_true, and_self, if_false, if_true, not_false_eq_true, not_true_eq_false, ne_eq], by rw [b2 10 0 2 (tcs_tag (by omega) (by omega) (by omega)) (by simp)]; simp only [put_apply, Nat.reduceEqDiff, reduceIte, false_and, and_false, true_and, and_true, and_self, if_false, if_true, not_false_eq_true, not_true_eq_false, ne_eq]; omega, ((Fr.rf.p2 (by simp)).p2 (by simp)).tr b2 (fun q hq => hq) (by simp)⟩
  · omega
theorem x_restoreNo (h : HH) (hc : h 10 0 2 = 0) : SpI mX2_restore [vr 10 0, vr 3 1] h 0 h := by
  refine Sp.of rfl kX2_restore (Nat.le_of_ble_eq_true rfl) ?_
  refine u_aloadn (k := 0) rfl rfl ?_
  refine a_geti (k := 1) rfl fRX2_20 rfl rfl ?_
  refine a_if_gt (k := 2) rfl (fun c_4 => ?_) (fun c_4 => ?_)
  · omega
  · refine a_iconst (k := 3) rfl ?_
    refine a_zreturn (k := 4) rfl rfl (by omega) ?_
    exact ⟨rfl, rfl⟩
theorem x_addEntry (n : Nat) (k e : Int) (h : HH) (hn : h 14 0 2 = (n : Int)) (h15 : n < 15) : SpI mX0_addEntry [vr 14 0, vi k, vi e] h 1 (put (put (put h 15 0 n k) 16 0 n e) 14 0 2 ((n + 1 : Nat) : Int)) := by
  refine Sp.of rfl kX0_addEntry (Nat.le_of_ble_eq_true rfl) ?_
  refine u_aloadn (k := 0) rfl rfl ?_
  refine a_geti (k := 1) rfl fRX0_18 rfl rfl ?_
  refine a_if_lt (k := 2) rfl (fun c_4 => ?_) (fun c_4 => ?_)
  · omega
  · refine u_aloadn (k := 3) rfl rfl ?_
    refine a_geti (k := 4) rfl fRX0_18 rfl rfl ?_
    refine a_bipush (k := 5) rfl ?_
    refine a_icmp_lt (k := 6) rfl (fun c_13 => ?_) (fun c_13 => ?_)
    · refine u_aloadn (k := 9) rfl rfl ?_
      refine a_getr (k := 10) rfl fRX0_9 rfl rfl rfl ?_
      refine u_aloadn (k := 11) rfl rfl ?_
      refine a_geti (k := 12) rfl fRX0_18 rfl rfl ?_
      rw [hn]
      refine u_iloadn (k := 13) rfl rfl ?_
      refine u_iast (k := 14) rfl rfl rfl (by omega) ?_
      refine u_aloadn (k := 15) rfl rfl ?_
      refine a_getr (k := 16) rfl fRX0_15 rfl rfl rfl ?_
      refine u_aloadn (k := 17) rfl rfl ?_
      refine a_geti (k := 18) rfl fRX0_18 rfl rfl ?_
      rw [put_ne (by simp), hn]
      refine u_iloadn (k := 19) rfl rfl ?_
      refine u_iast (k := 20) rfl rfl rfl (by omega) ?_
      refine u_aloadn (k := 21) rfl rfl ?_
      refine a_dup (k := 22) rfl rfl ?_
      refine a_geti (k := 23) rfl fRX0_18 rfl rfl ?_
      rw [put_ne (by simp), put_ne (by simp), hn]
      refine a_iconst (k := 24) rfl ?_
      refine u_iadd (k := 25) rfl (by omega) ?_
      refine a_puti (k := 26) rfl pRX0_18 rfl rfl ?_
      refine a_iconst (k := 27) rfl ?_
      refine a_zreturn (k := 28) rfl rfl (by omega) ?_
      exact ⟨rfl, rfl⟩
    · omega
theorem x_addEntryNo (k e : Int) (h : HH) (hn : h 14 0 2 = 15) : SpI mX0_addEntry [vr 14 0, vi k, vi e] h 0 h := by
  refine Sp.of rfl kX0_addEntry (Nat.le_of_ble_eq_true rfl) ?_
  refine u_aloadn (k := 0) rfl rfl ?_
  refine a_geti (k := 1) rfl fRX0_18 rfl rfl ?_
  refine a_if_lt (k := 2) rfl (fun c_4 => ?_) (fun c_4 => ?_)
  · refine a_iconst (k := 7) rfl ?_
    refine a_zreturn (k := 8) rfl rfl (by omega) ?_
    exact ⟨rfl, rfl⟩
  · refine u_aloadn (k := 3) rfl rfl ?_
    refine a_geti (k := 4) rfl fRX0_18 rfl rfl ?_
    refine a_bipush (k := 5) rfl ?_
    refine a_icmp_lt (k := 6) rfl (fun c_13 => ?_) (fun c_13 => ?_)
    · omega
    · refine a_iconst (k := 7) rfl ?_
      refine a_zreturn (k := 8) rfl rfl (by omega) ?_
      exact ⟨rfl, rfl⟩
