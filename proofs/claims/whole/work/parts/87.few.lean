/-! how few must be switched -/
theorem Al_swf (f : Nat → Nat) (c S W : Nat) : Al (swf f W) c S = Al f c S := funext fun p => by
  unfold Al
  rw [swf_div]
theorem oP_swf {f : Nat → Nat} {c x W : Nat} (hV : VT c f) (hx : x < c) : oP (swf f W) c x = if W.testBit x then uP f c x else oP f c x := by
  have hV2 := VT_swf (S := W) hV
  obtain ⟨a, b⟩ := oP_ok hV2 hx
  obtain ⟨o1, o2⟩ := oP_ok hV hx
  obtain ⟨u1, u2⟩ := uP_ok hV hx
  have d1 := swf_div f W (oP f c x)
  have d2 := swf_div f W (uP f c x)
  have m1 := swf_mod f W (oP f c x)
  have m2 := swf_mod f W (uP f c x)
  rw [o2, show (2 * x + 1) / 2 = x by omega] at m1 d1
  rw [u2, show 2 * x / 2 = x by omega] at m2 d2
  by_cases h : W.testBit x = true
  · rw [if_pos h] at m1 m2 ⊢
    exact hV2.2 _ _ a u1 (by omega)
  · rw [if_neg h] at m1 m2 ⊢
    exact hV2.2 _ _ a o1 (by omega)
theorem uP_swf {f : Nat → Nat} {c x W : Nat} (hV : VT c f) (hx : x < c) : uP (swf f W) c x = if W.testBit x then oP f c x else uP f c x := by
  have hV2 := VT_swf (S := W) hV
  obtain ⟨a, b⟩ := uP_ok hV2 hx
  obtain ⟨o1, o2⟩ := oP_ok hV hx
  obtain ⟨u1, u2⟩ := uP_ok hV hx
  have d1 := swf_div f W (oP f c x)
  have d2 := swf_div f W (uP f c x)
  have m1 := swf_mod f W (oP f c x)
  have m2 := swf_mod f W (uP f c x)
  rw [o2, show (2 * x + 1) / 2 = x by omega] at m1 d1
  rw [u2, show 2 * x / 2 = x by omega] at m2 d2
  by_cases h : W.testBit x = true
  · rw [if_pos h] at m1 m2 ⊢
    exact hV2.2 _ _ a o1 (by omega)
  · rw [if_neg h] at m1 m2 ⊢
    exact hV2.2 _ _ a u1 (by omega)
/-- what curls does so switched or not -/
theorem curl_sw {f : Nat → Nat} {c S W x : Nat} (hV : VT c f) (hS : S < 2 ^ c) (h : mv f c S x x) : mv (swf f W) c S x x := by
  have hx := lt_tb hS h.1
  refine ⟨h.1, h.1, fun _ => ?_, fun z => absurd rfl z⟩
  rw [Al_swf, oP_swf hV hx, uP_swf hV hx]
  split
  · exact (h.2.2.1 rfl).symm
  · exact h.2.2.1 rfl
theorem rd_lbc {f : Nat → Nat} {c W : Nat} (hV : VT c f) : ∀ n S, S < 2 ^ c → ∃ k j, rd (swf f W) c k S (lbc f c n S) j
  | 0, S, _ => ⟨0, 0, rfl, rfl⟩
  | n + 1, S, hS => by
    have hlt : cls f c S 0 < 2 ^ c := by
      refine Nat.lt_pow_two_of_testBit _ (fun i hi => ?_)
      cases hb : (cls f c S 0).testBit i with
      | false => rfl
      | true =>
        have := lt_tb hS (cls_sub hb)
        omega
    obtain ⟨k, j, h1⟩ := rd_curls (VT_swf (S := W) hV) hS (K := cls f c S 0) (fun x hx => curl_sw hV hS ((cls_mv hV hS).mp hx)) c
    rw [Nat.mod_eq_of_lt hlt] at h1
    obtain ⟨k2, j2, h2⟩ := rd_lbc (W := W) hV n (ndiff S (cls f c S 0)) (Nat.lt_of_le_of_lt (ndiff_le _ _) hS)
    exact ⟨k + k2, j + j2, rd_trans h1 h2⟩
theorem pc_le8 {S c : Nat} (h8 : c ≤ 8) (hS : S < 2 ^ c) : pc_ S ≤ 8 := by
  have : 2 ^ c ≤ 2 ^ 8 := Nat.pow_le_pow_right (by omega) h8
  rw [pc_8 (by omega)]
  exact pct_le S 8
/-- from all, or from what is wound: the same end -/
theorem out_wound {f : Nat → Nat} {c W : Nat} (hV : VT c f) (h8 : c ≤ 8) : lft f c W 0 8 (2 ^ c - 1) = 0 ↔ lft f c W 0 8 (lbc f c 8 (2 ^ c - 1)) = 0 := by
  rw [lft_sw f c W 0 8 (2 ^ c - 1), lft_sw f c W 0 8 (lbc f c 8 (2 ^ c - 1))]
  have hV2 := VT_swf (S := W) hV
  have hF := full_b c
  obtain ⟨k, j, hr⟩ := rd_lbc (W := W) hV 8 (2 ^ c - 1) hF
  have hwb : lbc f c 8 (2 ^ c - 1) < 2 ^ c := Nat.lt_of_le_of_lt (rd_le hr) hF
  obtain ⟨n1, k1, j1, r1⟩ := lft_rd hV2 h8 8 (2 ^ c - 1) hF (pc_le8 h8 hF)
  obtain ⟨n2, k2, j2, r2⟩ := lft_rd hV2 h8 8 (lbc f c 8 (2 ^ c - 1)) hwb (pc_le8 h8 hwb)
  have hu := rd_uniq hV2 (2 ^ c - 1) hF r1 n1 (rd_trans hr r2) n2
  have p1 := rd_pc h8 hF r1
  have p2 := rd_pc h8 hF (rd_trans hr r2)
  rw [← pc_0 h8 (lft_b hF), ← pc_0 h8 (lft_b hwb)]
  omega
theorem tr_loc {f : Nat → Nat} {S W W' : Nat} (h : ∀ x, S.testBit x = true → W.testBit x = W'.testBit x) : ∀ n, tr_ f S W n = tr_ f S W' n
  | 0 => rfl
  | n + 1 => by
    show (if S.testBit (f n / 2) then tr_ f S W n ++ [swf f W n] else tr_ f S W n) = (if S.testBit (f n / 2) then tr_ f S W' n ++ [swf f W' n] else tr_ f S W' n)
    rw [tr_loc h n]
    split
    · rename_i hb
      unfold swf
      rw [h _ hb]
    · rfl
theorem lft_loc {f : Nat → Nat} {c W W' w : Nat} (h : ∀ x, w.testBit x = true → W.testBit x = W'.testBit x) : ∀ n S, (∀ x, S.testBit x = true → w.testBit x = true) → lft f c W 0 n S = lft f c W' 0 n S
  | 0, S, _ => rfl
  | n + 1, S, hs => by
    have ht : ∀ n, tr_ f S W n = tr_ f S W' n := tr_loc (fun x hx => h x (hs x hx))
    have ec : cls f c S W = cls f c S W' := by
      unfold cls Lr
      rw [ht]
    have em : mls f c S W 0 = mls f c S W' 0 := by
      unfold mls
      rw [ec]
      unfold Lr
      rw [ht]
    have el : lstep f c W 0 S = lstep f c W' 0 S := by
      unfold lstep
      rw [ec, em]
    show (if mls f c S W 0 = [] then S else lft f c W 0 n (lstep f c W 0 S)) = (if mls f c S W' 0 = [] then S else lft f c W' 0 n (lstep f c W' 0 S))
    rw [em, el, lft_loc h n _ (fun x hx => hs x (by
      unfold lstep at hx
      rw [ndiff_bit, Bool.and_eq_true] at hx
      exact hx.1))]
/-- the mirrored rope has the same moves -/
theorem mv_mir {f : Nat → Nat} {c S s t a b : Nat} (hV : VT c f) (hS : S < 2 ^ c) (hst : ∀ x, S.testBit x = true → t.testBit x = !s.testBit x) (h : mv (swf f s) c S a b) : mv (swf f t) c S a b := by
  have ha := lt_tb hS h.1
  have hb := lt_tb hS h.2.1
  have e1 : ∀ x, S.testBit x = true → x < c → oP (swf f t) c x = uP (swf f s) c x ∧ uP (swf f t) c x = oP (swf f s) c x := fun x hx hxc => by
    rw [oP_swf hV hxc, oP_swf hV hxc, uP_swf hV hxc, uP_swf hV hxc, hst x hx]
    cases s.testBit x <;> exact ⟨rfl, rfl⟩
  obtain ⟨a1, a2⟩ := e1 a h.1 ha
  obtain ⟨b1, b2⟩ := e1 b h.2.1 hb
  have eA : Al (swf f t) c S = Al (swf f s) c S := by rw [Al_swf, Al_swf]
  refine ⟨h.1, h.2.1, fun z => ?_, fun z => ?_⟩
  · rw [eA, a1, a2]
    exact (h.2.2.1 z).symm
  · rw [eA, a1, a2, b1, b2]
    exact ⟨(h.2.2.2 z).2, (h.2.2.2 z).1⟩
theorem rd_mir {f : Nat → Nat} {c s t w : Nat} (hV : VT c f) (hst : ∀ x, w.testBit x = true → t.testBit x = !s.testBit x) : ∀ {n S T j : Nat}, S < 2 ^ c → (∀ x, S.testBit x = true → w.testBit x = true) → rd (swf f s) c n S T j → rd (swf f t) c n S T j ∧ ∀ x, T.testBit x = true → w.testBit x = true
  | 0, S, T, j, _, hs, h => ⟨h, by rw [← h.1]; exact hs⟩
  | n + 1, S, T, j, hS, hs, h => by
    obtain ⟨a, b, j', hm, hr, hj⟩ := h
    obtain ⟨h1, h2⟩ := rd_mir hV hst (rm_b hS) (fun x hx => hs x (rm_tb.mp hx).1) hr
    exact ⟨⟨a, b, j', mv_mir hV hS (fun x hx => hst x (hs x hx)) hm, h1, hj⟩, h2⟩
theorem out_mir {f : Nat → Nat} {c s t w : Nat} (hV : VT c f) (h8 : c ≤ 8) (hw : w < 2 ^ c) (hst : ∀ x, w.testBit x = true → t.testBit x = !s.testBit x) (h : lft f c s 0 8 w = 0) : lft f c t 0 8 w = 0 := by
  rw [lft_sw] at h ⊢
  have hV1 := VT_swf (S := s) hV
  have hV2 := VT_swf (S := t) hV
  obtain ⟨n1, k1, j1, r1⟩ := lft_rd hV1 h8 8 w hw (pc_le8 h8 hw)
  obtain ⟨n2, k2, j2, r2⟩ := lft_rd hV2 h8 8 w hw (pc_le8 h8 hw)
  obtain ⟨r3, hsub⟩ := rd_mir hV hst hw (fun _ z => z) r1
  have hb := lft_b (f := swf f s) (W := 0) (H := 0) (n := 8) hw
  have n3 : nf (swf f t) c (lft (swf f s) c 0 0 8 w) := fun a b hm => n1 a b (mv_mir hV hb (fun x hx => by rw [hst x (hsub x hx)]; simp) hm)
  have hu := rd_uniq hV2 w hw r3 n3 r2 n2
  have p1 := rd_pc h8 hw r3
  have p2 := rd_pc h8 hw r2
  rw [← pc_0 h8 (lft_b hw)] at h ⊢
  omega
/-! the first, by count and by number -/
theorem fsi_spec {r : Rp} {w m : Nat} : ∀ {n s : Nat}, (∀ b, fsi r w m n s = some b → (s ≤ b ∧ b < s + n ∧ (ndiff b w = 0 ∧ pc_ b = m) ∧ lft r.2.2 r.1 b 0 8 w = 0) ∧ ∀ i, s ≤ i → i < b → ¬ ((ndiff i w = 0 ∧ pc_ i = m) ∧ lft r.2.2 r.1 i 0 8 w = 0)) ∧ (fsi r w m n s = none → ∀ i, s ≤ i → i < s + n → ¬ ((ndiff i w = 0 ∧ pc_ i = m) ∧ lft r.2.2 r.1 i 0 8 w = 0))
  | 0, s => ⟨fun b h => (by cases h), fun _ i h1 h2 => by omega⟩
  | n + 1, s => by
    obtain ⟨ih1, ih2⟩ := fsi_spec (r := r) (w := w) (m := m) (n := n) (s := s + 1)
    by_cases h : (ndiff s w = 0 ∧ pc_ s = m) ∧ lft r.2.2 r.1 s 0 8 w = 0
    · rw [fsi_yes h]
      refine ⟨fun b hb => ?_, fun z => by cases z⟩
      cases hb
      exact ⟨⟨Nat.le_refl _, by omega, h⟩, fun i h1 h2 => by omega⟩
    · rw [fsi_no h]
      refine ⟨fun b hb => ?_, fun z i h1 h2 => ?_⟩
      · obtain ⟨⟨h1, h2, h3⟩, h4⟩ := ih1 b hb
        refine ⟨⟨by omega, by omega, h3⟩, fun i i1 i2 => ?_⟩
        by_cases he : i = s
        · rw [he]; exact h
        · exact h4 i (by omega) i2
      · by_cases he : i = s
        · rw [he]; exact h
        · exact ih2 z i (by omega) (by omega)
theorem fso_spec {r : Rp} {w : Nat} : ∀ {n m : Nat}, (∀ b, fso r w n m = some b → b ≤ w ∧ ndiff b w = 0 ∧ lft r.2.2 r.1 b 0 8 w = 0 ∧ ∀ s, s ≤ w → ndiff s w = 0 → lft r.2.2 r.1 s 0 8 w = 0 → m ≤ pc_ s → pc_ b < pc_ s ∨ (pc_ b = pc_ s ∧ b ≤ s)) ∧ (fso r w n m = none → ∀ s, s ≤ w → ndiff s w = 0 → lft r.2.2 r.1 s 0 8 w = 0 → m ≤ pc_ s → m + n ≤ pc_ s)
  | 0, m => ⟨fun b h => (by cases h), fun _ s _ _ _ h => by omega⟩
  | n + 1, m => by
    obtain ⟨ih1, ih2⟩ := fso_spec (r := r) (w := w) (n := n) (m := m + 1)
    obtain ⟨f1, f2⟩ := fsi_spec (r := r) (w := w) (m := m) (n := w + 1) (s := 0)
    have e : fso r w (n + 1) m = match fsi r w m (w + 1) 0 with | some s => some s | none => fso r w n (m + 1) := rfl
    cases hf : fsi r w m (w + 1) 0 with
    | some b =>
      rw [hf] at e
      rw [e]
      obtain ⟨⟨_, g2, ⟨g3, g4⟩, g5⟩, g6⟩ := f1 b hf
      refine ⟨fun b' hb' => ?_, fun z => by cases z⟩
      cases hb'
      refine ⟨by omega, g3, g5, fun s s1 s2 s3 s4 => ?_⟩
      by_cases he : pc_ s = m
      · refine Or.inr ⟨by omega, ?_⟩
        by_cases hlt : s < b
        · exact absurd ⟨⟨s2, he⟩, s3⟩ (g6 s (Nat.zero_le _) hlt)
        · omega
      · exact Or.inl (by omega)
    | none =>
      rw [hf] at e
      rw [e]
      have g := f2 hf
      have no : ∀ s, s ≤ w → ndiff s w = 0 → lft r.2.2 r.1 s 0 8 w = 0 → pc_ s ≠ m := fun s s1 s2 s3 s4 => g s (Nat.zero_le _) (by omega) ⟨⟨s2, s4⟩, s3⟩
      refine ⟨fun b hb => ?_, fun z s s1 s2 s3 s4 => ?_⟩
      · obtain ⟨i1, i2, i3, i4⟩ := ih1 b hb
        refine ⟨i1, i2, i3, fun s s1 s2 s3 s4 => i4 s s1 s2 s3 ?_⟩
        have := no s s1 s2 s3
        omega
      · have h1 := no s s1 s2 s3
        have := ih2 z s s1 s2 s3 (by omega)
        omega
theorem fnd_spec {F : Nat → Nat} {c : Nat} : ∀ {k : Nat}, (∀ b, fnd F c k = some b → b < k ∧ isu F c b = true ∧ ∀ s, s < k → isu F c s = true → pct b 8 < pct s 8 ∨ (pct b 8 = pct s 8 ∧ b ≤ s)) ∧ (fnd F c k = none → ∀ s, s < k → isu F c s = false)
  | 0 => ⟨fun b h => (by cases h), fun _ s hs => absurd hs (Nat.not_lt_zero s)⟩
  | k + 1 => by
    obtain ⟨ih1, ih2⟩ := fnd_spec (F := F) (c := c) (k := k)
    have e : fnd F c (k + 1) = match fnd F c k with | none => (if isu F c k then some k else none) | some b => (if pct k 8 < pct b 8 ∧ isu F c k = true then some k else some b) := rfl
    cases hf : fnd F c k with
    | none =>
      rw [hf] at e
      dsimp only at e
      have g := ih2 hf
      by_cases hk : isu F c k = true
      · rw [if_pos hk] at e
        rw [e]
        refine ⟨fun b hb => ?_, fun z => by cases z⟩
        cases hb
        refine ⟨by omega, hk, fun s s1 s2 => ?_⟩
        by_cases he : s = k
        · rw [he]; exact Or.inr ⟨rfl, Nat.le_refl _⟩
        · rw [g s (by omega)] at s2; cases s2
      · rw [if_neg hk] at e
        rw [e]
        refine ⟨fun b hb => (by cases hb), fun _ s s1 => ?_⟩
        by_cases he : s = k
        · rw [he]; revert hk; cases isu F c k <;> simp
        · exact g s (by omega)
    | some b0 =>
      rw [hf] at e
      dsimp only at e
      obtain ⟨g1, g2, g3⟩ := ih1 b0 hf
      by_cases hk : pct k 8 < pct b0 8 ∧ isu F c k = true
      · rw [if_pos hk] at e
        rw [e]
        refine ⟨fun b hb => ?_, fun z => by cases z⟩
        cases hb
        refine ⟨by omega, hk.2, fun s s1 s2 => ?_⟩
        by_cases he : s = k
        · rw [he]; exact Or.inr ⟨rfl, Nat.le_refl _⟩
        · have := g3 s (by omega) s2
          omega
      · rw [if_neg hk] at e
        rw [e]
        refine ⟨fun b hb => ?_, fun z => by cases z⟩
        cases hb
        refine ⟨by omega, g2, fun s s1 s2 => ?_⟩
        by_cases he : s = k
        · rw [he] at s2 ⊢
          have : ¬ pct k 8 < pct b0 8 := fun z => hk ⟨z, s2⟩
          omega
        · exact g3 s (by omega) s2
theorem pct_and (a b : Nat) : ∀ k, pct (a &&& b) k ≤ pct a k ∧ (pct (a &&& b) k = pct a k → ∀ x, x < k → a.testBit x = true → b.testBit x = true)
  | 0 => ⟨Nat.le_refl _, fun _ x hx => absurd hx (Nat.not_lt_zero x)⟩
  | k + 1 => by
    obtain ⟨h1, h2⟩ := pct_and a b k
    have e1 : pct (a &&& b) (k + 1) = pct (a &&& b) k + (if (a &&& b).testBit k then 1 else 0) := rfl
    have e2 : pct a (k + 1) = pct a k + (if a.testBit k then 1 else 0) := rfl
    rw [Nat.testBit_and] at e1
    cases ha : a.testBit k <;> cases hb : b.testBit k <;> rw [ha, hb] at e1 <;> rw [ha] at e2 <;> simp at e1 e2
    · exact ⟨by omega, fun z x hx hxa => by
        by_cases he : x = k
        · rw [he, ha] at hxa; cases hxa
        · exact h2 (by omega) x (by omega) hxa⟩
    · exact ⟨by omega, fun z x hx hxa => by
        by_cases he : x = k
        · rw [he]; exact hb
        · exact h2 (by omega) x (by omega) hxa⟩
    · exact ⟨by omega, fun z => by omega⟩
    · exact ⟨by omega, fun z x hx hxa => by
        by_cases he : x = k
        · rw [he]; exact hb
        · exact h2 (by omega) x (by omega) hxa⟩
theorem pct_nd {w b : Nat} (h : ∀ x, b.testBit x = true → w.testBit x = true) : ∀ k, pct (ndiff w b) k + pct b k = pct w k
  | 0 => rfl
  | k + 1 => by
    have ih := pct_nd h k
    have e1 : pct (ndiff w b) (k + 1) = pct (ndiff w b) k + (if (ndiff w b).testBit k then 1 else 0) := rfl
    have e2 : pct b (k + 1) = pct b k + (if b.testBit k then 1 else 0) := rfl
    have e3 : pct w (k + 1) = pct w k + (if w.testBit k then 1 else 0) := rfl
    rw [ndiff_bit] at e1
    have hk := h k
    cases hw : w.testBit k <;> cases hb : b.testBit k <;> rw [hw, hb] at e1 <;> rw [hb] at e2 <;> rw [hw] at e3 <;> simp at e1 e2 e3
    · omega
    · rw [hk hb] at hw; cases hw
    · omega
    · omega
theorem nd_sub {b w : Nat} : ndiff b w = 0 ↔ ∀ x, b.testBit x = true → w.testBit x = true := by
  constructor
  · intro h x hx
    have : (ndiff b w).testBit x = (0 : Nat).testBit x := by rw [h]
    rw [ndiff_bit, Nat.zero_testBit, hx] at this
    simpa using this
  · intro h
    refine Nat.eq_of_testBit_eq fun i => ?_
    rw [ndiff_bit, Nat.zero_testBit]
    cases hb : b.testBit i with
    | false => rfl
    | true => rw [h i hb]; rfl
theorem few2_eq {r : Rp} (h : WR r) : oi (fnd r.2.2 r.1 (2 ^ r.1)) = r_few r := by
  obtain ⟨h8, _, hV, _⟩ := h
  have h256 : 2 ^ r.1 ≤ 2 ^ 8 := Nat.pow_le_pow_right (by omega) h8
  have hF := full_b r.1
  have hwb : r_wound r < 2 ^ r.1 := Nat.lt_of_le_of_lt (lbc_le r.2.2 r.1 8 _) hF
  have hO : ∀ s, isu r.2.2 r.1 s = true ↔ lft r.2.2 r.1 s 0 8 (r_wound r) = 0 := fun s => by
    rw [isu_eq hV h8, decide_eq_true_iff]
    exact out_wound hV h8
  unfold r_few
  generalize hw : r_wound r = w at *
  obtain ⟨o1, o2⟩ := fso_spec (r := r) (w := w) (n := pc_ w / 2 + 1) (m := 0)
  obtain ⟨f1, f2⟩ := fnd_spec (F := r.2.2) (c := r.1) (k := 2 ^ r.1)
  have p8' : ∀ s, s < 2 ^ r.1 → pc_ s = pct s 8 := fun s hs => pc_8 (by omega)
  cases hf : fnd r.2.2 r.1 (2 ^ r.1) with
  | none =>
    cases ho : fso r w (pc_ w / 2 + 1) 0 with
    | none => rfl
    | some b =>
      obtain ⟨i1, i2, i3, _⟩ := o1 b ho
      have := f2 hf b (by omega)
      rw [(hO b).mpr i3] at this
      cases this
  | some b =>
    obtain ⟨b1, b2, b3⟩ := f1 b hf
    have hD := (hO b).mp b2
    -- within what is wound
    have hand : lft r.2.2 r.1 (b &&& w) 0 8 w = 0 := by
      rw [← lft_loc (W := b) (W' := b &&& w) (w := w) (fun x hx => by rw [Nat.testBit_and, hx]; simp) 8 w (fun _ z => z)]
      exact hD
    have hle : b &&& w ≤ b := Nat.and_le_left
    have m1 := b3 (b &&& w) (by omega) ((hO _).mpr hand)
    obtain ⟨a1, a2⟩ := pct_and b w 8
    have hsub : ∀ x, b.testBit x = true → w.testBit x = true := fun x hx => a2 (by omega) x (by have := lt_tb b1 hx; omega) hx
    have hbw : b ≤ w := by
      have : b &&& w = b := Nat.eq_of_testBit_eq fun i => by
        rw [Nat.testBit_and]
        cases hb : b.testBit i with
        | false => rfl
        | true => rw [hsub i hb]; rfl
      rw [← this]
      exact Nat.and_le_right
    -- half is enough
    have hmir : lft r.2.2 r.1 (ndiff w b) 0 8 w = 0 := out_mir hV h8 hwb (fun x hx => by rw [ndiff_bit, hx]; simp) hD
    have m2 := b3 (ndiff w b) (Nat.lt_of_le_of_lt (ndiff_le _ _) hwb) ((hO _).mpr hmir)
    have hs := pct_nd hsub 8
    have pb := p8' b b1
    have pw := p8' w hwb
    cases ho : fso r w (pc_ w / 2 + 1) 0 with
    | none =>
      have := o2 ho b hbw (nd_sub.mpr hsub) hD (Nat.zero_le _)
      omega
    | some b' =>
      obtain ⟨i1, i2, i3, i4⟩ := o1 b' ho
      have q1 := i4 b hbw (nd_sub.mpr hsub) hD (Nat.zero_le _)
      have q2 := b3 b' (by omega) ((hO _).mpr i3)
      have pb' := p8' b' (by omega)
      have : b = b' := by omega
      rw [this]
theorem pretzel_eq {B : Nat} {σ : AS} (hW : WA B σ) (k w : Int) : t_pretzel σ k w = o_pretzel σ k w := by
  unfold t_pretzel o_pretzel AS.on
  split
  · rename_i hk
    have hWr := hW.now.2.2 k.toNat (by omega)
    dsimp only
    rw [few2_eq hWr]
    have e : setT (fun d => isu (σ.now.2.2 k.toNat).2.2 (σ.now.2.2 k.toNat).1 (2 ^ d)) (σ.now.2.2 k.toNat).1 = r_weak (σ.now.2.2 k.toNat) := setT_cg (fun d _ => isu_eq hWr.2.2.1 hWr.1)
    rw [e]
  · rfl
theorem n_pretzel {B : Nat} {σ : AS} {h : HH} (hW : WA B σ) (hM : MR σ h) (k w : Int) : Sp mX11_pretzel [vr 40 0, vi k, vi w] h (MP (o_pretzel σ k w) h) := by
  rw [← pretzel_eq hW]
  exact m_pretzel hW hM k w
