/-! switched ropes -/
theorem tr_sw (f : Nat → Nat) (S W : Nat) : ∀ n, tr_ f S W n = tr_ (swf f W) S 0 n
  | 0 => rfl
  | n + 1 => by
    show (if S.testBit (f n / 2) then tr_ f S W n ++ [swf f W n] else tr_ f S W n) = (if S.testBit (swf f W n / 2) then tr_ (swf f W) S 0 n ++ [swf (swf f W) 0 n] else tr_ (swf f W) S 0 n)
    rw [swf_div, swf0, tr_sw f S W n]
theorem cls_sw (f : Nat → Nat) (c S W : Nat) : cls f c S W = cls (swf f W) c S 0 := by
  unfold cls Lr
  rw [tr_sw]
theorem mls_sw (f : Nat → Nat) (c S W H : Nat) : mls f c S W H = mls (swf f W) c S 0 H := by
  unfold mls
  rw [cls_sw]
  unfold Lr
  rw [tr_sw]
theorem lft_sw (f : Nat → Nat) (c W H : Nat) : ∀ n S, lft f c W H n S = lft (swf f W) c 0 H n S
  | 0, S => rfl
  | n + 1, S => by
    have e : lstep f c W H S = lstep (swf f W) c 0 H S := by
      unfold lstep
      rw [cls_sw, mls_sw]
    show (if mls f c S W H = [] then S else lft f c W H n (lstep f c W H S)) = (if mls (swf f W) c S 0 H = [] then S else lft (swf f W) c 0 H n (lstep (swf f W) c 0 H S))
    rw [mls_sw, e, lft_sw f c W H n]
theorem pc_0 {S c : Nat} (h8 : c ≤ 8) (hS : S < 2 ^ c) : pc_ S = 0 ↔ S = 0 := by
  constructor
  · intro h
    refine Nat.eq_of_testBit_eq fun i => ?_
    rw [Nat.zero_testBit]
    cases hb : S.testBit i with
    | false => rfl
    | true =>
      have hi := lt_tb hS hb
      have h1 := pct_rm1 (k := 32) hb (by omega)
      unfold pc_ at h
      omega
  · intro h
    rw [h]
    decide
theorem lft_b {f : Nat → Nat} {c W H n S : Nat} (hS : S < 2 ^ c) : lft f c W H n S < 2 ^ c := Nat.lt_of_le_of_lt (lft_le f c W H n S) hS
theorem full_b (c : Nat) : 2 ^ c - 1 < 2 ^ c := by
  have : 0 < 2 ^ c := Nat.pow_pos (by omega)
  omega
theorem isu_eq {F : Nat → Nat} {c S : Nat} (hV : VT c F) (h8 : c ≤ 8) : isu F c S = decide (lft F c S 0 8 (2 ^ c - 1) = 0) := by
  unfold isu
  rw [few_eq (VT_swf hV) h8, lft_sw F c S 0]
  have := pc_0 h8 (lft_b (f := swf F S) (W := 0) (H := 0) (n := 8) (full_b c))
  by_cases h : lft (swf F S) c 0 0 8 (2 ^ c - 1) = 0
  · rw [decide_eq_true h, decide_eq_true (by rw [this.mpr h]; rfl)]
  · rw [decide_eq_false h, decide_eq_false (fun z => h (this.mp (by omega)))]
theorem tfew_eq {r : Rp} (h : WR r) : t_few r = (r_fewu r : Int) := few_eq h.2.2.1 h.1
theorem tells_eq {B : Nat} {σ : AS} (hW : WA B σ) (k q : Int) : t_tells σ k q = o_tells σ k q := by
  unfold t_tells o_tells AS.two
  split
  · rename_i ht
    have ha := hW.now.2.2 k.toNat (by omega)
    have hb := hW.now.2.2 q.toNat (by omega)
    dsimp only
    rw [tfew_eq ha, tfew_eq hb]
    congr 2
    by_cases h : r_fewu (σ.now.2.2 k.toNat) = r_fewu (σ.now.2.2 q.toNat)
    · rw [if_pos h, if_pos (by omega)]
    · rw [if_neg h, if_neg (by omega)]
  · rfl
theorem n_tells {B : Nat} {σ : AS} {h : HH} (hW : WA B σ) (hM : MR σ h) (k q : Int) : Sp mX11_tells [vr 40 0, vi k, vi q] h (MP (o_tells σ k q) h) := by
  rw [← tells_eq hW]
  exact m_tells hW hM k q
theorem setT_cg {p q : Nat → Bool} : ∀ {n : Nat}, (∀ k, k < n → p k = q k) → setT p n = setT q n
  | 0, _ => rfl
  | n + 1, h => by
    show (if p n then setT p n ||| 2 ^ n else setT p n) = (if q n then setT q n ||| 2 ^ n else setT q n)
    rw [h n (by omega), setT_cg (n := n) (fun k hk => h k (by omega))]
/-! salt holds -/
theorem mls_H {G : Nat → Nat} {c S H v x : Nat} (hV : VT c G) (hS : S < 2 ^ c) (hv : v ∈ mls G c S 0 H) (hx : H.testBit x = true) (hxS : S.testBit x = true) : (ndiff S (tkb v)).testBit x = true := by
  obtain ⟨a, b, h1, h2, h3, h4, h5⟩ := mpre_mem.mp hv
  rw [mvp_rmv hV hS] at h4
  obtain ⟨_, _, i3, i4⟩ := imv_S h4
  rw [h5, tkb_rm h2]
  refine rm_tb.mpr ⟨hxS, fun z => ?_, fun z => ?_⟩
  · rw [← z, hx] at i3; cases i3
  · rw [← z, hx] at i4; cases i4
theorem lft_H {G : Nat → Nat} {c H x : Nat} (hV : VT c G) (hx : H.testBit x = true) : ∀ n S, S < 2 ^ c → S.testBit x = true → (lft G c 0 H n S).testBit x = true
  | 0, S, _, h => h
  | n + 1, S, hS, h => by
    show (if mls G c S 0 H = [] then S else lft G c 0 H n (lstep G c 0 H S)).testBit x = true
    split
    · exact h
    · rename_i hm
      refine lft_H hV hx n _ (Nat.lt_of_le_of_lt (lstep_le G c 0 H S) hS) ?_
      unfold lstep
      split
      · rw [ndiff_bit, ndiff_bit, h, hx]
        simp
      · obtain ⟨a, b, _, _, _, h4, h5⟩ := mls_0 hm
        rw [h4]
        exact mls_H hV hS h5 hx h
theorem pc_pos {S x : Nat} (hx : x < 32) (h : S.testBit x = true) : 0 < pc_ S := by
  have := pct_rm1 (k := 32) h hx
  unfold pc_
  omega
theorem out_eq {r : Rp} (h : WR r) : decide ((r_try r (fun _ => 0)).2.1 = 0) = decide (r_left r 0 r.2.1 = 0) := by
  obtain ⟨c, s, F⟩ := r
  obtain ⟨h8, hs, hV, _⟩ := h
  dsimp only at h8 hs hV
  show decide ((r_try (c, s, F) (fun _ => 0)).2.1 = 0) = decide (lft F c 0 s 8 (2 ^ c - 1) = 0)
  by_cases h0 : s = 0
  · subst h0
    rw [few_eq hV h8]
    have := pc_0 h8 (lft_b (f := F) (W := 0) (H := 0) (n := 8) (full_b c))
    by_cases hz : lft F c 0 0 8 (2 ^ c - 1) = 0
    · rw [decide_eq_true hz, decide_eq_true (by rw [this.mpr hz]; rfl)]
    · rw [decide_eq_false hz, decide_eq_false (fun z => hz (this.mp (by omega)))]
  · obtain ⟨x, hx⟩ : ∃ x, s.testBit x = true := Classical.byContradiction fun hn => h0 (Nat.eq_of_testBit_eq fun i => by
      rw [Nat.zero_testBit]
      cases hb : s.testBit i with
      | false => rfl
      | true => exact absurd ⟨i, hb⟩ hn)
    have hxc := lt_tb hs hx
    have hxF := tb_all hxc
    have e1 : ¬ lft F c 0 s 8 (2 ^ c - 1) = 0 := fun z => by
      have := lft_H hV hx 8 _ (full_b c) hxF
      rw [z, Nat.zero_testBit] at this
      cases this
    rw [decide_eq_false e1]
    refine decide_eq_false fun z => ?_
    rw [r_try_wta] at z
    obtain ⟨x0a, x0b⟩ := x00_v (2 ^ c - 1) (fun _ => 0)
    have snd := fta_sound (f := F) (c := c) (s := s) (a := 2 ^ c - 1) (Good := fun T => T < 2 ^ c ∧ T.testBit x = true) (fun S v hS hv => ⟨Nat.lt_of_le_of_lt (ndiff_le _ _) hS.1, mls_H hV hS.1 hv hx hS.2⟩) (n := 2 ^ c) (x := x00 (2 ^ c - 1) (fun _ => 0)) x0a (fun T hT => by
      rw [(x0b T).mp hT]
      exact ⟨full_b c, hxF⟩)
    obtain ⟨_, _, w3⟩ := wta_few (fta F c s (2 ^ c - 1) (2 ^ c) (x00 (2 ^ c - 1) (fun _ => 0))) (2 ^ c) (0, (c : Int), 0, -1)
    rcases w3 with e | ⟨T, _, t2, t3⟩
    · rw [z] at e
      have e : (0 : Int) = (c : Int) := e
      omega
    · rw [z] at t3
      have := pc_pos (by omega) (snd T t2).2
      omega
theorem told_eq {B : Nat} {σ : AS} (hW : WA B σ) (w : Int) : (t_told σ w, σ) = o_told σ w := by
  have e : σ.outs2 = σ.outs := by
    unfold AS.outs2 AS.outs
    refine setT_cg (fun k hk => ?_)
    exact out_eq (hW.now.2.2 k hk)
  unfold t_told o_told
  rw [e]
theorem n_told {B : Nat} {σ : AS} {h : HH} (hW : WA B σ) (hM : MR σ h) (w : Int) : Sp mX11_told [vr 40 0, vi w] h (MP (o_told σ w) h) := by
  rw [← told_eq hW]
  exact m_told hW hM w
