/-! the state stays well-formed -/
theorem WTy.mono {B : Nat} {T : Ty} (h : WTy B T) : WTy (B + 1) T := ⟨h.1, by have := h.2.1; omega, h.2.2⟩
theorem WA.mono {B : Nat} {σ : AS} (h : WA B σ) : WA (B + 1) σ := ⟨h.now.mono, h.L, h.tx, h.drawn, h.cnt, fun i hi => (h.hist i hi).mono, h.ents, fun i hi hk => ⟨(h.img i hi hk).1.mono, (h.img i hi hk).2⟩⟩
theorem on_w {B : Nat} {σ : AS} (hW : WA B σ) {k : Int} {F : Nat → Int × AS} (h : ∀ q, q < σ.now.1 → WA B (F q).2) : WA B (σ.on k F).2 := by
  rcases kcase k σ.now.1 with hk | ⟨q, rfl, hk⟩
  · rw [on_no hk]; exact hW
  · rw [on_yes hk]; exact h q hk
theorem two_w {B : Nat} {σ : AS} (hW : WA B σ) {k q : Int} {F : Nat → Nat → Int × AS} (h : ∀ a b, a < σ.now.1 → b < σ.now.1 → WA B (F a b).2) : WA B (σ.two k q F).2 := by
  unfold AS.two
  split
  · exact h _ _ (by omega) (by omega)
  · exact hW
theorem w_feed {B : Nat} {σ : AS} (hW : WA B σ) (l : Int) : WA B (o_feed σ l).2 := by
  unfold o_feed
  split
  · split
    · refine ⟨hW.now, ?_, fun i hi => ?_, hW.drawn, hW.cnt, hW.hist, hW.ents, hW.img⟩
      · show σ.L + 1 ≤ 240
        omega
      · have hi : i < σ.L + 1 := hi
        show un σ.tx σ.L l.toNat i < 256
        by_cases he : i = σ.L
        · rw [he, un_eq]; omega
        · rw [un_ne σ.tx _ he]; exact hW.tx i (by omega)
    · exact hW
  · exact hW
theorem w_tray {B : Nat} {σ : AS} (hW : WA B σ) (hB : 99 ≤ B) : WA B (o_tray σ).2 := by
  unfold o_tray
  cases hr : rgo σ.tx σ.L with
  | inr e => exact ⟨hW.now, Nat.zero_le _, fun i hi => absurd hi (Nat.not_lt_zero i), hW.drawn, hW.cnt, hW.hist, hW.ents, hW.img⟩
  | inl p =>
    dsimp only
    split
    · obtain ⟨k1, k2, k3, k4, k5⟩ := rgo_PK hr
      refine ⟨⟨k3, Nat.le_trans k2 hB, fun k hk => ?_⟩, Nat.zero_le _, fun i hi => absurd hi (Nat.not_lt_zero i), hW.drawn, Nat.zero_le _, fun i hi => absurd hi (Nat.not_lt_zero i), Nat.zero_le _, fun i hi hk => by cases hk⟩
      have hk : k < p.2.2.2.2.1.1 := hk
      obtain ⟨r1, r2, r3⟩ := k4 k hk
      have hm := RT_mny r1
      have hR : RT (2 * ((p.2.2.2.2.1.2 k).1 / 2)) (p.2.2.2.2.1.2 k).2 := by
        rw [show 2 * ((p.2.2.2.2.1.2 k).1 / 2) = (p.2.2.2.2.1.2 k).1 by omega]
        exact r1
      have := RT_WR (s := 0) hR (by omega)
      rw [rsl_00] at this
      exact this
    · exact ⟨hW.now, Nat.zero_le _, fun i hi => absurd hi (Nat.not_lt_zero i), hW.drawn, hW.cnt, hW.hist, hW.ents, hW.img⟩
theorem w_pretzel {B : Nat} {σ : AS} (hW : WA B σ) (k w : Int) : WA B (o_pretzel σ k w).2 := on_w hW (fun _ _ => hW)
theorem w_pass {B : Nat} {σ : AS} (hW : WA B σ) (k w : Int) : WA B (o_pass σ k w).2 := on_w hW (fun _ _ => hW)
theorem w_moves {B : Nat} {σ : AS} (hW : WA B σ) (k w : Int) : WA B (o_moves σ k w).2 := on_w hW (fun _ _ => hW)
theorem w_words {B : Nat} {σ : AS} (hW : WA B σ) (k w : Int) : WA B (o_words σ k w).2 := on_w hW (fun _ _ => hW)
theorem w_colour {B : Nat} {σ : AS} (hW : WA B σ) (k w : Int) : WA B (o_colour σ k w).2 := on_w hW (fun _ _ => hW)
theorem w_same {B : Nat} {σ : AS} (hW : WA B σ) (k w : Int) : WA B (o_same σ k w).2 := two_w hW (fun _ _ _ _ => hW)
theorem w_tells {B : Nat} {σ : AS} (hW : WA B σ) (k w : Int) : WA B (o_tells σ k w).2 := two_w hW (fun _ _ _ _ => hW)
theorem w_within {B : Nat} {σ : AS} (hW : WA B σ) (k w : Int) : WA B (o_within σ k w).2 := on_w hW (fun q _ => by
  split
  · exact hW
  · exact hW)
theorem w_toShake {B : Nat} {σ : AS} (hW : WA B σ) (k w : Int) : WA B (o_toShake σ k w).2 := on_w hW (fun q _ => by
  split
  · exact hW
  · exact hW)
theorem w_whole {B : Nat} {σ : AS} (hW : WA B σ) (k w : Int) : WA B (o_whole σ k w).2 := by
  unfold o_whole
  split
  · exact hW
  · exact hW
theorem w_shake {B : Nat} {σ : AS} (hW : WA B σ) (k c d : Int) : WA B (o_shake σ k c d).2 := on_w hW (fun q hq => by
  split
  · split
    · exact hW.rem.setR (WR_take (hW.now.2.2 q hq))
    · exact hW
  · exact hW)
theorem w_curl {B : Nat} {σ : AS} (hW : WA B σ) (k i : Int) (o : Bool) : WA B (o_curl σ k i o).2 := on_w hW (fun q hq => by
  split
  · split
    · exact hW.rem.setR (WR_curl (hW.now.2.2 q hq) (by assumption) (by omega) (b01_n o).2)
    · exact hW
  · exact hW)
theorem w_turn {B : Nat} {σ : AS} (hW : WA B σ) (k d : Int) : WA B (o_turn σ k d).2 := on_w hW (fun q hq => by
  split
  · exact hW.rem.setR (WR_sw (hW.now.2.2 q hq))
  · exact hW)
theorem w_reverse {B : Nat} {σ : AS} (hW : WA B σ) (k : Int) : WA B (o_reverse σ k).2 := on_w hW (fun q hq => hW.rem.setR (WR_rev (hW.now.2.2 q hq)))
theorem w_mirror {B : Nat} {σ : AS} (hW : WA B σ) (k : Int) : WA B (o_mirror σ k).2 := on_w hW (fun q hq => hW.rem.setR (WR_sw (hW.now.2.2 q hq)))
theorem w_roll {B : Nat} {σ : AS} (hW : WA B σ) (k : Int) : WA B (o_roll σ k).2 := on_w hW (fun q hq => hW.rem.setR (WR_roll (hW.now.2.2 q hq)))
theorem w_join {B : Nat} {σ : AS} (hW : WA B σ) (k q : Int) : WA B (o_join σ k q).2 := two_w hW (fun a b ha hb => by
  split
  · exact (hW.rem.setR (WR_app (hW.now.2.2 a ha) (hW.now.2.2 b hb) (by assumption))).setR WR_plain
  · exact hW)
theorem w_salt {B : Nat} {σ : AS} (hW : WA B σ) (k d : Int) (o : Bool) : WA (B + 1) (o_salt σ k d o).2 := by
  have hM := hW.mono
  refine on_w hM (fun q hq => ?_)
  split
  · rename_i hd
    split
    · exact hM
    · have hr := hW.rem.mono
      have hWr := hW.now.2.2 q hq
      have hn : σ.now.2.1 ≤ B := hW.now.2.1
      have hnew : WR ((σ.now.2.2 q).1, (σ.now.2.2 q).2.1 ^^^ 2 ^ d.toNat, (σ.now.2.2 q).2.2) := by
        refine ⟨hWr.1, ?_, hWr.2.2.1, hWr.2.2.2⟩
        exact Nat.xor_lt_two_pow hWr.2.1 (Nat.pow_lt_pow_right (by omega) (by omega))
      refine ⟨⟨hW.now.1, ?_, fun k' hk' => ?_⟩, hr.L, hr.tx, hr.drawn, hr.cnt, hr.hist, hr.ents, hr.img⟩
      · show (if o then σ.now.2.1 - 1 else σ.now.2.1 + 1) ≤ B + 1
        split <;> omega
      · show WR (un σ.now.2.2 q _ k')
        by_cases he : k' = q
        · rw [he, un_eq]; exact hnew
        · rw [un_ne σ.now.2.2 _ he]; exact hW.now.2.2 k' hk'
  · exact hM
theorem w_drift {B : Nat} {σ : AS} (hW : WA B σ) (n : Int) : WA B (o_drift σ n).2 := by
  unfold o_drift
  split
  · split
    · exact hW.rem.run
    · exact hW
  · exact hW
theorem w_undo {B : Nat} {σ : AS} (hW : WA B σ) : WA B (o_undo σ).2 := by
  unfold o_undo
  split
  · rename_i h0
    refine ⟨hW.hist 0 h0, hW.L, hW.tx, hW.drawn, ?_, fun i hi => ?_, hW.ents, hW.img⟩
    · show σ.cnt - 1 ≤ 16
      have := hW.cnt
      omega
    · have hi : i < σ.cnt - 1 := hi
      exact hW.hist (i + 1) (by omega)
  · exact hW
theorem w_write {B : Nat} {σ : AS} (hW : WA B σ) (k e : Int) : WA B (o_write σ k e).2 := on_w hW (fun q hq => by
  split
  · split
    · refine ⟨hW.now, hW.L, hW.tx, hW.drawn, hW.cnt, hW.hist, ?_, hW.img⟩
      show σ.ents + 1 ≤ 15
      omega
    · exact hW
  · exact hW)
theorem w_tear {B : Nat} {σ : AS} (hW : WA B σ) : WA B (o_tear σ).2 := ⟨hW.now, hW.L, hW.tx, hW.drawn, hW.cnt, hW.hist, Nat.zero_le _, hW.img⟩
theorem w_seed {B : Nat} {σ : AS} (hW : WA B σ) {v : Int} (hv : v < 2147483648) : WA B (o_seed σ v).2 := by
  unfold o_seed
  split
  · exact hW
  · refine ⟨hW.now, hW.L, hW.tx, ?_, hW.cnt, hW.hist, hW.ents, hW.img⟩
    show v.toNat < 2 ^ 31
    omega
theorem w_keep {B : Nat} {σ : AS} (hW : WA B σ) (i : Int) : WA B (o_keep σ i).2 := by
  unfold o_keep
  split
  · refine ⟨hW.now, hW.L, hW.tx, hW.drawn, Nat.zero_le _, fun i hi => absurd hi (Nat.not_lt_zero i), hW.ents, fun j hj hk => ?_⟩
    have hk : un σ.kept i.toNat true j = true := hk
    show WTy B (un σ.img i.toNat σ.now j) ∧ un σ.iseed i.toNat σ.drawn j < 2 ^ 31
    by_cases he : j = i.toNat
    · rw [he, un_eq, un_eq]; exact ⟨hW.now, hW.drawn⟩
    · rw [un_ne _ _ he] at hk
      rw [un_ne _ _ he, un_ne _ _ he]
      exact hW.img j hj hk
  · exact hW
theorem w_goBack {B : Nat} {σ : AS} (hW : WA B σ) (i : Int) : WA B (o_goBack σ i).2 := by
  unfold o_goBack
  split
  · split
    · rename_i h2 h3
      obtain ⟨a, b⟩ := hW.img i.toNat (by omega) h3
      exact ⟨a, hW.L, hW.tx, b, Nat.zero_le _, fun i hi => absurd hi (Nat.not_lt_zero i), hW.ents, hW.img⟩
    · exact hW
  · exact hW
