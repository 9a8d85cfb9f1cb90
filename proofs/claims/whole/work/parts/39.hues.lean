/-! colours, over a rope -/
theorem nodup_len {l : List Nat} {m : Nat} (hn : l.Nodup) (h : ∀ x ∈ l, x < m) : l.length ≤ m := by
  refine fb_holes_ m l.length (fn l) (fun i hi => ?_) (fun i j hij hj he => ?_)
  · rw [fn_lt hi]; exact h _ (List.getElem_mem hi)
  · rw [fn_lt (by omega), fn_lt hj] at he
    have := (List.getElem_inj hn).mp he
    omega
theorem bg_filter (f : Nat → Nat) : ∀ n, bg f n = (((List.range n).map f).filter (fun x => decide (x % 2 = 0))).length
  | 0 => rfl
  | n + 1 => by
    unfold bg
    rw [List.range_succ, List.map_append, List.filter_append, List.length_append, ← bg_filter f n]
    by_cases h : f n % 2 = 0 <;> simp [h]
theorem bg_c {c : Nat} {f : Nat → Nat} (h : VT c f) {n : Nat} (hn : n ≤ 2 * c) : bg f n ≤ c := by
  rw [bg_filter, ← List.length_map (f := fun x => x / 2)]
  refine nodup_len ?_ (fun x hx => ?_)
  · rw [List.Nodup, List.pairwise_map]
    have hd : (((List.range n).map f).filter (fun x => decide (x % 2 = 0))).Nodup := (nodup_map (fun i k hi hk he => h.2 i k (by omega) (by omega) he)).filter _
    refine List.Pairwise.imp_of_mem ?_ hd
    intro a b ha hb hne he
    rw [List.mem_filter] at ha hb
    have h1 := ha.2
    have h2 := hb.2
    simp at h1 h2
    omega
  · rw [List.mem_map] at hx
    obtain ⟨y, hy, rfl⟩ := hx
    rw [List.mem_filter, List.mem_map] at hy
    obtain ⟨⟨i, hi, rfl⟩, _⟩ := hy
    have := h.1 i (by have := List.mem_range.mp hi; omega)
    omega
theorem bg_mono (f : Nat → Nat) {a : Nat} : ∀ {b : Nat}, a ≤ b → bg f a ≤ bg f b
  | 0, h => by rw [show a = 0 by omega]; exact Nat.le_refl _
  | b + 1, h => by
    by_cases he : a = b + 1
    · subst he; exact Nat.le_refl _
    · have := bg_mono f (show a ≤ b by omega)
      have h2 : bg f b ≤ bg f (b + 1) := by
        show bg f b ≤ bg f b + _
        omega
      omega
/-- where the pass v stands -/
def pos (f : Nat → Nat) (v : Nat) : Nat → Nat
  | 0 => 0
  | n + 1 => if f n = v then n else pos f v n
theorem pos_ok {f : Nat → Nat} {v : Nat} : ∀ {n : Nat}, (∃ i, i < n ∧ f i = v) → pos f v n < n ∧ f (pos f v n) = v
  | 0, ⟨i, hi, _⟩ => absurd hi (Nat.not_lt_zero i)
  | n + 1, ⟨i, hi, he⟩ => by
    unfold pos
    split
    · exact ⟨by omega, by assumption⟩
    · rename_i hne
      have := pos_ok (n := n) ⟨i, by
        by_cases hin : i = n
        · subst hin; exact absurd he hne
        · omega, he⟩
      exact ⟨by omega, this.2⟩
def obO (r : Rp) (x : Nat) : Nat := opp r.2.2 (pts r.1) (pos r.2.2 (2 * x + 1) (2 * r.1))
def obB (r : Rp) (x : Nat) : Nat := bg r.2.2 (pos r.2.2 (2 * x) (2 * r.1))
theorem obB_lt {r : Rp} (h : WR r) {x : Nat} (hx : x < r.1) : obB r x < r.1 := by
  obtain ⟨p1, p2⟩ := pos_ok (VT_sur h.2.2.1 (v := 2 * x) (by omega))
  have h1 := bg_c h.2.2.1 (n := pos r.2.2 (2 * x) (2 * r.1) + 1) (by omega)
  have h2 : bg r.2.2 (pos r.2.2 (2 * x) (2 * r.1) + 1) = bg r.2.2 (pos r.2.2 (2 * x) (2 * r.1)) + 1 := by
    show _ + _ = _
    rw [p2, if_pos (by omega)]
  unfold obB
  omega
theorem obO_lt {r : Rp} (h : WR r) {x : Nat} (hx : x < r.1) : obO r x < r.1 := by
  obtain ⟨p1, p2⟩ := pos_ok (VT_sur h.2.2.1 (v := 2 * x + 1) (by omega))
  have h1 := bg_c h.2.2.1 (n := pos r.2.2 (2 * x + 1) (2 * r.1)) (by omega)
  have h2 : pts r.1 = r.1 := if_neg (by omega)
  unfold obO opp
  rw [h2]
  split <;> omega
theorem OB_ok {r : Rp} (h : WR r) : OBok r.2.2 r.1 (obO r) (obB r) := fun x hx => by
  obtain ⟨p1, p2⟩ := pos_ok (VT_sur h.2.2.1 (v := 2 * x + 1) (by omega))
  obtain ⟨q1, q2⟩ := pos_ok (VT_sur h.2.2.1 (v := 2 * x) (by omega))
  have h1 := obO_lt h hx
  have h2 := obB_lt h hx
  have h8 := h.1
  exact ⟨_, _, p1, q1, p2, q2, rfl, rfl, by omega, by omega⟩
def svR (r : Rp) (m : Nat) (V : Nat → Int) : SV := svl r.1 (pts r.1) m (pts r.1) (mx0 (obO r) (obB r) (pts r.1) m, 0, V)
/-- what was there before doesn't count -/
theorem svl_V (c P m : Nat) : ∀ (n : Nat) (A : MT) (rk : Nat) (V V' : Nat → Int), (svl c P m n (A, rk, V)).1 = (svl c P m n (A, rk, V')).1 ∧ (svl c P m n (A, rk, V)).2.1 = (svl c P m n (A, rk, V')).2.1 ∧ ∀ k, k < n ∨ V k = V' k → (svl c P m n (A, rk, V)).2.2 k = (svl c P m n (A, rk, V')).2.2 k
  | 0, A, rk, V, V' => ⟨rfl, rfl, fun k hk => hk.elim (fun h => absurd h (Nat.not_lt_zero k)) id⟩
  | n + 1, A, rk, V, V' => by
    have key : ∀ W : Nat → Int, svl c P m (n + 1) (A, rk, W) = svl c P m n (svs c P m n (A, rk, W)) := fun W => rfl
    rw [key, key]
    unfold svs
    dsimp only
    cases rwt A n (c - rk) rk with
    | none =>
      dsimp only
      obtain ⟨a, b, d⟩ := svl_V c P m n A rk (ui V n (-1)) (ui V' n (-1))
      refine ⟨a, b, fun k hk => d k ?_⟩
      by_cases he : k = n
      · exact Or.inr (by unfold ui; rw [if_pos he, if_pos he])
      · rcases hk with hk | hk
        · exact Or.inl (by omega)
        · exact Or.inr (by unfold ui; rw [if_neg he, if_neg he]; exact hk)
    | some q =>
      dsimp only
      obtain ⟨a, b, d⟩ := svl_V c P m n (clr (scl (exch P A q rk P) rk (fct (exch P A q rk P rk n) m (m - 1) 1) m P) rk n m P c) (rk + 1) (ui V n (rk : Int)) (ui V' n (rk : Int))
      refine ⟨a, b, fun k hk => d k ?_⟩
      by_cases he : k = n
      · exact Or.inr (by unfold ui; rw [if_pos he, if_pos he])
      · rcases hk with hk | hk
        · exact Or.inl (by omega)
        · exact Or.inr (by unfold ui; rw [if_neg he, if_neg he]; exact hk)
/-- how many colourings -/
def r_ways (r : Rp) (m : Nat) : Nat := m ^ (pts r.1 - (svR r m (fun _ => -1)).2.1)
def r_RP (j : Nat) (r : Rp) (h : HH) : Prop := RP j r.1 r.2.2 r.2.1 h
theorem r_RPof {j : Nat} {r : Rp} {h : HH} (hW : WR r) (hR : RH j r h) : RP j r.1 r.2.2 r.2.1 h := by
  obtain ⟨a, b, c⟩ := hR
  obtain ⟨w1, w2, w3, w4⟩ := hW
  have hp : 2 ^ r.1 ≤ 2 ^ 8 := Nat.pow_le_pow_right (by omega) w1
  exact ⟨a, w1, b, by omega, c, fun i hi => by have := w3.1 i hi; omega⟩
theorem y_ways {j : Nat} {r : Rp} {h : HH} (hW : WR r) (hR : RH j r h) (m : Nat) (hm : 2 ≤ m) (hm5 : m ≤ 5) : Sp mX1_waysBy [vr 25 0, vr 5 j, vi m] h (fun z g => z = some (vi (r_ways r m)) ∧ Fr tcl [] h g) := by
  refine Sp.weak (x_waysBy j r.1 r.2.1 m r.2.2 (obO r) (obB r) h (r_RPof hW hR) hW.2.2.1.2 hm hm5 (OB_ok hW)) ?_
  rintro z g ⟨rfl, hF⟩
  refine ⟨?_, hF⟩
  unfold r_ways svR
  rw [(svl_V r.1 (pts r.1) m (pts r.1) _ 0 (h 30 0) (fun _ => -1)).2.1]
def r_col (r : Rp) (p : Nat) : Int := fcl (svR r 3 (fun _ => -1)) (pts r.1) p
theorem frp_cong {V V' : Nat → Int} : ∀ {n : Nat}, (∀ k, k ≤ n → V k = V' k) → frp V n = frp V' n
  | 0, _ => rfl
  | n + 1, h => by
    unfold frp
    rw [h (n + 1) (by omega), frp_cong (fun k hk => h k (by omega))]
theorem y_col {j : Nat} {r : Rp} {h : HH} (hW : WR r) (hR : RH j r h) (d : Int) : Sp mX1_firstColourOf [vr 25 0, vr 5 j, vi d] h (fun z g => z = some (vi (if 0 ≤ d ∧ d < pts r.1 then r_col r d.toNat else -1)) ∧ Fr tcl [] h g) := by
  have ok := svl_ok (c := r.1) (P := pts r.1) (m := 3) (by omega) (pts r.1) (mx0 (obO r) (obB r) (pts r.1) 3, 0, h 30 0) (fun r k _ _ => mx0_lt (by omega) r k) (Nat.zero_le _) (fun k h1 h2 => by omega)
  refine Sp.weak (x_firstColour j r.1 r.2.1 d r.2.2 (obO r) (obB r) h (r_RPof hW hR) hW.2.2.1.2 (OB_ok hW) _ rfl ok.2.2 ok.1) ?_
  rintro z g ⟨rfl, hF⟩
  refine ⟨?_, hF⟩
  by_cases hd : 0 ≤ d ∧ d < pts r.1
  · rw [if_pos hd, if_pos hd]
    unfold r_col svR fcl
    obtain ⟨a, b, e⟩ := svl_V r.1 (pts r.1) 3 (pts r.1) (mx0 (obO r) (obB r) (pts r.1) 3) 0 (h 30 0) (fun _ => -1)
    rw [a, frp_cong (fun k hk => e k (Or.inl (by omega))), e d.toNat (Or.inl (by omega))]
  · rw [if_neg hd, if_neg hd]
