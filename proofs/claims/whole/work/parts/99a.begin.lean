theorem arrV_cong {c : ClassId} {N : Nat} {f g : Nat → Value} (h : ∀ j, j < N → f j = g j) : arrV c N f = arrV c N g := by
  unfold arrV
  congr 1
  exact congrArg _ (funext fun j => h j.val j.isLt)
theorem at_ce {D : va_G} {kc : Nat → ClassId} {ad : Nat → Nat → Nat} {t i a : Nat} {g : Nat → Int} {H : Heap} (h : va_at D vwCl (a, cem kc ad (mkT t i) t i g) H) : va_at D vwCl (a, ce (D, kc, ad) t i g) H := by
  cases ho : ko t with
  | some c =>
    rw [cem_o ho] at h
    rw [ce_o ho]
    have e : ((List.range (nfc c)).map fun k => fvm ad (mkT t i k) t i k (g k)) = (List.range (nfc c)).map fun k => fv ad t i k (g k) := by
      apply List.map_congr_left
      intro k _
      unfold fvm fv mkT
      cases rf t i k <;> rfl
    rw [e] at h
    exact h
  | none =>
    cases ha : ka t with
    | none =>
      have e1 : cem kc ad (mkT t i) t i g = .inr (0, []) := by simp [cem, ho, ha]
      have e2 : ce (D, kc, ad) t i g = .inr (0, []) := by simp [ce, ho, ha]
      rw [e1] at h
      rw [e2]
      exact h
    | some an =>
      obtain ⟨x, n⟩ := an
      by_cases h1 : x ≤ 1
      · rw [cem_i ho ha h1] at h
        rw [ce_i ho ha h1]
        exact h
      · rw [cem_q ho ha h1] at h
        rw [ce_q ho ha h1]
        show H[a]? = some (vp_cell _ _)
        have h : H[a]? = some (vp_cell _ _) := h
        rw [h, vp_cell_q, vp_cell_q]
        congr 1
        apply arrV_cong
        intro j hj
        rw [if_pos ⟨hj, rfl⟩]
def L11 : List Tg := [(40, 0), (41, 0), (42, 0), (43, 0), (44, 0), (45, 0), (46, 0), (47, 0), (48, 0), (49, 0), (50, 0), (51, 0), (52, 0), (53, 0), (54, 0), (55, 0), (56, 0), (57, 0), (58, 0), (59, 0), (60, 0), (61, 0)]
def hX11 : HH := put (put h00 40 0 11 (-1)) 40 0 3 0
def hZ : HH := fun t i k => if 40 ≤ t then hX11 t i k else hX10 t i k
theorem hZ_hi {t i : Nat} (h : 40 ≤ t) : hZ t i = hX11 t i := funext fun k => if_pos h
theorem hZ_lo {t i : Nat} (h : ¬ 40 ≤ t) : hZ t i = hX10 t i := funext fun k => if_neg h
def LZ : List Tg := LX10 ++ L11
theorem cs_in : ∀ q ∈ cs, q ∈ LZ := by
  have h : cs.all (fun q => LZ.contains q) = true := by decide +kernel
  intro q hq
  simpa using List.all_eq_true.mp h q hq
theorem cs_nd : cs.Nodup := by decide +kernel
theorem world_z {D : va_G} {kc : Nat → ClassId} {ad : Nat → Nat → Nat} {A : Nat → Prop} {H : Heap} {h : HH} (hP : va_P D vwCl (wm kc ad mkT h LZ) H) (hD : va_D A (wm kc ad mkT h LZ)) : va_P D vwCl (ws_ (D, kc, ad) h) H ∧ va_D A (ws_ (D, kc, ad) h) := by
  obtain ⟨hP1, hD1⟩ := wm_perm hP hD cs_in cs_nd
  have key : ∀ (k : Nat) (x : Nat × va_E), (ws_ (D, kc, ad) h)[k]? = some x → ∃ y : va_E, (wm kc ad mkT h cs)[k]? = some (x.1, y) ∧ (va_at D vwCl (x.1, y) H → va_at D vwCl x H) := by
    intro k x hx
    cases hq : cs[k]? with
    | none => simp [ws_, List.getElem?_map, hq] at hx
    | some q =>
      have hx : some (ad q.1 q.2, ce (D, kc, ad) q.1 q.2 (h q.1 q.2)) = some x := by
        rw [← hx]
        simp [ws_, List.getElem?_map, hq]
      cases hx
      exact ⟨cem kc ad (mkT q.1 q.2) q.1 q.2 (h q.1 q.2), by simp [wm, List.getElem?_map, hq], at_ce⟩
  refine ⟨fun k x hx => ?_, fun i j x y hx hy e => ?_, fun k x hx => ?_⟩
  · obtain ⟨y, h1, h2⟩ := key k x hx
    exact h2 (hP1 k _ h1)
  · obtain ⟨x1, h1, -⟩ := key i x hx
    obtain ⟨y1, h2, -⟩ := key j y hy
    exact hD1.1 i j _ _ h1 h2 e
  · obtain ⟨y, h1, -⟩ := key k x hx
    exact hD1.2 k (x.1, y) h1
theorem hX10_0 {t i k : Nat} (h1 : ¬ (t = 7 ∧ i = 0 ∧ k = 10)) (h2 : ¬ (t = 0 ∧ i = 0 ∧ k = 12)) : hX10 t i k = 0 := by
  unfold hX10 put
  rw [if_neg h2, if_neg h1]
  rfl
theorem hX11_0 {t i k : Nat} (h1 : ¬ (t = 40 ∧ i = 0 ∧ k = 11)) : hX11 t i k = 0 := by
  unfold hX11 put
  split
  · rfl
  · first | rfl | (rw [if_neg h1]; rfl)
theorem hZ_0 {t i k : Nat} (h1 : ¬ (t = 7 ∧ i = 0 ∧ k = 10)) (h2 : ¬ (t = 0 ∧ i = 0 ∧ k = 12)) (h3 : ¬ (t = 40 ∧ i = 0 ∧ k = 11)) : hZ t i k = 0 := by
  unfold hZ
  split
  · exact hX11_0 h3
  · exact hX10_0 h1 h2
theorem hZ_w : HW hZ := by
  intro t i k
  by_cases h1 : t = 7 ∧ i = 0 ∧ k = 10
  · obtain ⟨rfl, rfl, rfl⟩ := h1
    exact ⟨by decide, by decide⟩
  · by_cases h2 : t = 0 ∧ i = 0 ∧ k = 12
    · obtain ⟨rfl, rfl, rfl⟩ := h2
      exact ⟨by decide, by decide⟩
    · by_cases h3 : t = 40 ∧ i = 0 ∧ k = 11
      · obtain ⟨rfl, rfl, rfl⟩ := h3
        exact ⟨by decide, by decide⟩
      · rw [hZ_0 h1 h2 h3]
        exact ⟨by decide, by decide⟩
def tyZ : Ty := (0, 0, fun _ => (0, 0, fun _ => 0))
def σZ : AS := mkA tyZ false 0 (fun _ => 0) (-1) 0 0 (fun _ => tyZ) 0 (fun _ => (0, 0)) (fun _ => false) (fun _ => tyZ) (fun _ => 0)
theorem σZ_w : WA 99 σZ := ⟨⟨Nat.zero_le _, Nat.zero_le _, fun k hk => absurd hk (Nat.not_lt_zero k)⟩, Nat.zero_le _, fun i hi => absurd hi (Nat.not_lt_zero i), (by decide), Nat.zero_le _, fun i hi => absurd hi (Nat.not_lt_zero i), Nat.zero_le _, fun i _ h => by cases h⟩
theorem σZ_c : CR σZ hZ := ⟨⟨hZ_0 (by omega) (by omega) (by omega), hZ_0 (by omega) (by omega) (by omega), fun k hk => absurd hk (Nat.not_lt_zero k)⟩, hZ_0 (by omega) (by omega) (by omega), hZ_0 (by omega) (by omega) (by omega), hZ_0 (by omega) (by omega) (by omega), fun i hi => absurd hi (Nat.not_lt_zero i), rfl, hZ_0 (by omega) (by omega) (by omega), hZ_0 (by omega) (by omega) (by omega), ⟨0, by omega, hZ_0 (by omega) (by omega) (by omega), fun i hi => absurd hi (Nat.not_lt_zero i)⟩, hZ_0 (by omega) (by omega) (by omega), fun i hi => absurd hi (Nat.not_lt_zero i), (hZ_0 (by omega) (by omega) (by omega)).trans (by rfl), fun i _ h => by cases h⟩
theorem σZ_m : MR σZ hZ := ⟨⟨hZ_0 (by omega) (by omega) (by omega), hZ_0 (by omega) (by omega) (by omega), fun k hk => absurd hk (Nat.not_lt_zero k)⟩, hZ_0 (by omega) (by omega) (by omega), hZ_0 (by omega) (by omega) (by omega), fun i hi => absurd hi (Nat.not_lt_zero i), rfl, hZ_0 (by omega) (by omega) (by omega), hZ_0 (by omega) (by omega) (by omega), fun i hi => absurd hi (Nat.not_lt_zero i), hZ_0 (by omega) (by omega) (by omega), fun i hi => absurd hi (Nat.not_lt_zero i), fun i _ => hZ_0 (by omega) (by omega) (by omega), fun i _ h => by cases h⟩
