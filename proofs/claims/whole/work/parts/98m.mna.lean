def M26 : List Tg := (26, 0) :: (List.range 8).map fun i => (27, i)
def adM (ad : Nat → Nat → Nat) (h0 : Nat) : Nat → Nat → Nat := fun t i => if t = 26 then h0 else if t = 27 then h0 + 1 + i else ad t i
theorem m26_mem {q : Tg} (h : q ∈ M26) : q = (26, 0) ∨ ∃ i, i < 8 ∧ q = (27, i) := by
  rcases List.mem_cons.mp h with h | h
  · exact Or.inl h
  · obtain ⟨i, hi, rfl⟩ := List.mem_map.mp h
    exact Or.inr ⟨i, List.mem_range.mp hi, rfl⟩
theorem m26_at {k : Nat} {q : Tg} (h : M26[k]? = some q) : (k = 0 ∧ q = (26, 0)) ∨ ∃ i, k = i + 1 ∧ i < 8 ∧ q = (27, i) := by
  cases k with
  | zero => cases h; exact Or.inl ⟨rfl, rfl⟩
  | succ i =>
    right
    have h : ((List.range 8).map fun i => ((27, i) : Tg))[i]? = some q := h
    rw [List.getElem?_map] at h
    by_cases hi : i < 8
    · rw [List.getElem?_range hi] at h
      cases h
      exact ⟨i, rfl, hi, rfl⟩
    · rw [List.getElem?_eq_none (by simp; omega)] at h
      cases h
theorem k_mna {X : KE} {pc x : Nat} {lv : LV} {st : List AV} {F : List Tg} {ms : List (Nat × Nat × Nat)} {h : HH} {L : List Tg} {cells slots : Nat} (C : X.ok) (hd : decode X.code pc = .ok (.multianewarray x 2, 4)) (hcl : Cond.classLink X.own x "[[I" ∈ lw_gd) (hz : ∀ q ∈ X.K ++ L, q.1 ≠ 26 ∧ q.1 ≠ 27) (h0 : ∀ i k, h 27 i k = 0) (hcells : cells + 9 ≤ X.R.cells) (hslots : slots + 72 ≤ X.R.slots) (kk : KJ X (pc + 4) lv (vr 26 0 :: st) (F ++ M26) ms h (L ++ M26) (cells + 1 + 8) (slots + 8 + 8 * 8)) : KJ X pc lv (vi 8 :: vi 8 :: st) F ms h L cells slots := by
  intro ad H locs ls I hP hD hS hl T hT Xs
  obtain ⟨vm₁, cA, comp, fA, fC, X', step⟩ := rw_step Xs C.1 C.2.2.2.1 (C.2.2.2.2.1 _ hcl) C.2.2.2.2.2.2.2.2.2.2 (C.2.2.2.2.1 _ aw_int) (g := F0 X.m pc ls (.int (Int32.ofInt 8) :: .int (Int32.ofInt 8) :: st.map (cv ad))) rfl (by rw [C.2.1]; exact hd) rfl hcells hslots
  have hK := C.2.2.2.2.2.1.1
  have r4 : X.s.vm.findClass ("[" ++ (FieldType.array .int).toString) = some (X.kc 4) := (hK.2 4 (X.kc 4, .array .int) rfl).2
  have r0 : X.s.vm.findClass ("[" ++ FieldType.int.toString) = some (X.kc 0) := (hK.2 0 (X.kc 0, .int) rfl).2
  have hcA : cA = X.kc 4 := Option.some.inj (fA.symm.trans r4)
  have hcc : comp = X.kc 0 := Option.some.inj (fC.symm.trans r0)
  subst hcA hcc
  generalize hF : rwS (T.setVm vm₁) (X.kc 4) (X.kc 0) 8 = S at X' step
  have hTh : (T.setVm vm₁).heap = H := hT
  have f1 := rwS_size (T.setVm vm₁) (X.kc 4) (X.kc 0) 8
  have f2 : _ = some (arrV (X.kc 4) 8 (fun j => va_rf (if j < 8 then some ((T.setVm vm₁).heap.size + 1 + j) else none))) := rwS_out (T.setVm vm₁) (X.kc 4) (X.kc 0) 8
  rw [hF, hTh] at f1 f2
  have hold : ∀ a : Nat, a < H.size → S.heap[a]? = H[a]? := fun a ha => by
    have := rwS_old (T.setVm vm₁) (X.kc 4) (X.kc 0) 8 (a := a) (by rw [hTh]; exact ha)
    rw [hF, hTh] at this
    exact this
  have hrow : ∀ j : Nat, j < 8 → S.heap[H.size + 1 + j]? = some (arrV (X.kc 0) 8 (fun _ => .int 0)) := fun j hj => by
    have := rwS_row (T.setVm vm₁) (X.kc 4) (X.kc 0) hj
    rw [hF, hTh] at this
    exact this
  have aK : ∀ q ∈ X.K ++ L, adM ad H.size q.1 q.2 = ad q.1 q.2 := fun q hq => by
    obtain ⟨z1, z2⟩ := hz q hq
    simp [adM, z1, z2]
  have hnm : ∀ q ∈ L, q ∉ M26 := fun q hq hm => by
    obtain ⟨z1, z2⟩ := hz q (List.mem_append_right _ hq)
    rcases m26_mem hm with rfl | ⟨i, -, rfl⟩
    · exact z1 rfl
    · exact z2 rfl
  have e1 : wm X.kc (adM ad H.size) (mkb (F ++ M26) ms) h L = wm X.kc ad (mkb F ms) h L := wm_ext I.cl (fun _ h => h) aK (fun q hq k _ _ _ => mkb_app (hnm q hq)) (fun _ _ => rfl)
  have eat : ∀ (k : Nat) (y : Nat × va_E), (wm X.kc (adM ad H.size) (mkb (F ++ M26) ms) h M26)[k]? = some y → y.1 = H.size + k ∧ va_at X.D vwCl y S.heap := by
    intro k y hy
    cases hq : M26[k]? with
    | none => simp [wm, List.getElem?_map, hq] at hy
    | some q =>
      have hy : some (adM ad H.size q.1 q.2, cem X.kc (adM ad H.size) (mkb (F ++ M26) ms q.1 q.2) q.1 q.2 (h q.1 q.2)) = some y := by
        rw [← hy]
        simp [wm, List.getElem?_map, hq]
      have hqm : q ∈ M26 := List.mem_of_getElem? hq
      have hT : ∀ k, mkb (F ++ M26) ms q.1 q.2 k = true := fun k => mkb_appT hqm
      rcases m26_at hq with ⟨rfl, rfl⟩ | ⟨i, rfl, hi, rfl⟩
      · cases hy
        refine ⟨by simp [adM], ?_⟩
        rw [cem_q rfl rfl (by decide)]
        show S.heap[adM ad H.size 26 0]? = some (vp_cell _ _)
        rw [vp_cell_q, show adM ad H.size 26 0 = H.size from by simp [adM], f2]
        congr 2
        funext j
        by_cases hj : j < 8
        · rw [if_pos hj, if_pos ⟨hj, hT j⟩]
          rfl
        · rw [if_neg hj, if_neg (fun e => hj e.1)]
      · cases hy
        refine ⟨by simp [adM]; omega, ?_⟩
        rw [cem_i rfl rfl (by decide)]
        show S.heap[adM ad H.size 27 i]? = some (vp_cell _ _)
        rw [vp_cell_i, show adM ad H.size 27 i = H.size + 1 + i from by simp [adM], hrow i hi]
        congr 2
        funext j
        rw [h0]
        rfl
  have eS : wm X.kc (adM ad H.size) (mkb (F ++ M26) ms) h (L ++ M26) = wm X.kc ad (mkb F ms) h L ++ wm X.kc (adM ad H.size) (mkb (F ++ M26) ms) h M26 := by
    rw [← e1]
    exact List.map_append
  have hA : ∀ q, X.s.heap.size ≤ q → X.A q := C.2.2.2.2.2.2.1
  have hP1 : va_P X.D vwCl (wm X.kc (adM ad H.size) (mkb (F ++ M26) ms) h (L ++ M26)) S.heap := by
    rw [eS]
    exact (hP.kept (fun k y hy => hold y.1 ((hP k y hy).lt))).app (fun k y hy => (eat k y hy).2)
  have hD1 : va_D X.A (wm X.kc (adM ad H.size) (mkb (F ++ M26) ms) h (L ++ M26)) := by
    rw [eS]
    refine va_D.app hD ⟨fun i j a b ha hb e => ?_, fun k y hy => ?_⟩ (fun i j a b ha hb e => ?_)
    · have := (eat i a ha).1
      have := (eat j b hb).1
      omega
    · rw [(eat k y hy).1]
      exact hA _ (Nat.le_trans hS.1 (Nat.le_add_right _ _))
    · have h1 := (hP i a ha).lt
      have h2 := (eat j b hb).1
      omega
  have hS1 : va_S X.A X.s.heap S.heap locs := ⟨Nat.le_trans hS.1 (by rw [f1]; omega), fun q h1 h2 => by rw [hold q (Nat.lt_of_lt_of_le h1 hS.1)]; exact hS.2.1 q h1 h2, hS.2.2⟩
  have ap : ∀ q ∈ X.K ++ L, q ∈ X.K ++ (L ++ M26) := fun q hq => by rw [← List.append_assoc]; exact List.mem_append_left _ hq
  have J : KI X lv (vr 26 0 :: st) (F ++ M26) ms (L ++ M26) (adM ad H.size) := by
    refine ⟨fun q hq => (aK q (List.mem_append_left _ hq)).trans (I.an q hq), fun q hq => okv_mono ap (I.lo q hq), fun v hv => ?_, fun q hq => ?_, fun q hq => List.mem_append_left _ (I.sl q hq), fun q hq k hk hm r hr => ?_⟩
    · rcases List.mem_cons.mp hv with rfl | hv
      · exact List.mem_append_right _ (List.mem_append_right _ List.mem_cons_self)
      · exact okv_mono ap (I.tl.tl.st v hv)
    · rcases List.mem_append.mp hq with hq | hq
      · exact List.mem_append_left _ (I.fi q hq)
      · exact List.mem_append_right _ hq
    · by_cases hqm : q ∈ M26
      · rcases m26_mem hqm with rfl | ⟨i, hi, rfl⟩
        · have hk : k < 8 := hk
          cases hr
          exact List.mem_append_right _ (List.mem_append_right _ (List.mem_cons_of_mem _ (List.mem_map.mpr ⟨k, List.mem_range.mpr hk, rfl⟩)))
        · cases hr
      · rw [mkb_app hqm] at hm
        rcases List.mem_append.mp hq with hq | hq
        · exact ap r (I.cl q hq k hk hm r hr)
        · exact absurd hq hqm
  have K := kk (adM ad H.size) S.heap locs ls J hP1 hD1 hS1 (by rw [lvc_cv aK I.lo]; exact hl)
  rw [List.map_cons, map_cv aK I.tl.tl.st, show cv (adM ad H.size) (vr 26 0) = .ref H.size from by simp [cv, vr, adM]] at K
  obtain ⟨t2, a1, b1⟩ := K S rfl X'
  refine ⟨t2, step t2 ?_, b1⟩
  rw [hT]
  exact a1
