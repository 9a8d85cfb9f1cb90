theorem rf_vt {t i k : Nat} {q : Nat × Nat} (hv : vt t i) (hk : ∀ an, ka t = some an → k < an.2) (h : rf t i k = some q) : vt q.1 q.2 := by
  obtain ⟨-, hi⟩ := hv
  unfold rf at h
  split at h <;> (try split at h) <;> first | (cases h; done) | (cases h; refine ⟨by simp [tg_all], ?_⟩; first | decide | (have hk' := hk _ rfl; simp only [cnt] at hi ⊢; first | omega | (dsimp only at hk'; omega)) | (simp only [cnt] at hi ⊢; omega))
theorem ci_all : ∀ (c : Nat) (q : vw_C), vwCl[c]? = some q → (∀ w ∈ u_ws q.1 q.2.1 q.2.2, w ∈ lw_gd) ∧ (∃ ty : Nat → FieldType, ∀ k, k < q.2.2 → parseFieldDescriptor (q.2.1 k).2.2.1 = some (ty k)) ∧ (∀ a, a < q.2.2 → ∀ b, b < q.2.2 → a ≠ b → (q.2.1 a).2.1 ≠ (q.2.1 b).2.1) := by
  intro c q hq
  match c, hq with
  | 0, hq => cases hq; exact ⟨by decide +kernel, ⟨_, tyX0_ok⟩, nmX0⟩
  | 1, hq => cases hq; exact ⟨by decide +kernel, ⟨_, tyX1_ok⟩, nmX1⟩
  | 2, hq => cases hq; exact ⟨by decide +kernel, ⟨_, tyX2_ok⟩, nmX2⟩
  | 3, hq => cases hq; exact ⟨by decide +kernel, ⟨_, tyX3_ok⟩, nmX3⟩
  | 4, hq => cases hq; exact ⟨by decide +kernel, ⟨_, tyX4_ok⟩, nmX4⟩
  | 5, hq => cases hq; exact ⟨by decide +kernel, ⟨_, tyX5_ok⟩, nmX5⟩
  | 6, hq => cases hq; exact ⟨by decide +kernel, ⟨_, tyX6_ok⟩, nmX6⟩
  | 7, hq => cases hq; exact ⟨by decide +kernel, ⟨_, tyX7_ok⟩, nmX7⟩
  | 8, hq => cases hq; exact ⟨by decide +kernel, ⟨_, tyX8_ok⟩, nmX8⟩
  | 9, hq => cases hq; exact ⟨by decide +kernel, ⟨_, tyX9_ok⟩, nmX9⟩
  | 10, hq => cases hq; exact ⟨by decide +kernel, ⟨_, tyX10_ok⟩, nmX10⟩
  | 11, hq => cases hq; exact ⟨by decide +kernel, ⟨_, tyX11_ok⟩, nmX11⟩
  | c + 12, hq => simp [vwCl] at hq
def fl (own : String) (x ci kf : Nat) : Prop := ∃ q : vw_C, vwCl[ci]? = some q ∧ kf < q.2.2 ∧ Cond.fieldLink own x (q.2.1 kf).1 (q.2.1 kf).2.1 (q.2.1 kf).2.2.1 ∈ lw_gd
def fp (own : String) (x ci kf : Nat) (ty : FieldType) : Prop := ∃ q : vw_C, vwCl[ci]? = some q ∧ kf < q.2.2 ∧ Cond.fieldLink own x (q.2.1 kf).1 (q.2.1 kf).2.1 (q.2.1 kf).2.2.1 ∈ lw_gd ∧ (q.2.1 kf).2.2.2 = false ∧ parseFieldDescriptor (q.2.1 kf).2.2.1 = some ty
theorem nfc_of {c : Nat} {q : vw_C} (h : vwCl[c]? = some q) : nfc c = q.2.2 := by simp [nfc, h]
theorem ce_o {G : GG} {t i c : Nat} {g : Nat → Int} (h : ko t = some c) : ce G t i g = .inr (c, (List.range (nfc c)).map fun k => fv G.2.2 t i k (g k)) := by simp [ce, h]
theorem ce_i {G : GG} {t i a n : Nat} {g : Nat → Int} (h : ko t = none) (h2 : ka t = some (a, n)) (h3 : a ≤ 1) : ce G t i g = .inl (G.2.1 a, n, .inl fun k => Int32.ofInt (g k)) := by simp [ce, h, h2, h3]
theorem ce_q {G : GG} {t i a n : Nat} {g : Nat → Int} (h : ko t = none) (h2 : ka t = some (a, n)) (h3 : ¬ a ≤ 1) : ce G t i g = .inl (G.2.1 a, n, .inr (.inr (.inr (.inr fun k => (rf t i k).map fun q => G.2.2 q.1 q.2)))) := by simp [ce, h, h2, h3]
theorem put_same (h : HH) (t i k : Nat) (v : Int) : put h t i k v t i k = v := by simp [put]
theorem put_at (h : HH) (t i k : Nat) (v : Int) (j : Nat) : put h t i k v t i j = if j = k then v else h t i j := by simp [put]
theorem put_oc (h : HH) (t i k : Nat) (v : Int) (t' i' : Nat) (hne : ¬ (t' = t ∧ i' = i)) : put h t i k v t' i' = h t' i' := by
  funext j
  unfold put
  rw [if_neg (fun q => hne ⟨q.1, q.2.1⟩)]
theorem ce_put {G : GG} {t i c kf : Nat} {h : HH} {a : Int} (ho : ko t = some c) (hr : rf t i kf = none) : ce G t i (put h t i kf a t i) = .inr (c, ((List.range (nfc c)).map fun k => fv G.2.2 t i k (h t i k)).set kf (.int (Int32.ofInt a))) := by
  rw [ce_o ho]
  congr 2
  apply List.ext_getElem?
  intro j
  rw [List.getElem?_set]
  by_cases hj : kf = j
  · subst hj
    by_cases hl : kf < nfc c
    · simp [hl, fv, hr, put_at]
    · simp [hl]
  · rw [if_neg hj]
    by_cases hl : j < nfc c
    · simp [hl, put_at, Ne.symm hj]
    · simp [hl]
theorem ce_putA {G : GG} {t i a n k : Nat} {h : HH} {x : Int} (ho : ko t = none) (h2 : ka t = some (a, n)) (h3 : a ≤ 1) : ce G t i (put h t i k x t i) = .inl (G.2.1 a, n, .inl (upd (fun j => Int32.ofInt (h t i j)) k (Int32.ofInt x))) := by
  rw [ce_i ho h2 h3]
  congr 4
  funext j
  rw [put_at, upd]
  split <;> rfl
section AWH
variable {M : MD} {P : Option AV → HH → Prop} {lv : LV} {st : List AV} {h : HH} {k pc np tg t i : Nat}
theorem a_geti {x ci kf : Nat} (hd : (tb M)[k]? = some (pc, .getfield x, 3, np, tg)) (hf : fl M.1.cls x ci kf) (ho : ko t = some ci) (hr : rf t i kf = none) (kk : AW M P np lv (vi (h t i kf) :: st) h) : AW M P pc lv (vr t i :: st) h := by
  intro l p e s m args below meth c G A C hl hs hw H locs ls hP hD hS hv
  obtain ⟨d1, rfl, d3, d4⟩ := ok_at C.2.2.2.2.2.2.2.2.1 hd
  obtain ⟨r1, hs⟩ := rg_c hs
  have r1 : vt t i := r1
  obtain ⟨q, hq, hk, hlk⟩ := hf
  obtain ⟨k0, h1, h2⟩ := ws_at (G := G) (h := h) r1
  rw [ce_o ho] at h2
  refine va_get (D := G.1) (v := .int (Int32.ofInt (h t i kf))) C.1 C.2.1 (fun w hw => C.2.2.2.2.2.1 w (List.mem_cons_of_mem _ hw)) (ci_all ci q hq).1 C.2.2.2.2.1 C.2.2.2.2.2.2.2.1.1 hP k0 h2 hq kf hk (C.2.2.2.2.2.1 _ (List.mem_cons_of_mem _ hlk)) (fun _ z => z) ?_ d1 ?_
  · simp [nfc_of hq, hk, fv, hr]
  exact kk l p e s m args below meth c G A C hl (rg_k (hw t i kf) hs) hw H locs ls hP hD hS hv
theorem a_getr {x ci kf t' i' : Nat} (hd : (tb M)[k]? = some (pc, .getfield x, 3, np, tg)) (hf : fl M.1.cls x ci kf) (ho : ko t = some ci) (hka : ka t = none) (hr : rf t i kf = some (t', i')) (kk : AW M P np lv (vr t' i' :: st) h) : AW M P pc lv (vr t i :: st) h := by
  intro l p e s m args below meth c G A C hl hs hw H locs ls hP hD hS hv
  obtain ⟨d1, rfl, d3, d4⟩ := ok_at C.2.2.2.2.2.2.2.2.1 hd
  obtain ⟨r1, hs⟩ := rg_c hs
  have r1 : vt t i := r1
  obtain ⟨q, hq, hk, hlk⟩ := hf
  obtain ⟨k0, h1, h2⟩ := ws_at (G := G) (h := h) r1
  rw [ce_o ho] at h2
  refine va_get (D := G.1) (v := .ref (G.2.2 t' i')) C.1 C.2.1 (fun w hw => C.2.2.2.2.2.1 w (List.mem_cons_of_mem _ hw)) (ci_all ci q hq).1 C.2.2.2.2.1 C.2.2.2.2.2.2.2.1.1 hP k0 h2 hq kf hk (C.2.2.2.2.2.1 _ (List.mem_cons_of_mem _ hlk)) (fun _ z => z) ?_ d1 ?_
  · simp [nfc_of hq, hk, fv, hr]
  exact kk l p e s m args below meth c G A C hl (rg_k (rf_vt r1 (fun an h9 => by rw [hka] at h9; cases h9) hr) hs) hw H locs ls hP hD hS hv
theorem put_core {ty : FieldType} {x ci kf : Nat} {a : Int} (hd : (tb M)[k]? = some (pc, .putfield x, 3, np, tg)) (hf : fp M.1.cls x ci kf ty) (ho : ko t = some ci) (hr : rf t i kf = none) (hn : narrow ty (.int (Int32.ofInt a)) = .int (Int32.ofInt a)) (hfit : fits ty (.int (Int32.ofInt a)) = true) (kk : AW M P np lv st (put h t i kf a)) : AW M P pc lv (vi a :: vr t i :: st) h := by
  intro l p e s m args below meth c G A C hl hs hw H locs ls hP hD hS hv
  obtain ⟨d1, rfl, d3, d4⟩ := ok_at C.2.2.2.2.2.2.2.2.1 hd
  obtain ⟨r0, hs⟩ := rg_c hs
  obtain ⟨r1, hs⟩ := rg_c hs
  have r1 : vt t i := r1
  obtain ⟨q, hq, hk, hlk, hfin, hty⟩ := hf
  obtain ⟨k0, h1, h2⟩ := ws_at (G := G) (h := h) r1
  rw [ce_o ho] at h2
  obtain ⟨w1, ⟨ty0, w2⟩, w3⟩ := ci_all ci q hq
  refine va_put (D := G.1) (v := .int (Int32.ofInt a)) C.1 C.2.1 (fun w hw => C.2.2.2.2.2.1 w (List.mem_cons_of_mem _ hw)) w1 ty0 w2 w3 C.2.2.2.2.1 C.2.2.2.2.2.2.2.1.1 hP hD hS k0 h2 hq kf hk (C.2.2.2.2.2.1 _ (List.mem_cons_of_mem _ hlk)) (fun _ z => z) hfin hty hn hfit ?_ d1 (fun H1 locs1 hP1 hD1 hS1 => ?_)
  · simp [nfc_of hq, hk]
  rw [← ce_put (G := G) (h := h) (a := a) ho hr, ws_set hD h1 (put_oc h t i kf a)] at hP1 hD1
  exact kk l p e s m args below meth c G A C hl hs (put_wf hw r0) H1 locs1 ls hP1 hD1 hS1 hv
theorem a_puti {x ci kf : Nat} {a : Int} (hd : (tb M)[k]? = some (pc, .putfield x, 3, np, tg)) (hf : fp M.1.cls x ci kf .int) (ho : ko t = some ci) (hr : rf t i kf = none) (kk : AW M P np lv st (put h t i kf a)) : AW M P pc lv (vi a :: vr t i :: st) h := put_core hd hf ho hr rfl rfl kk
theorem a_putz {x ci kf : Nat} {a : Int} (hd : (tb M)[k]? = some (pc, .putfield x, 3, np, tg)) (hf : fp M.1.cls x ci kf .boolean) (ho : ko t = some ci) (hr : rf t i kf = none) (hz : a = 0 ∨ a = 1) (kk : AW M P np lv st (put h t i kf a)) : AW M P pc lv (vi a :: vr t i :: st) h := by
  refine put_core hd hf ho hr ?_ ?_ kk
  · rcases hz with rfl | rfl <;> rfl
  · rcases hz with rfl | rfl <;> rfl
theorem tk_at {G : GG} {a : Nat} (ha : a ≤ 4) : ∃ ty, (tk G)[a]? = some (G.2.1 a, ty) := by
  match a, ha with
  | 0, _ => exact ⟨_, rfl⟩
  | 1, _ => exact ⟨_, rfl⟩
  | 2, _ => exact ⟨_, rfl⟩
  | 3, _ => exact ⟨_, rfl⟩
  | 4, _ => exact ⟨_, rfl⟩
theorem a_iald {n : Nat} {j : Int} (hd : (tb M)[k]? = some (pc, .iaload, 1, np, tg)) (ho : ko t = none) (hk : ka t = some (0, n)) (h0 : 0 ≤ j) (h1 : j < n) (kk : AW M P np lv (vi (h t i j.toNat) :: st) h) : AW M P pc lv (vi j :: vr t i :: st) h := by
  intro l p e s m args below meth c G A C hl hs hw H locs ls hP hD hS hv
  obtain ⟨d1, rfl, d3, d4⟩ := ok_at C.2.2.2.2.2.2.2.2.1 hd
  obtain ⟨r0, hs⟩ := rg_c hs
  obtain ⟨r1, hs⟩ := rg_c hs
  have r1 : vt t i := r1
  obtain ⟨k0, q1, q2⟩ := ws_at (G := G) (h := h) r1
  rw [ce_i ho hk (Nat.zero_le 1)] at q2
  refine va_iald C.1 C.2.1 C.2.2.2.2.2.2.2.1.1 hP k0 0 q2 rfl (in_of r0 h0 h1) d1 ?_
  rw [clamp3 r0]
  exact kk l p e s m args below meth c G A C hl (rg_k (hw t i _) hs) hw H locs ls hP hD hS hv
theorem a_bald {n : Nat} {j : Int} (hd : (tb M)[k]? = some (pc, .baload, 1, np, tg)) (ho : ko t = none) (hk : ka t = some (1, n)) (h0 : 0 ≤ j) (h1 : j < n) (kk : AW M P np lv (vi (h t i j.toNat) :: st) h) : AW M P pc lv (vi j :: vr t i :: st) h := by
  intro l p e s m args below meth c G A C hl hs hw H locs ls hP hD hS hv
  obtain ⟨d1, rfl, d3, d4⟩ := ok_at C.2.2.2.2.2.2.2.2.1 hd
  obtain ⟨r0, hs⟩ := rg_c hs
  obtain ⟨r1, hs⟩ := rg_c hs
  have r1 : vt t i := r1
  obtain ⟨k0, q1, q2⟩ := ws_at (G := G) (h := h) r1
  rw [ce_i ho hk (Nat.le_refl 1)] at q2
  refine va_bald C.1 C.2.1 C.2.2.2.2.2.2.2.1.1 hP k0 1 q2 rfl (in_of r0 h0 h1) d1 ?_
  rw [clamp3 r0]
  exact kk l p e s m args below meth c G A C hl (rg_k (hw t i _) hs) hw H locs ls hP hD hS hv
theorem a_iast {n : Nat} {j a : Int} (hd : (tb M)[k]? = some (pc, .iastore, 1, np, tg)) (ho : ko t = none) (hk : ka t = some (0, n)) (h0 : 0 ≤ j) (h1 : j < n) (kk : AW M P np lv st (put h t i j.toNat a)) : AW M P pc lv (vi a :: vi j :: vr t i :: st) h := by
  intro l p e s m args below meth c G A C hl hs hw H locs ls hP hD hS hv
  obtain ⟨d1, rfl, d3, d4⟩ := ok_at C.2.2.2.2.2.2.2.2.1 hd
  obtain ⟨ra, hs⟩ := rg_c hs
  obtain ⟨r0, hs⟩ := rg_c hs
  obtain ⟨r1, hs⟩ := rg_c hs
  have r1 : vt t i := r1
  obtain ⟨k0, q1, q2⟩ := ws_at (G := G) (h := h) r1
  rw [ce_i ho hk (Nat.zero_le 1)] at q2
  refine va_iast C.1 C.2.1 C.2.2.2.2.2.2.2.1.1 hP hD hS k0 0 q2 rfl (in_of r0 h0 h1) d1 (fun H1 locs1 hP1 hD1 hS1 => ?_)
  rw [clamp3 r0, ← ce_putA (G := G) (h := h) (x := a) ho hk (Nat.zero_le 1), ws_set hD q1 (put_oc h t i _ a)] at hP1 hD1
  exact kk l p e s m args below meth c G A C hl hs (put_wf hw ra) H1 locs1 ls hP1 hD1 hS1 hv
theorem a_bast {n : Nat} {j a : Int} (hd : (tb M)[k]? = some (pc, .bastore, 1, np, tg)) (ho : ko t = none) (hk : ka t = some (1, n)) (h0 : 0 ≤ j) (h1 : j < n) (kk : AW M P np lv st (put h t i j.toNat (sb a))) : AW M P pc lv (vi a :: vi j :: vr t i :: st) h := by
  intro l p e s m args below meth c G A C hl hs hw H locs ls hP hD hS hv
  obtain ⟨d1, rfl, d3, d4⟩ := ok_at C.2.2.2.2.2.2.2.2.1 hd
  obtain ⟨ra, hs⟩ := rg_c hs
  obtain ⟨r0, hs⟩ := rg_c hs
  obtain ⟨r1, hs⟩ := rg_c hs
  have r1 : vt t i := r1
  obtain ⟨k0, q1, q2⟩ := ws_at (G := G) (h := h) r1
  rw [ce_i ho hk (Nat.le_refl 1)] at q2
  refine va_bast C.1 C.2.1 C.2.2.2.2.2.2.2.1.1 hP hD hS k0 1 q2 rfl (in_of r0 h0 h1) d1 (fun H1 locs1 hP1 hD1 hS1 => ?_)
  rw [clamp3 r0, vp_nar_byte, ← cv_sb, ← ce_putA (G := G) (h := h) (x := sb a) ho hk (Nat.le_refl 1), ws_set hD q1 (put_oc h t i _ (sb a))] at hP1 hD1
  exact kk l p e s m args below meth c G A C hl hs (put_wf hw (i3_of _)) H1 locs1 ls hP1 hD1 hS1 hv
theorem a_alen {a n : Nat} (hd : (tb M)[k]? = some (pc, .arraylength, 1, np, tg)) (ho : ko t = none) (hk : ka t = some (a, n)) (ha : a ≤ 4) (hn : n < 65536) (kk : AW M P np lv (vi (n : Int) :: st) h) : AW M P pc lv (vr t i :: st) h := by
  intro l p e s m args below meth c G A C hl hs hw H locs ls hP hD hS hv
  obtain ⟨d1, rfl, d3, d4⟩ := ok_at C.2.2.2.2.2.2.2.2.1 hd
  obtain ⟨r1, hs⟩ := rg_c hs
  have r1 : vt t i := r1
  obtain ⟨k0, q1, q2⟩ := ws_at (G := G) (h := h) r1
  obtain ⟨ty, hty⟩ := tk_at (G := G) ha
  have z := kk l p e s m args below meth c G A C hl (rg_k (show I3 n by unfold I3; omega) hs) hw H locs ls hP hD hS hv
  by_cases h1 : a ≤ 1
  · rw [ce_i ho hk h1] at q2
    exact va_alen (v := Int32.ofInt (n : Int)) C.1 C.2.1 C.2.2.2.2.2.2.2.1.1 hP k0 a q2 hty rfl d1 z
  · rw [ce_q ho hk h1] at q2
    exact va_alen (v := Int32.ofInt (n : Int)) C.1 C.2.1 C.2.2.2.2.2.2.2.1.1 hP k0 a q2 hty rfl d1 z
theorem a_aald {a n t' i' : Nat} {j : Int} (hd : (tb M)[k]? = some (pc, .aaload, 1, np, tg)) (ho : ko t = none) (hk : ka t = some (a, n)) (ha : a = 2 ∨ a = 3 ∨ a = 4) (h0 : 0 ≤ j) (h1 : j < n) (hr : rf t i j.toNat = some (t', i')) (kk : AW M P np lv (vr t' i' :: st) h) : AW M P pc lv (vi j :: vr t i :: st) h := by
  intro l p e s m args below meth c G A C hl hs hw H locs ls hP hD hS hv
  obtain ⟨d1, rfl, d3, d4⟩ := ok_at C.2.2.2.2.2.2.2.2.1 hd
  obtain ⟨r0, hs⟩ := rg_c hs
  obtain ⟨r1, hs⟩ := rg_c hs
  have r1 : vt t i := r1
  have z := kk l p e s m args below meth c G A C hl (rg_k (rf_vt r1 (fun an h9 => by rw [hk] at h9; cases h9; dsimp only; omega) hr) hs) hw H locs ls hP hD hS hv
  obtain ⟨k0, q1, q2⟩ := ws_at (G := G) (h := h) r1
  rw [ce_q ho hk (by omega)] at q2
  have hlt : (Int32.ofInt j).toNatClampNeg < n := by rw [clamp3 r0]; omega
  have hin := in_of r0 h0 h1
  rcases ha with rfl | rfl | rfl
  · refine va_aldq C.1 C.2.1 C.2.2.2.2.2.2.2.1.1 hP k0 2 q2 rfl hin d1 ?_
    rw [clamp3 r0, hr]
    exact z
  · refine va_aldq C.1 C.2.1 C.2.2.2.2.2.2.2.1.1 hP k0 3 q2 rfl hin d1 ?_
    rw [clamp3 r0, hr]
    exact z
  · refine W.aald (v := va_rf ((fun k => (rf t i k).map fun q => G.2.2 q.1 q.2) (Int32.ofInt j).toNatClampNeg)) (ty := .array .int) C.1 C.2.1 (hP k0 _ q2) ((C.2.2.2.2.2.2.2.1.1.2 4 _ rfl).1 n (fun j => va_rf ((rf t i j).map fun q => G.2.2 q.1 q.2))) rfl (fun q => by cases q) (by show ¬ (_ < 0 ∨ (arrV _ _ _).slots.size ≤ _); rw [arrV_size]; exact hin) (by show (arrV _ _ _).slots[_]? = _; rw [arrV_read _ _ hlt]) rfl rfl d1 ?_
    dsimp only
    rw [clamp3 r0, hr]
    exact z
theorem a_ireturn {a : Int} (hd : (tb M)[k]? = some (pc, .ireturn, 1, np, tg)) (hr : M.2.2.2.1 = some .int) (hp : P (some (vi a)) h) : AW M P pc lv [vi a] h := by
  intro l p e s m args below meth c G A C hl hs hw H locs ls hP hD hS hv
  obtain ⟨d1, rfl, d3, d4⟩ := ok_at C.2.2.2.2.2.2.2.2.1 hd
  exact W.iret (v := Int32.ofInt a) C.1 C.2.1 (C.2.2.1.trans hr) (fun t ht hW => ⟨⟨some (vi a), h, rfl, hp, fun v hv => by cases hv; exact (rg_c hs).1, hw, by rw [ht]; exact hP, C.2.2.2.2.2.2.2.1.warm hW, hD⟩, hS.F ht⟩) hS.2.2 d1 C.2.2.2.2.2.2.1
theorem a_zreturn {a : Int} (hd : (tb M)[k]? = some (pc, .ireturn, 1, np, tg)) (hr : M.2.2.2.1 = some .boolean) (hz : a = 0 ∨ a = 1) (hp : P (some (vi a)) h) : AW M P pc lv [vi a] h := by
  intro l p e s m args below meth c G A C hl hs hw H locs ls hP hD hS hv
  obtain ⟨d1, rfl, d3, d4⟩ := ok_at C.2.2.2.2.2.2.2.2.1 hd
  exact W.zret (v := Int32.ofInt a) C.1 C.2.1 (C.2.2.1.trans hr) (by rcases hz with rfl | rfl <;> rfl) (fun t ht hW => ⟨⟨some (vi a), h, rfl, hp, fun v hv => by cases hv; exact (rg_c hs).1, hw, by rw [ht]; exact hP, C.2.2.2.2.2.2.2.1.warm hW, hD⟩, hS.F ht⟩) hS.2.2 d1 C.2.2.2.2.2.2.1
theorem a_areturn {n : String} {v : AV} (hd : (tb M)[k]? = some (pc, .areturn, 1, np, tg)) (hr : M.2.2.2.1 = some (.object n)) (hvv : v = vn ∨ ∃ t i, v = vr t i) (hp : P (some v) h) : AW M P pc lv [v] h := by
  intro l p e s m args below meth c G A C hl hs hw H locs ls hP hD hS hv
  obtain ⟨d1, rfl, d3, d4⟩ := ok_at C.2.2.2.2.2.2.2.2.1 hd
  exact W.aret (v := cv G.2.2 v) C.1 C.2.1 (C.2.2.1.trans hr) (Or.inl ⟨_, rfl⟩) (hvv.elim (fun q => Or.inl (by rw [q]; rfl)) (fun ⟨t, i, q⟩ => Or.inr ⟨G.2.2 t i, by rw [q]; rfl⟩)) (fun t ht hW => ⟨⟨some v, h, rfl, hp, fun v hv => by cases hv; exact (rg_c hs).1, hw, by rw [ht]; exact hP, C.2.2.2.2.2.2.2.1.warm hW, hD⟩, hS.F ht⟩) hS.2.2 d1 C.2.2.2.2.2.2.1
theorem a_return (hd : (tb M)[k]? = some (pc, .return_, 1, np, tg)) (hr : M.2.2.2.1 = none) (hp : P none h) : AW M P pc lv [] h := by
  intro l p e s m args below meth c G A C hl hs hw H locs ls hP hD hS hv
  obtain ⟨d1, rfl, d3, d4⟩ := ok_at C.2.2.2.2.2.2.2.2.1 hd
  exact W.vret C.1 C.2.1 (C.2.2.1.trans hr) (fun t ht hW => ⟨⟨none, h, rfl, hp, fun v hv => (by cases hv), hw, by rw [ht]; exact hP, C.2.2.2.2.2.2.2.1.warm hW, hD⟩, hS.F ht⟩) hS.2.2 d1 C.2.2.2.2.2.2.1
end AWH
