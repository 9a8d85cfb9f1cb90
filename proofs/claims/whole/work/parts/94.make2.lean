def upA (ad : Nat → Nat → Nat) (z : Tg) (q : Nat) : Nat → Nat → Nat := fun t i => if (t, i) = z then q else ad t i
theorem upA_eq (ad : Nat → Nat → Nat) (z : Tg) (q : Nat) : upA ad z q z.1 z.2 = q := by simp [upA]
theorem upA_ne {ad : Nat → Nat → Nat} {z r : Tg} {q : Nat} (h : r ≠ z) : upA ad z q r.1 r.2 = ad r.1 r.2 := by simp [upA, h]
theorem upA_out {ad : Nat → Nat → Nat} {z : Tg} {q : Nat} {K : List Tg} (hz : z ∉ K) : ∀ x ∈ K, upA ad z q x.1 x.2 = ad x.1 x.2 := fun x hx => upA_ne (fun e => hz (by rw [← e]; exact hx))
def dv (t i j : Nat) : Value := match rf t i j with
  | some _ => .null
  | none => .int 0
theorem mkb_out {F : List Tg} {ms : List (Nat × Nat × Nat)} {L : List Tg} {z : Tg} (hf : ∀ q ∈ F, q ∈ L) (hs : ∀ q ∈ ms, (q.1, q.2.1) ∈ L) (hz : z ∉ L) (k : Nat) : mkb F ms z.1 z.2 k = false := by
  unfold mkb
  rw [Bool.or_eq_false_iff]
  constructor
  · apply Bool.eq_false_iff.mpr
    intro h
    exact hz (hf z (by simpa using h))
  · apply Bool.eq_false_iff.mpr
    intro h
    exact hz (hs _ (by simpa using h))
theorem mkb_app {F : List Tg} {ms : List (Nat × Nat × Nat)} {G : List Tg} {q : Tg} {k : Nat} (h : q ∉ G) : mkb (F ++ G) ms q.1 q.2 k = mkb F ms q.1 q.2 k := by
  unfold mkb
  have : (F ++ G).contains (q.1, q.2) = F.contains (q.1, q.2) := by
    rw [Bool.eq_iff_iff]
    simp [h]
  rw [this]
theorem mkb_appT {F : List Tg} {ms : List (Nat × Nat × Nat)} {G : List Tg} {q : Tg} {k : Nat} (h : q ∈ G) : mkb (F ++ G) ms q.1 q.2 k = true := by
  unfold mkb
  simp [h]
theorem mkb_ms {F : List Tg} {ms : List (Nat × Nat × Nat)} {z q : Tg} {kf k : Nat} (h : q ≠ z) : mkb F (ms ++ [(z.1, z.2, kf)]) q.1 q.2 k = mkb F ms q.1 q.2 k := by
  unfold mkb
  have : (ms ++ [(z.1, z.2, kf)]).contains (q.1, q.2, k) = ms.contains (q.1, q.2, k) := by
    rw [Bool.eq_iff_iff]
    simp only [List.contains_eq_mem, List.mem_append, List.mem_singleton, Prod.mk.injEq, decide_eq_true_eq]
    constructor
    · rintro (h1 | h1)
      · exact h1
      · exact absurd (Prod.ext h1.1 h1.2.1) h
    · exact Or.inl
  rw [this]
theorem mkb_k {F : List Tg} {ms : List (Nat × Nat × Nat)} {z : Tg} {kf k : Nat} : mkb F (ms ++ [(z.1, z.2, kf)]) z.1 z.2 k = (mkb F ms z.1 z.2 k || (k == kf)) := by
  unfold mkb
  have : (ms ++ [(z.1, z.2, kf)]).contains (z.1, z.2, k) = (ms.contains (z.1, z.2, k) || (k == kf)) := by
    rw [Bool.eq_iff_iff]
    simp
  rw [this, Bool.or_assoc]
section MAKE2
variable {X : KE} {pc : Nat} {lv : LV} {st stk : List AV} {F : List Tg} {ms : List (Nat × Nat × Nat)} {h h' : HH} {L L' : List Tg} {cells slots : Nat} {z r : Tg}
theorem KI.ext {ad : Nat → Nat → Nat} (I : KI X lv st F ms L ad) (hz : z ∉ X.K ++ L) (q : Nat) : KI X lv (vr z.1 z.2 :: st) F ms (L ++ [z]) (upA ad z q) := by
  have hs : ∀ x ∈ X.K ++ L, x ∈ X.K ++ (L ++ [z]) := fun x hx => by rw [← List.append_assoc]; exact List.mem_append_left _ hx
  refine ⟨fun x hx => ?_, fun x hx => okv_mono hs (I.lo x hx), fun v hv => ?_, fun x hx => List.mem_append_left _ (I.fi x hx), fun x hx => List.mem_append_left _ (I.sl x hx), fun x hx k hk hm y hy => ?_⟩
  · rw [upA_out hz x (List.mem_append_left _ hx)]
    exact I.an x hx
  · rcases List.mem_cons.mp hv with rfl | hv
    · exact List.mem_append_right _ (List.mem_append_right _ List.mem_cons_self)
    · exact okv_mono hs (I.st v hv)
  · rcases List.mem_append.mp hx with hx | hx
    · exact hs _ (I.cl x hx k hk hm y hy)
    · rw [List.mem_singleton.mp hx, mkb_out I.fi I.sl (fun e => hz (List.mem_append_right _ e)) k] at hm
      cases hm
theorem wm_new {ad : Nat → Nat → Nat} (I : KI X lv st F ms L ad) (hz : z ∉ X.K ++ L) (q : Nat) : wm X.kc (upA ad z q) (mkb F ms) h (L ++ [z]) = wm X.kc ad (mkb F ms) h L ++ [(q, cem X.kc ad (fun _ => false) z.1 z.2 (h z.1 z.2))] := by
  have hs := mkb_out I.fi I.sl (fun e => hz (List.mem_append_right _ e))
  have e1 : wm X.kc (upA ad z q) (mkb F ms) h L = wm X.kc ad (mkb F ms) h L := wm_ext I.cl (fun _ h => h) (upA_out hz) (fun _ _ _ _ _ _ => rfl) (fun _ _ => rfl)
  unfold wm at e1 ⊢
  rw [List.map_append, e1]
  congr 1
  simp only [List.map_cons, List.map_nil]
  rw [upA_eq, cem_cong (ad' := ad) (mk' := fun _ => false) rfl (fun k hk y hy => ⟨hs k, fun e => by rw [hs k] at e; cases e⟩)]
theorem k_new {x ci : Nat} {q : vw_C} {ty : Nat → FieldType} (C : X.ok) (hd : decode X.code pc = .ok (.new x, 3)) (hc : vwCl[ci]? = some q) (ho : ko z.1 = some ci) (hty : ∀ k, k < q.2.2 → parseFieldDescriptor (q.2.1 k).2.2.1 = some (ty k)) (hcl : Cond.classLink X.own x q.1 ∈ lw_gd) (hinst : Cond.instantiable q.1 q.2.2 ∈ lw_gd) (hini : Cond.initialized q.1 ∈ lw_gd) (hz : z ∉ X.K ++ L) (h0 : ∀ k, h z.1 z.2 k = 0) (hdf : ∀ j, j < q.2.2 → defaultValue (ty j) = dv z.1 z.2 j) (hcells : cells + 1 ≤ X.R.cells) (hslots : slots + q.2.2 ≤ X.R.slots) (kk : KJ X (pc + 3) lv (vr z.1 z.2 :: st) F ms h (L ++ [z]) (cells + 1) (slots + q.2.2)) : KJ X pc lv st F ms h L cells slots := by
  intro ad H locs ls I hP hD hS hl
  obtain ⟨c1, c2, c3⟩ := ci_all ci q hc
  refine va_new (ci := ci) (fs := (List.range q.2.2).map fun k => fvm ad false z.1 z.2 k (h z.1 z.2 k)) (C := q.1) (T := q.2.1) (N := q.2.2) C.1 C.2.1 C.2.2.2.2.1 c1 ty hty C.2.2.2.1 (C.2.2.2.2.1 _ hcl) (C.2.2.2.2.1 _ hinst) (C.2.2.2.2.1 _ hini) C.2.2.2.2.2.1.1 hP hD hS C.2.2.2.2.2.2.1 hc (fun j hj => ?_) hcells hslots hd (fun a H1 hP1 hD1 hS1 => ?_)
  · rw [hdf j hj]
    simp only [vp_V, dv, List.getD_eq_getElem?_getD, List.getElem?_map, List.getElem?_range hj, Option.map_some, Option.getD_some, fvm, h0]
    cases rf z.1 z.2 j <;> rfl
  · have e := wm_new (h := h) I hz a
    rw [cem_o ho, nfc_of hc] at e
    rw [← e] at hP1 hD1
    have K := kk (upA ad z a) H1 locs ls (I.ext hz a) hP1 hD1 hS1 (by rw [lvc_cv (upA_out hz) I.lo]; exact hl)
    rw [List.map_cons, map_cv (upA_out hz) I.st] at K
    rw [show cv (upA ad z a) (vr z.1 z.2) = .ref a from by simp [cv, vr, upA]] at K
    exact K
theorem KI.extF {ad : Nat → Nat → Nat} (I : KI X lv st F ms L ad) (hz : z ∉ X.K ++ L) (hrf : ∀ k, rf z.1 z.2 k = none) (q : Nat) : KI X lv (vr z.1 z.2 :: st) (F ++ [z]) ms (L ++ [z]) (upA ad z q) := by
  have J := I.ext hz q
  refine ⟨J.an, J.lo, J.st, fun x hx => ?_, J.sl, fun x hx k hk hm y hy => ?_⟩
  · rcases List.mem_append.mp hx with hx | hx
    · exact List.mem_append_left _ (I.fi x hx)
    · exact List.mem_append_right _ hx
  · by_cases e : x = z
    · rw [e, hrf] at hy
      cases hy
    · exact J.cl x hx k hk (by rw [mkb_app (by simpa using e)] at hm; exact hm) y hy
theorem k_newa {a n : Nat} {at_ : ArrayType} {ty : FieldType} {v : Int} (C : X.ok) (hd : decode X.code pc = .ok (.newarray at_, 2)) (hty : newarray.typeOf at_ = ty) (hw : Cond.arrayClass ty ∈ lw_gd) (ho : ko z.1 = none) (ha : ka z.1 = some (a, n)) (ha1 : a ≤ 1) (hk : ∀ G : GG, (tk G)[a]? = some (G.2.1 a, ty)) (hra : ∀ (U : State) (cA : ClassId), va_RA U cA ty = (U.vm.findClass ("[" ++ ty.toString) = some cA)) (hdv : defaultValue ty = .int 0) (hv : v = (n : Int)) (hn : n < 100000) (hby : componentBytes ty ≤ 4) (hrf : ∀ k, rf z.1 z.2 k = none) (hz : z ∉ X.K ++ L) (h0 : ∀ k, h z.1 z.2 k = 0) (hcells : cells + 1 ≤ X.R.cells) (hslots : slots + n ≤ X.R.slots) (kk : KJ X (pc + 2) lv (vr z.1 z.2 :: st) (F ++ [z]) ms h (L ++ [z]) (cells + 1) (slots + n)) : KJ X pc lv (vi v :: st) F ms h L cells slots := by
  intro ad H locs ls I hP hD hS hl
  subst hv
  show W X.p X.l X.e X.R X.s X.m X.args X.below X.meth X.c H locs cells slots X.Q (F0 X.m pc ls (.int (nI n) :: st.map (cv ad)))
  refine va_newa (atype := at_) (ty := ty) (N' := n) (a0 := (n, .inl fun _ => 0)) C.1 C.2.1 (by rw [hty]; exact C.2.2.2.2.1 _ hw) hty C.2.2.2.2.2.1.1 hP hD hS C.2.2.2.2.2.2.1 (fun cA => by rw [vp_cell_i, hdv]) (nI_pos (by omega)) (nI_clamp (by omega)) (Nat.le_trans (Nat.mul_le_mul (Nat.le_of_lt hn) hby) (by decide)) hcells hslots hd (fun q cA H1 hK1 hP1 hD1 hS1 => ?_)
  have r1 := (hK1.2 5 (cA, ty) rfl).2
  have r2 := (C.2.2.2.2.2.1.1.2 a _ (hk (X.D, X.kc, X.ad0))).2
  rw [hra] at r1 r2
  have hcA : cA = X.kc a := by
    rw [r1] at r2
    exact Option.some.inj r2
  subst hcA
  have e0 := wm_new (h := h) I.tl hz q
  rw [cem_i ho ha ha1] at e0
  have e1 : (fun k => Int32.ofInt (h z.1 z.2 k)) = fun _ => (0 : Int32) := funext fun k => by rw [h0]; rfl
  rw [e1] at e0
  have e2 : wm X.kc (upA ad z q) (mkb (F ++ [z]) ms) h (L ++ [z]) = wm X.kc (upA ad z q) (mkb F ms) h (L ++ [z]) := wm_ext (I.tl.ext hz q).cl (fun _ h => h) (fun _ _ => rfl) (fun y hy k hk w hw => mkb_app (fun e => by rw [List.mem_singleton.mp e, hrf] at hw; cases hw)) (fun _ _ => rfl)
  rw [← e0, ← e2] at hP1 hD1
  have K := kk (upA ad z q) H1 locs ls (I.tl.extF hz hrf q) hP1 hD1 hS1 (by rw [lvc_cv (upA_out hz) I.lo]; exact hl)
  rw [List.map_cons, map_cv (upA_out hz) I.tl.st] at K
  rw [show cv (upA ad z q) (vr z.1 z.2) = .ref q from by simp [cv, vr, upA]] at K
  exact K
theorem k_newq {a n x : Nat} {C0 : String} {v : Int} (C : X.ok) (hd : decode X.code pc = .ok (.anewarray x, 3)) (hcl : Cond.classLink X.own x C0 ∈ lw_gd) (hov : ∀ U : State, WO U → va_AO C0 U) (ho : ko z.1 = none) (ha : ka z.1 = some (a, n)) (ha1 : ¬ a ≤ 1) (hk : ∀ G : GG, (tk G)[a]? = some (G.2.1 a, .object C0)) (hv : v = (n : Int)) (hn : n < 100000) (hz : z ∉ X.K ++ L) (hcells : cells + 1 ≤ X.R.cells) (hslots : slots + n ≤ X.R.slots) (kk : KJ X (pc + 3) lv (vr z.1 z.2 :: st) F ms h (L ++ [z]) (cells + 1) (slots + n)) : KJ X pc lv (vi v :: st) F ms h L cells slots := by
  intro ad H locs ls I hP hD hS hl
  subst hv
  show W X.p X.l X.e X.R X.s X.m X.args X.below X.meth X.c H locs cells slots X.Q (F0 X.m pc ls (.int (nI n) :: st.map (cv ad)))
  refine va_newq (C := C0) (N' := n) C.1 C.2.1 C.2.2.2.1 (C.2.2.2.2.1 _ hcl) (hov _ C.2.2.2.2.2.2.2.2) C.2.2.2.2.2.1.1 hP hD hS C.2.2.2.2.2.2.1 (nI_pos (by omega)) (nI_clamp (by omega)) (by omega) hcells hslots hd (fun q cA H1 hK1 hP1 hD1 hS1 => ?_)
  obtain ⟨-, -, -, -, -, r1⟩ := (hK1.2 5 (cA, .object C0) rfl).2
  obtain ⟨-, -, -, -, -, r2⟩ := (C.2.2.2.2.2.1.1.2 a _ (hk (X.D, X.kc, X.ad0))).2
  have hcA : cA = X.kc a := by
    rw [r1] at r2
    exact Option.some.inj r2
  subst hcA
  have e0 := wm_new (h := h) I.tl hz q
  rw [cem_q ho ha ha1] at e0
  simp only [Bool.false_eq_true, and_false, if_false] at e0
  rw [← e0] at hP1 hD1
  have K := kk (upA ad z q) H1 locs ls (I.tl.ext hz q) hP1 hD1 hS1 (by rw [lvc_cv (upA_out hz) I.lo]; exact hl)
  rw [List.map_cons, map_cv (upA_out hz) I.tl.st] at K
  rw [show cv (upA ad z q) (vr z.1 z.2) = .ref q from by simp [cv, vr, upA]] at K
  exact K
theorem wm_set {kc : Nat → ClassId} {ad : Nat → Nat → Nat} {mk mk' : Nat → Nat → Nat → Bool} {A : Nat → Prop} {n : Nat} (hD : va_D A (wm kc ad mk h L)) (hn : L[n]? = some z) (hm : ∀ q ∈ L, q ≠ z → mk' q.1 q.2 = mk q.1 q.2 ∧ h' q.1 q.2 = h q.1 q.2) : (wm kc ad mk h L).set n (ad z.1 z.2, cem kc ad (mk' z.1 z.2) z.1 z.2 (h' z.1 z.2)) = wm kc ad mk' h' L := by
  apply List.ext_getElem?
  intro j
  rw [List.getElem?_set]
  by_cases hj : n = j
  · subst hj
    have hlt : n < (wm kc ad mk h L).length := by
      have := (List.getElem?_eq_some_iff.mp hn).1
      simpa [wm] using this
    rw [if_pos rfl, if_pos hlt]
    simp [wm, List.getElem?_map, hn]
  · rw [if_neg hj]
    cases hq : L[j]? with
    | none => simp [wm, List.getElem?_map, hq]
    | some q =>
      have hne : q ≠ z := by
        intro hh
        have e1 : (wm kc ad mk h L)[j]? = some (ad q.1 q.2, cem kc ad (mk q.1 q.2) q.1 q.2 (h q.1 q.2)) := by simp [wm, List.getElem?_map, hq]
        have e2 : (wm kc ad mk h L)[n]? = some (ad z.1 z.2, cem kc ad (mk z.1 z.2) z.1 z.2 (h z.1 z.2)) := by simp [wm, List.getElem?_map, hn]
        exact hj (hD.1 n j _ _ e2 e1 (by rw [hh]))
      obtain ⟨e1, e2⟩ := hm q (List.mem_of_getElem? hq) hne
      simp [wm, List.getElem?_map, hq, e1, e2]
theorem wm_at {kc : Nat → ClassId} {ad : Nat → Nat → Nat} {mk : Nat → Nat → Nat → Bool} (hz : z ∈ L) : ∃ n : Nat, L[n]? = some z ∧ (wm kc ad mk h L)[n]? = some (ad z.1 z.2, cem kc ad (mk z.1 z.2) z.1 z.2 (h z.1 z.2)) := by
  obtain ⟨n, hn⟩ := List.getElem?_of_mem hz
  exact ⟨n, hn, by simp [wm, List.getElem?_map, hn]⟩
def fpr (own : String) (x ci kf : Nat) : Prop := ∃ (q : vw_C) (ty : FieldType), vwCl[ci]? = some q ∧ kf < q.2.2 ∧ Cond.fieldLink own x (q.2.1 kf).1 (q.2.1 kf).2.1 (q.2.1 kf).2.2.1 ∈ lw_gd ∧ (q.2.1 kf).2.2.2 = true ∧ (q.2.1 kf).1 = own ∧ parseFieldDescriptor (q.2.1 kf).2.2.1 = some ty ∧ ∀ a : Nat, narrow ty (.ref a) = .ref a ∧ fits ty (.ref a) = true
theorem KI.slot {ad : Nat → Nat → Nat} (I : KI X lv st F ms L ad) {kf : Nat} (hz : z ∈ L) (hr : rf z.1 z.2 kf = some r) (hrK : r ∈ X.K ++ L) : KI X lv st F (ms ++ [(z.1, z.2, kf)]) L ad := by
  refine ⟨I.an, I.lo, I.st, I.fi, fun q hq => ?_, fun q hq k hk hm y hy => ?_⟩
  · rcases List.mem_append.mp hq with hq | hq
    · exact I.sl q hq
    · rw [List.mem_singleton.mp hq]; exact hz
  · by_cases e : q = z
    · subst e
      rw [mkb_k, Bool.or_eq_true] at hm
      rcases hm with hm | hm
      · exact I.cl q hq k hk hm y hy
      · rw [beq_iff_eq] at hm
        rw [hm, hr] at hy
        exact Option.some.inj hy ▸ hrK
    · rw [mkb_ms e] at hm
      exact I.cl q hq k hk hm y hy
theorem k_putr {x ci kf : Nat} (C : X.ok) (hd : decode X.code pc = .ok (.putfield x, 3)) (hf : fpr X.own x ci kf) (hin : X.nm = "<init>") (ho : ko z.1 = some ci) (hr : rf z.1 z.2 kf = some r) (hz : z ∈ L) (kk : KJ X (pc + 3) lv st F (ms ++ [(z.1, z.2, kf)]) h L cells slots) : KJ X pc lv (vr r.1 r.2 :: vr z.1 z.2 :: st) F ms h L cells slots := by
  intro ad H locs ls I hP hD hS hl
  obtain ⟨q, ty, f1, f2, f3, f4, f5, f6, f7⟩ := hf
  obtain ⟨c1, ⟨tys, c2⟩, c3⟩ := ci_all ci q f1
  obtain ⟨n, n1, n2⟩ := wm_at (kc := X.kc) (ad := ad) (mk := mkb F ms) (h := h) hz
  rw [cem_o ho, nfc_of f1] at n2
  refine va_putF (ci := ci) (v := .ref (ad r.1 r.2)) (ty := ty) (C := q.1) (T := q.2.1) (N := q.2.2) C.1 C.2.1 C.2.2.2.2.1 c1 tys c2 c3 C.2.2.2.1 C.2.2.2.2.2.1.1 hP hD hS n n2 f1 kf f2 (C.2.2.2.2.1 _ f3) (fun _ h9 => h9) f4 (by rw [C.2.2.2.2.2.2.2.1]; exact hin) f5 f6 (f7 _).1 (f7 _).2 (by rw [List.length_map, List.length_range]; exact f2) hd (fun H1 locs1 hP1 hD1 hS1 => ?_)
  have e : (wm X.kc ad (mkb F ms) h L).set n (ad z.1 z.2, .inr (ci, ((List.range q.2.2).map fun k => fvm ad (mkb F ms z.1 z.2 k) z.1 z.2 k (h z.1 z.2 k)).set kf (.ref (ad r.1 r.2)))) = wm X.kc ad (mkb F (ms ++ [(z.1, z.2, kf)])) h L := by
    rw [← wm_set (mk' := mkb F (ms ++ [(z.1, z.2, kf)])) (h' := h) hD n1 (fun y hy hne => ⟨funext fun k => mkb_ms hne, rfl⟩), cem_o ho, nfc_of f1]
    congr 4
    apply List.ext_getElem?
    intro j
    rw [List.getElem?_set]
    by_cases hj : kf = j
    · subst hj
      simp [f2, fvm, hr, mkb_k]
    · rw [if_neg hj]
      by_cases hl : j < q.2.2
      · simp [hl, mkb_k, show (j == kf) = false from beq_eq_false_iff_ne.mpr (Ne.symm hj)]
      · simp [hl]
  rw [e] at hP1 hD1
  exact kk ad H1 locs1 ls (I.tl.tl.slot hz hr (I.st (vr r.1 r.2) List.mem_cons_self)) hP1 hD1 hS1 hl
theorem k_puti {x ci kf : Nat} {a : Int} {ty : FieldType} (C : X.ok) (hd : decode X.code pc = .ok (.putfield x, 3)) (hf : fp X.own x ci kf ty) (hty : ty = .int) (ho : ko z.1 = some ci) (hr : rf z.1 z.2 kf = none) (hz : z ∈ L) (kk : KJ X (pc + 3) lv st F ms (put h z.1 z.2 kf a) L cells slots) : KJ X pc lv (vi a :: vr z.1 z.2 :: st) F ms h L cells slots := by
  intro ad H locs ls I hP hD hS hl
  subst hty
  obtain ⟨q, f1, f2, f3, f4, f6⟩ := hf
  obtain ⟨c1, ⟨tys, c2⟩, c3⟩ := ci_all ci q f1
  obtain ⟨n, n1, n2⟩ := wm_at (kc := X.kc) (ad := ad) (mk := mkb F ms) (h := h) hz
  rw [cem_o ho, nfc_of f1] at n2
  refine va_put (ci := ci) (v := .int (Int32.ofInt a)) (ty := .int) (C := q.1) (T := q.2.1) (N := q.2.2) C.1 C.2.1 C.2.2.2.2.1 c1 tys c2 c3 C.2.2.2.1 C.2.2.2.2.2.1.1 hP hD hS n n2 f1 kf f2 (C.2.2.2.2.1 _ f3) (fun _ h9 => h9) f4 f6 rfl rfl (by rw [List.length_map, List.length_range]; exact f2) hd (fun H1 locs1 hP1 hD1 hS1 => ?_)
  have e : (wm X.kc ad (mkb F ms) h L).set n (ad z.1 z.2, .inr (ci, ((List.range q.2.2).map fun k => fvm ad (mkb F ms z.1 z.2 k) z.1 z.2 k (h z.1 z.2 k)).set kf (.int (Int32.ofInt a)))) = wm X.kc ad (mkb F ms) (put h z.1 z.2 kf a) L := by
    rw [← wm_set (mk' := mkb F ms) (h' := put h z.1 z.2 kf a) hD n1 (fun y hy hne => ⟨rfl, put_oc h z.1 z.2 kf a y.1 y.2 (fun e => hne (Prod.ext e.1 e.2))⟩), cem_o ho, nfc_of f1]
    congr 4
    apply List.ext_getElem?
    intro j
    rw [List.getElem?_set]
    by_cases hj : kf = j
    · subst hj
      simp [f2, fvm, hr, put_at]
    · rw [if_neg hj]
      by_cases hl : j < q.2.2
      · simp [hl, put_at, Ne.symm hj]
      · simp [hl]
  rw [e] at hP1 hD1
  exact kk ad H1 locs1 ls I.tl.tl hP1 hD1 hS1 hl
theorem k_getr {x ci kf : Nat} (C : X.ok) (hd : decode X.code pc = .ok (.getfield x, 3)) (hf : fpr X.own x ci kf) (ho : ko z.1 = some ci) (hr : rf z.1 z.2 kf = some r) (hm : mkb F ms z.1 z.2 kf = true) (hz : z ∈ L) (kk : KJ X (pc + 3) lv (vr r.1 r.2 :: st) F ms h L cells slots) : KJ X pc lv (vr z.1 z.2 :: st) F ms h L cells slots := by
  intro ad H locs ls I hP hD hS hl
  obtain ⟨q, ty, f1, f2, f3, f4, f5, f6, f7⟩ := hf
  obtain ⟨c1, ⟨tys, c2⟩, c3⟩ := ci_all ci q f1
  obtain ⟨n, n1, n2⟩ := wm_at (kc := X.kc) (ad := ad) (mk := mkb F ms) (h := h) hz
  rw [cem_o ho, nfc_of f1] at n2
  refine va_get (ci := ci) (v := .ref (ad r.1 r.2)) (C := q.1) (T := q.2.1) (N := q.2.2) C.1 C.2.1 C.2.2.2.2.1 c1 C.2.2.2.1 C.2.2.2.2.2.1.1 hP n n2 f1 kf f2 (C.2.2.2.2.1 _ f3) (fun _ h9 => h9) (by simp [f2, fvm, hr, hm]) hd ?_
  exact kk ad H locs ls ⟨I.an, I.lo, fun v hv => by
    rcases List.mem_cons.mp hv with rfl | hv
    · exact I.cl z hz kf (by rw [lim_o ho, nfc_of f1]; exact f2) hm r hr
    · exact I.tl.st v hv, I.fi, I.sl, I.cl⟩ hP hD hS hl
theorem k_ast {a n ci j : Nat} {rc : vw_C} {w : Int} (C : X.ok) (hd : decode X.code pc = .ok (.aastore, 1)) (ho : ko z.1 = none) (ha : ka z.1 = some (a, n)) (ha1 : ¬ a ≤ 1) (hk : ∀ G : GG, (tk G)[a]? = some (G.2.1 a, .object rc.1)) (hor : ko r.1 = some ci) (hc : vwCl[ci]? = some rc) (hw : w = (j : Int)) (hj : j < n) (hn : n < 100000) (hr : rf z.1 z.2 j = some r) (hz : z ∈ L) (hrL : r ∈ L) (kk : KJ X (pc + 1) lv st F (ms ++ [(z.1, z.2, j)]) h L cells slots) : KJ X pc lv (vr r.1 r.2 :: vi w :: vr z.1 z.2 :: st) F ms h L cells slots := by
  intro ad H locs ls I hP hD hS hl
  subst hw
  obtain ⟨q0, n1, n2⟩ := wm_at (kc := X.kc) (ad := ad) (mk := mkb F ms) (h := h) hz
  obtain ⟨qk, k1, k2⟩ := wm_at (kc := X.kc) (ad := ad) (mk := mkb F ms) (h := h) hrL
  rw [cem_q ho ha ha1] at n2
  rw [cem_o hor] at k2
  show W X.p X.l X.e X.R X.s X.m X.args X.below X.meth X.c H locs cells slots X.Q (F0 X.m pc ls (.ref (ad r.1 r.2) :: .int (nI j) :: .ref (ad z.1 z.2) :: st.map (cv ad)))
  refine va_astq C.1 C.2.1 C.2.2.2.2.2.1.1 hP hD hS q0 a qk ci n2 (hk _) k2 hc (vp_in_nI hj (by omega)) hd (fun H1 locs1 hP1 hD1 hS1 => ?_)
  rw [nI_clamp (by omega)] at hP1 hD1
  have e := wm_set (mk' := mkb F (ms ++ [(z.1, z.2, j)])) (h' := h) hD n1 (fun y hy hne => ⟨funext fun k => mkb_ms hne, rfl⟩)
  rw [cem_q ho ha ha1] at e
  have e2 : va_up (fun k => if k < n ∧ mkb F ms z.1 z.2 k = true then (rf z.1 z.2 k).map (fun q => ad q.1 q.2) else none) j (some (ad r.1 r.2)) = fun k => if k < n ∧ mkb F (ms ++ [(z.1, z.2, j)]) z.1 z.2 k = true then (rf z.1 z.2 k).map (fun q => ad q.1 q.2) else none := by
    funext k
    unfold va_up
    by_cases hkj : k = j
    · subst hkj
      simp [hj, hr, mkb_k]
    · simp [hkj, mkb_k]
  rw [e2, e] at hP1 hD1
  exact kk ad H1 locs1 ls (I.tl.tl.tl.slot hz hr (I.st (vr r.1 r.2) List.mem_cons_self)) hP1 hD1 hS1 hl
theorem k_obj {x : Nat} (C : X.ok) (hd : decode X.code pc = .ok (.invokespecial x, 3)) (hlk : Cond.methodLink X.own x Lib.objectInit ∈ lw_gd) (hi : Cond.instanceMethod Lib.objectInit ∈ lw_gd) (hcode : Cond.code Lib.objectInit ⟨#[0xb1]⟩ 1 none ∈ lw_gd) (hR : 1 ≤ X.R.frames ∧ 20 ≤ X.R.locals) (hst : aw_ st ≤ 8) (kk : KJ X (pc + 3) lv st F ms h L cells slots) : KJ X pc lv (vr z.1 z.2 :: st) F ms h L cells slots := by
  intro ad H locs ls I hP hD hS hl
  refine W.objInit (a := ad z.1 z.2) (rest := st.map (cv ad)) C.1 C.2.1 C.2.2.2.1 (C.2.2.2.2.1 _ hlk) (C.2.2.2.2.1 _ hi) (C.2.2.2.2.1 _ hcode) rfl (by rw [C.2.2.1]; exact hl.1) rfl hd hR.1 (by show 2 * 0 + _ + 12 ≤ _; rw [cat_sum]; have := hR.2; omega) ?_
  exact kk ad H locs ls I.tl hP hD hS hl
end MAKE2
