/-! constructors' contracts -/
def PMk (D : va_G) (kc : Nat → ClassId) (ad : Nat → Nat → Nat) (LL : List Tg) (hF : HH) (A : Nat → Prop) (t : State) : Prop := va_P D vwCl (wm kc ad mkT hF LL) t.heap ∧ WK (D, kc, ad) t ∧ va_D A (wm kc ad mkT hF LL)
def wz (kc : Nat → ClassId) (ad : Nat → Nat → Nat) (z : Tg) : va_W := wm kc ad (mkb [] []) h00 [z]
def rI (fr mc sl lo : Nat) : Room := { frames := fr, cells := mc, slots := sl, locals := lo }
def IC (y : MethodName) (cc : ByteArray) (maxL fr lo mc sl : Nat) (z : Tg) (as : List Tg) (LL : List Tg) (hF : HH) : Prop := ∀ (l : Launch) (D : va_G) (kc : Nat → ClassId) (ad : Nat → Nat → Nat) (sz : Nat), Met l y (.code y cc maxL none :: lw_gd) (rI fr mc sl lo) (va_Pc ((z :: as).map fun q => Value.ref (ad q.1 q.2)) (fun U => U.heap.size = sz ∧ (WK (D, kc, ad) U ∧ WO U) ∧ va_P D vwCl (wz kc ad z) U.heap ∧ va_D (fun _ => True) (wz kc ad z))) (va_Qv (fun ad' : Nat → Nat → Nat => ∀ q ∈ z :: as, ad' q.1 q.2 = ad q.1 q.2) (fun ad' t => PMk D kc ad' LL hF (va_A (wz kc ad z) sz) t) (va_A (wz kc ad z) sz)) mc sl (va_A (wz kc ad z) sz)
def lz : Nat → List Tg → LV
  | _, [] => []
  | i, q :: qs => (i, vr q.1 q.2) :: lz (i + 1) qs
theorem lz_args (ad : Nat → Nat → Nat) : ∀ (qs : List Tg) (i : Nat), lv_args i (qs.map fun q => Value.ref (ad q.1 q.2)) = lvc ad (lz i qs)
  | [], i => rfl
  | q :: qs, i => by
    show (i, _) :: lv_args (i + 1) (qs.map fun q => Value.ref (ad q.1 q.2)) = (i, _) :: lvc ad (lz (i + 1) qs)
    rw [lz_args ad qs (i + 1)]; rfl
theorem lz_len (ad : Nat → Nat → Nat) : ∀ qs : List Tg, (lg_sl (qs.map fun q => Value.ref (ad q.1 q.2))).length = qs.length
  | [] => rfl
  | q :: qs => by
    show ([Slot.val _] ++ lg_sl (qs.map fun q => Value.ref (ad q.1 q.2))).length = qs.length + 1
    rw [List.length_append, lz_len ad qs, Nat.add_comm]; rfl
theorem lz_ok (K : List Tg) : ∀ (qs : List Tg) (i : Nat), (∀ q ∈ qs, q ∈ K) → ∀ q ∈ lz i qs, okv K q.2
  | [], _, _, q, hq => by cases hq
  | x :: qs, i, h, q, hq => by
    rcases List.mem_cons.mp hq with rfl | hq
    · exact h x List.mem_cons_self
    · exact lz_ok K qs (i + 1) (fun y hy => h y (List.mem_cons_of_mem _ hy)) q hq
def Full (F : List Tg) (ms : List (Nat × Nat × Nat)) (L : List Tg) : Prop := ∀ q ∈ L, q ∈ F ∨ ∀ k, k < lim q.1 → rf q.1 q.2 k = none ∨ (q.1, q.2, k) ∈ ms
theorem Full.wm {F : List Tg} {ms : List (Nat × Nat × Nat)} {L : List Tg} {kc : Nat → ClassId} {ad : Nat → Nat → Nat} {h : HH} (hf : Full F ms L) : wm kc ad (mkb F ms) h L = wm kc ad mkT h L := by
  apply List.map_congr_left
  intro q hq
  rw [cem_cong (ad' := ad) (mk' := mkT q.1 q.2) rfl]
  intro k hk r hr
  refine ⟨?_, fun _ => rfl⟩
  show mkb F ms q.1 q.2 k = true
  unfold mkb
  rcases hf q hq with h1 | h1
  · simp [h1]
  · rcases h1 k hk with h2 | h2
    · rw [hr] at h2; cases h2
    · simp [h2]
/-- a maker's end -/
def RetOk (X : KE) (mc sl : Nat) (LL : List Tg) (hF : HH) : Prop := ∀ (pc : Nat) (lv : LV) (F : List Tg) (ms : List (Nat × Nat × Nat)) (cells slots : Nat), decode X.code pc = .ok (.return_, 1) → Full F ms LL → cells ≤ mc → slots ≤ sl → KJ X pc lv [] F ms hF LL cells slots
theorem IC.of {y : MethodName} {cc : ByteArray} {maxL fr lo mc sl : Nat} {z : Tg} {as : List Tg} {LL : List Tg} {hF : HH} (hy : plainName y.cls = true) (hn : y.name = "<init>") (hl : (z :: as).length ≤ maxL) (body : ∀ X : KE, X.ok → X.own = y.cls → X.code = cc → X.nL = maxL → X.nm = "<init>" → X.K = z :: as → X.R = rI fr mc sl lo → RetOk X mc sl LL hF → KJ X 0 (lz 0 (z :: as)) [] [] [] h00 [z] 0 0) : IC y cc maxL fr lo mc sl z as LL hF := by
  intro l D kc ad sz
  refine Met.ofW (cc := cc) (maxL := maxL) (ret := none) hy rfl ?_
  intro p e s m args below meth c s₁ B hml hv
  obtain ⟨rfl, hsz, ⟨hK, hO⟩, hP, hD0⟩ := hv
  subst hsz
  have hts := atoms_spec (ws := .code y cc maxL none :: lw_gd) B.pre
  have hown : s.vm.findClass y.cls = some m.cls := findClass_of_methodNamed B.named
  have hin : meth.name = "<init>" := (name_of_methodNamed B.named B.method).1.trans hn
  have hlv := lv_entry ((z :: as).map fun q => Value.ref (ad q.1 q.2)) (n := maxL) (by rw [lz_len]; exact hl)
  have hD := hD0.self (sz := s.heap.size)
  rw [lg_entry_eq]
  generalize (lg_sl ((z :: as).map fun q => Value.ref (ad q.1 q.2)) ++ List.replicate (maxL - (lg_sl ((z :: as).map fun q => Value.ref (ad q.1 q.2))).length) Slot.unset).toArray = ls at hlv ⊢
  rw [lz_args] at hlv
  have hret := B.returns
  have hlocks := B.notSynchronized
  let X : KE := (p, l, e, rI fr mc sl lo, s, m, ((z :: as).map fun q => Value.ref (ad q.1 q.2)).toArray, below, meth, c, D, kc, va_A (wz kc ad z) s.heap.size, MQ below (va_Qv (fun ad' : Nat → Nat → Nat => ∀ q ∈ z :: as, ad' q.1 q.2 = ad q.1 q.2) (fun ad' t => PMk D kc ad' LL hF (va_A (wz kc ad z) s.heap.size) t) (va_A (wz kc ad z) s.heap.size)) ((z :: as).map fun q => Value.ref (ad q.1 q.2)).toArray s mc sl (va_A (wz kc ad z) s.heap.size), y.cls, cc, maxL, "<init>", z :: as, ad)
  have C : X.ok := ⟨B.exec, B.bytes, hml, hown, fun w hw => hts w (List.mem_cons_of_mem _ hw), hK, fun q hq => Or.inr hq, hin, hO⟩
  have hR : RetOk X mc sl LL hF := by
    intro pc lv F ms cells slots hd hfull h1 h2 ad' H locs ls' I hP1 hD1 hS1 hl1
    refine W.widen (k := mc) (n := sl) h1 h2 ?_
    rw [hfull.wm] at hP1 hD1
    exact W.vret C.1 C.2.1 hret (fun t ht hW => ⟨⟨ad', rfl, I.an, by rw [ht]; exact hP1, hK.warm hW, hD1⟩, hS1.F ht⟩) hS1.2.2 hd hlocks
  have hok : ∀ q ∈ lz 0 (z :: as), okv (X.K ++ [z]) q.2 := lz_ok _ _ 0 (fun q hq => List.mem_append_left _ hq)
  exact body X C rfl rfl rfl rfl rfl rfl hR ad s.heap [] ls ⟨fun _ _ => rfl, hok, fun v hv => (by cases hv), fun q hq => (by cases hq), fun q hq => (by cases hq), fun q hq k hk hm => (by cases hm)⟩ hP hD va_S.rf hlv
