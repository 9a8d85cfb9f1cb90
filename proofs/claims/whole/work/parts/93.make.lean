/-! making the cells: some made, some of their references not yet set -/
abbrev Tg : Type := Nat × Nat
def mkb (F : List Tg) (ms : List (Nat × Nat × Nat)) (t i k : Nat) : Bool := F.contains (t, i) || ms.contains (t, i, k)
def mkT (_ _ _ : Nat) : Bool := true
def h00 : HH := fun _ _ _ => 0
def fvm (ad : Nat → Nat → Nat) (b : Bool) (t i k : Nat) (x : Int) : Value := match rf t i k with
  | some q => if b then .ref (ad q.1 q.2) else .null
  | none => .int (Int32.ofInt x)
def cem (kc : Nat → ClassId) (ad : Nat → Nat → Nat) (mk : Nat → Bool) (t i : Nat) (g : Nat → Int) : va_E := match ko t with
  | some c => .inr (c, (List.range (nfc c)).map fun k => fvm ad (mk k) t i k (g k))
  | none => match ka t with
    | some an => if an.1 ≤ 1 then .inl (kc an.1, an.2, .inl fun k => Int32.ofInt (g k)) else .inl (kc an.1, an.2, .inr (.inr (.inr (.inr fun k => if k < an.2 ∧ mk k = true then (rf t i k).map (fun q => ad q.1 q.2) else none))))
    | none => .inr (0, [])
def wm (kc : Nat → ClassId) (ad : Nat → Nat → Nat) (mk : Nat → Nat → Nat → Bool) (h : HH) (L : List Tg) : va_W := L.map fun q => (ad q.1 q.2, cem kc ad (mk q.1 q.2) q.1 q.2 (h q.1 q.2))
def lim (t : Nat) : Nat := match ko t with
  | some c => nfc c
  | none => match ka t with
    | some an => an.2
    | none => 0
theorem lim_o {t c : Nat} (h : ko t = some c) : lim t = nfc c := by simp [lim, h]
theorem lim_a {t : Nat} {an : Nat × Nat} (h : ko t = none) (h2 : ka t = some an) : lim t = an.2 := by simp [lim, h, h2]
theorem cem_o {kc : Nat → ClassId} {ad : Nat → Nat → Nat} {mk : Nat → Bool} {t i c : Nat} {g : Nat → Int} (h : ko t = some c) : cem kc ad mk t i g = .inr (c, (List.range (nfc c)).map fun k => fvm ad (mk k) t i k (g k)) := by simp [cem, h]
theorem cem_i {kc : Nat → ClassId} {ad : Nat → Nat → Nat} {mk : Nat → Bool} {t i a n : Nat} {g : Nat → Int} (h : ko t = none) (h2 : ka t = some (a, n)) (h3 : a ≤ 1) : cem kc ad mk t i g = .inl (kc a, n, .inl fun k => Int32.ofInt (g k)) := by simp [cem, h, h2, h3]
theorem cem_q {kc : Nat → ClassId} {ad : Nat → Nat → Nat} {mk : Nat → Bool} {t i a n : Nat} {g : Nat → Int} (h : ko t = none) (h2 : ka t = some (a, n)) (h3 : ¬ a ≤ 1) : cem kc ad mk t i g = .inl (kc a, n, .inr (.inr (.inr (.inr fun k => if k < n ∧ mk k = true then (rf t i k).map (fun q => ad q.1 q.2) else none)))) := by simp [cem, h, h2, h3]
theorem fvm_cong {ad ad' : Nat → Nat → Nat} {b b' : Bool} {t i k : Nat} {x : Int} (h : ∀ r, rf t i k = some r → b = b' ∧ (b = true → ad r.1 r.2 = ad' r.1 r.2)) : fvm ad b t i k x = fvm ad' b' t i k x := by
  unfold fvm
  cases hr : rf t i k with
  | none => rfl
  | some r =>
    obtain ⟨rfl, h2⟩ := h r hr
    cases b
    · rfl
    · simp [h2 rfl]
theorem cem_cong {kc : Nat → ClassId} {ad ad' : Nat → Nat → Nat} {mk mk' : Nat → Bool} {t i : Nat} {g g' : Nat → Int} (hg : g = g') (h : ∀ k, k < lim t → ∀ r, rf t i k = some r → mk k = mk' k ∧ (mk k = true → ad r.1 r.2 = ad' r.1 r.2)) : cem kc ad mk t i g = cem kc ad' mk' t i g' := by
  subst hg
  cases ho : ko t with
  | some c =>
    rw [cem_o ho, cem_o ho]
    congr 2
    apply List.map_congr_left
    intro k hk
    exact fvm_cong (h k (by rw [lim_o ho]; exact List.mem_range.mp hk))
  | none =>
    cases ha : ka t with
    | none => simp [cem, ho, ha]
    | some an =>
      obtain ⟨a, n⟩ := an
      by_cases h1 : a ≤ 1
      · rw [cem_i ho ha h1, cem_i ho ha h1]
      · rw [cem_q ho ha h1, cem_q ho ha h1]
        refine congrArg (fun f : Nat → Option Nat => (Sum.inl (kc a, n, Sum.inr (Sum.inr (Sum.inr (Sum.inr f)))) : va_E)) (funext fun k => ?_)
        by_cases hk : k < n
        · cases hr : rf t i k with
          | none => simp
          | some r =>
            obtain ⟨e1, e2⟩ := h k (by rw [lim_a ho ha]; exact hk) r hr
            rw [← e1]
            cases hm : mk k
            · simp
            · simp [hk, e2 hm]
        · simp [hk]
/-- what a reference that is set points at is known -/
def Cl (K L : List Tg) (mk : Nat → Nat → Nat → Bool) : Prop := ∀ q ∈ L, ∀ k, k < lim q.1 → mk q.1 q.2 k = true → ∀ r, rf q.1 q.2 k = some r → r ∈ K ++ L
theorem wm_ext {kc : Nat → ClassId} {ad ad' : Nat → Nat → Nat} {mk mk' : Nat → Nat → Nat → Bool} {h h' : HH} {K L L' : List Tg} (hc : Cl K L' mk) (hL : ∀ q ∈ L, q ∈ L') (ha : ∀ q ∈ K ++ L', ad' q.1 q.2 = ad q.1 q.2) (hm : ∀ q ∈ L, ∀ k, k < lim q.1 → ∀ r, rf q.1 q.2 k = some r → mk' q.1 q.2 k = mk q.1 q.2 k) (hh : ∀ q ∈ L, h' q.1 q.2 = h q.1 q.2) : wm kc ad' mk' h' L = wm kc ad mk h L := by
  apply List.map_congr_left
  intro q hq
  rw [ha q (List.mem_append_right _ (hL q hq)), cem_cong (hh q hq)]
  intro k hk r hr
  have := hm q hq k hk r hr
  exact ⟨this, fun h1 => ha r (hc q (hL q hq) k hk (by rw [← this]; exact h1) r hr)⟩
abbrev KE : Type := Program × Launch × Env × Room × State × MethodId × (Array Value) × (List Frame) × Method × Code × va_G × (Nat → ClassId) × (Nat → Prop) × (State → Prop) × String × ByteArray × Nat × String × (List Tg) × (Nat → Nat → Nat)
abbrev KE.p (X : KE) : Program := X.1
abbrev KE.l (X : KE) : Launch := X.2.1
abbrev KE.e (X : KE) : Env := X.2.2.1
abbrev KE.R (X : KE) : Room := X.2.2.2.1
abbrev KE.s (X : KE) : State := X.2.2.2.2.1
abbrev KE.m (X : KE) : MethodId := X.2.2.2.2.2.1
abbrev KE.args (X : KE) : Array Value := X.2.2.2.2.2.2.1
abbrev KE.below (X : KE) : List Frame := X.2.2.2.2.2.2.2.1
abbrev KE.meth (X : KE) : Method := X.2.2.2.2.2.2.2.2.1
abbrev KE.c (X : KE) : Code := X.2.2.2.2.2.2.2.2.2.1
abbrev KE.D (X : KE) : va_G := X.2.2.2.2.2.2.2.2.2.2.1
abbrev KE.kc (X : KE) : Nat → ClassId := X.2.2.2.2.2.2.2.2.2.2.2.1
abbrev KE.A (X : KE) : Nat → Prop := X.2.2.2.2.2.2.2.2.2.2.2.2.1
abbrev KE.Q (X : KE) : State → Prop := X.2.2.2.2.2.2.2.2.2.2.2.2.2.1
abbrev KE.own (X : KE) : String := X.2.2.2.2.2.2.2.2.2.2.2.2.2.2.1
abbrev KE.code (X : KE) : ByteArray := X.2.2.2.2.2.2.2.2.2.2.2.2.2.2.2.1
abbrev KE.nL (X : KE) : Nat := X.2.2.2.2.2.2.2.2.2.2.2.2.2.2.2.2.1
abbrev KE.nm (X : KE) : String := X.2.2.2.2.2.2.2.2.2.2.2.2.2.2.2.2.2.1
abbrev KE.K (X : KE) : List Tg := X.2.2.2.2.2.2.2.2.2.2.2.2.2.2.2.2.2.2.1
abbrev KE.ad0 (X : KE) : Nat → Nat → Nat := X.2.2.2.2.2.2.2.2.2.2.2.2.2.2.2.2.2.2.2
def aOI (U : State) : Prop := (Cond.arrayOver (.array .int)).before #[] U = true
theorem idx_b (vm : Vm) (comp : ClassId) : (vm.bare.classes.findIdx? fun (x : Class) => match x.kind with | .array component _ => component == comp | _ => false) = (vm.classes.findIdx? fun (x : Class) => match x.kind with | .array component _ => component == comp | _ => false) := by
  simp only [Vm.bare, Array.findIdx?_map]
  rfl
theorem aOI.moved {u U : State} (hvm : u.vm.Alike U.vm) (h : aOI u) : aOI U := by
  obtain ⟨comp, c, k, h1, h2, h3, h4, h5⟩ := ao_int h
  obtain ⟨k', hk', he⟩ := hvm.2.2 _ _ h3
  have hi : (U.vm.classes.findIdx? fun (x : Class) => match x.kind with | .array component _ => component == comp | _ => false) = some c := by
    refine (idx_b U.vm comp).symm.trans ?_
    rw [show U.vm.bare = u.vm.bare from by first | exact hvm.bare_eq | exact hvm.bare_eq.symm]
    exact (idx_b u.vm comp).trans h2
  have hkind : k'.kind = .array comp (.array .int) := by rw [he]; exact h4
  have f1 : U.vm.findClass (FieldType.array .int).toString = some comp := by rw [hvm.findClass]; exact h1
  have f2 : U.vm.findClass ("[" ++ (FieldType.array .int).toString) = some c := by rw [hvm.findClass]; exact h5
  unfold aOI Cond.before Cond.holds
  simp only [Cond.value]
  rw [f1, Option.bind_some]
  refine (congrArg (fun o : Option Nat => (o.bind (fun c => (U.vm.classes[c]?).map fun (k : Class) => match k.kind with | .array _ ty => decide (ty = FieldType.array .int) && decide (U.vm.findClass ("[" ++ (FieldType.array .int).toString) = some c) | _ => false) == some true)) hi).trans ?_
  simp [hk', hkind, f2]
def WO (U : State) : Prop := va_AO "PretzelProof$Rope" U ∧ va_AO "PretzelProof$Tray" U ∧ aOI U
theorem WO.moved {u U : State} (hvm : u.vm.Alike U.vm) (h : WO u) : WO U := ⟨h.1.moved hvm, h.2.1.moved hvm, h.2.2.moved hvm⟩
def KE.ok (X : KE) : Prop := X.p.tables.exec = Jvm.exec ∧ X.c.code = X.code ∧ X.c.maxLocals = X.nL ∧ X.s.vm.findClass X.own = some X.m.cls ∧ (∀ w ∈ lw_gd, w.before X.args X.s = true) ∧ WK (X.D, X.kc, X.ad0) X.s ∧ (∀ q, X.s.heap.size ≤ q → X.A q) ∧ X.meth.name = X.nm ∧ WO X.s
def okv (K : List Tg) : AV → Prop
  | .inl a => I3 a
  | .inr (.inl _) => True
  | .inr (.inr (some q)) => q ∈ K
  | .inr (.inr none) => True
def KI (X : KE) (lv : LV) (st : List AV) (F : List Tg) (ms : List (Nat × Nat × Nat)) (L : List Tg) (ad : Nat → Nat → Nat) : Prop := (∀ q ∈ X.K, ad q.1 q.2 = X.ad0 q.1 q.2) ∧ (∀ q ∈ lv, okv (X.K ++ L) q.2) ∧ (∀ v ∈ st, okv (X.K ++ L) v) ∧ (∀ q ∈ F, q ∈ L) ∧ (∀ q ∈ ms, (q.1, q.2.1) ∈ L) ∧ (Cl X.K L (mkb F ms))
theorem KI.an {X : KE} {lv : LV} {st : List AV} {F : List Tg} {ms : List (Nat × Nat × Nat)} {L : List Tg} {ad : Nat → Nat → Nat} (I : KI X lv st F ms L ad) : ∀ q ∈ X.K, ad q.1 q.2 = X.ad0 q.1 q.2 := I.1
theorem KI.lo {X : KE} {lv : LV} {st : List AV} {F : List Tg} {ms : List (Nat × Nat × Nat)} {L : List Tg} {ad : Nat → Nat → Nat} (I : KI X lv st F ms L ad) : ∀ q ∈ lv, okv (X.K ++ L) q.2 := I.2.1
theorem KI.st {X : KE} {lv : LV} {st : List AV} {F : List Tg} {ms : List (Nat × Nat × Nat)} {L : List Tg} {ad : Nat → Nat → Nat} (I : KI X lv st F ms L ad) : ∀ v ∈ st, okv (X.K ++ L) v := I.2.2.1
theorem KI.fi {X : KE} {lv : LV} {st : List AV} {F : List Tg} {ms : List (Nat × Nat × Nat)} {L : List Tg} {ad : Nat → Nat → Nat} (I : KI X lv st F ms L ad) : ∀ q ∈ F, q ∈ L := I.2.2.2.1
theorem KI.sl {X : KE} {lv : LV} {st : List AV} {F : List Tg} {ms : List (Nat × Nat × Nat)} {L : List Tg} {ad : Nat → Nat → Nat} (I : KI X lv st F ms L ad) : ∀ q ∈ ms, (q.1, q.2.1) ∈ L := I.2.2.2.2.1
theorem KI.cl {X : KE} {lv : LV} {st : List AV} {F : List Tg} {ms : List (Nat × Nat × Nat)} {L : List Tg} {ad : Nat → Nat → Nat} (I : KI X lv st F ms L ad) : Cl X.K L (mkb F ms) := I.2.2.2.2.2
/-- from here the maker comes to its end -/
def KJ (X : KE) (pc : Nat) (lv : LV) (st : List AV) (F : List Tg) (ms : List (Nat × Nat × Nat)) (h : HH) (L : List Tg) (cells slots : Nat) : Prop :=
  ∀ (ad : Nat → Nat → Nat) (H : Heap) (locs : List Loc) (ls : Array Slot), KI X lv st F ms L ad → va_P X.D vwCl (wm X.kc ad (mkb F ms) h L) H → va_D X.A (wm X.kc ad (mkb F ms) h L) → va_S X.A X.s.heap H locs → lv_has ls X.nL (lvc ad lv) → W X.p X.l X.e X.R X.s X.m X.args X.below X.meth X.c H locs cells slots X.Q (F0 X.m pc ls (st.map (cv ad)))
theorem okv_cv {K : List Tg} {ad ad' : Nat → Nat → Nat} (ha : ∀ q ∈ K, ad' q.1 q.2 = ad q.1 q.2) : ∀ {v : AV}, okv K v → cv ad' v = cv ad v
  | .inl _, _ => rfl
  | .inr (.inl _), _ => rfl
  | .inr (.inr (some q)), h => by simp only [cv]; rw [ha q h]
  | .inr (.inr none), _ => rfl
theorem okv_mono {K K' : List Tg} (hK : ∀ q ∈ K, q ∈ K') : ∀ {v : AV}, okv K v → okv K' v
  | .inl _, h => h
  | .inr (.inl _), _ => trivial
  | .inr (.inr (some _)), h => hK _ h
  | .inr (.inr none), _ => trivial
theorem map_cv {K : List Tg} {ad ad' : Nat → Nat → Nat} (ha : ∀ q ∈ K, ad' q.1 q.2 = ad q.1 q.2) {st : List AV} (h : ∀ v ∈ st, okv K v) : st.map (cv ad') = st.map (cv ad) := List.map_congr_left (fun v hv => okv_cv ha (h v hv))
theorem lvc_cv {K : List Tg} {ad ad' : Nat → Nat → Nat} (ha : ∀ q ∈ K, ad' q.1 q.2 = ad q.1 q.2) {lv : LV} (h : ∀ q ∈ lv, okv K q.2) : lvc ad' lv = lvc ad lv := List.map_congr_left (fun q hq => by rw [okv_cv ha (h q hq)])
section MAKE
variable {X : KE} {pc tgt : Nat} {lv lv' : LV} {st : List AV} {F : List Tg} {ms : List (Nat × Nat × Nat)} {h : HH} {L : List Tg} {cells slots : Nat}
theorem k_aload {j : Fin 4} {i n : Nat} {q : Tg} (C : X.ok) (hd : decode X.code pc = .ok (.aload_n j, 1)) (hj : (j : Nat) = i) (hk : lv[n]? = some (i, vr q.1 q.2)) (kk : KJ X (pc + 1) lv (vr q.1 q.2 :: st) F ms h L cells slots) : KJ X pc lv st F ms h L cells slots := by
  intro ad H locs ls I hP hD hS hl
  refine lv_aload_n (x := ad q.1 q.2) C.1 C.2.1 hd hj (lv_at hl n (by simp [lvc, hk, vr, cv])) ?_
  exact kk ad H locs ls ⟨I.an, I.lo, fun v hv => by
    rcases List.mem_cons.mp hv with rfl | hv
    · exact I.lo _ (List.mem_of_getElem? hk)
    · exact I.st v hv, I.fi, I.sl, I.cl⟩ hP hD hS hl
theorem k_iload {j : Fin 4} {i n : Nat} {a : Int} (C : X.ok) (hd : decode X.code pc = .ok (.iload_n j, 1)) (hj : (j : Nat) = i) (hk : lv[n]? = some (i, vi a)) (kk : KJ X (pc + 1) lv (vi a :: st) F ms h L cells slots) : KJ X pc lv st F ms h L cells slots := by
  intro ad H locs ls I hP hD hS hl
  refine lv_iload_n (x := Int32.ofInt a) C.1 C.2.1 hd hj (lv_at hl n (by simp [lvc, hk, vi, cv])) ?_
  exact kk ad H locs ls ⟨I.an, I.lo, fun v hv => by
    rcases List.mem_cons.mp hv with rfl | hv
    · exact I.lo _ (List.mem_of_getElem? hk)
    · exact I.st v hv, I.fi, I.sl, I.cl⟩ hP hD hS hl
theorem KI.ci {ad : Nat → Nat → Nat} (I : KI X lv st F ms L ad) {a : Int} (ha : I3 a) : KI X lv (vi a :: st) F ms L ad := ⟨I.an, I.lo, fun v hv => by
    rcases List.mem_cons.mp hv with rfl | hv
    · exact ha
    · exact I.st v hv, I.fi, I.sl, I.cl⟩
theorem KI.tl {ad : Nat → Nat → Nat} {v : AV} (I : KI X lv (v :: st) F ms L ad) : KI X lv st F ms L ad := ⟨I.an, I.lo, fun v hv => I.st v (List.mem_cons_of_mem _ hv), I.fi, I.sl, I.cl⟩
theorem k_iconst {a : Int} (C : X.ok) (hd : decode X.code pc = .ok (.iconst a, 1)) (ha : I3 a) (kk : KJ X (pc + 1) lv (vi a :: st) F ms h L cells slots) : KJ X pc lv st F ms h L cells slots := by
  intro ad H locs ls I hP hD hS hl
  refine lv_iconst (v := Int32.ofInt a) C.1 C.2.1 hd rfl ?_
  exact kk ad H locs ls (I.ci ha) hP hD hS hl
theorem k_bipush {a : Int} (C : X.ok) (hd : decode X.code pc = .ok (.bipush a, 2)) (he : (Int8.ofInt a).toInt32 = Int32.ofInt a) (ha : I3 a) (kk : KJ X (pc + 2) lv (vi a :: st) F ms h L cells slots) : KJ X pc lv st F ms h L cells slots := by
  intro ad H locs ls I hP hD hS hl
  refine lv_bipush (v := Int32.ofInt a) C.1 C.2.1 hd he ?_
  exact kk ad H locs ls (I.ci ha) hP hD hS hl
theorem k_sipush {a : Int} (C : X.ok) (hd : decode X.code pc = .ok (.sipush a, 3)) (he : (Int16.ofInt a).toInt32 = Int32.ofInt a) (ha : I3 a) (kk : KJ X (pc + 3) lv (vi a :: st) F ms h L cells slots) : KJ X pc lv st F ms h L cells slots := by
  intro ad H locs ls I hP hD hS hl
  refine lv_sipush (v := Int32.ofInt a) C.1 C.2.1 hd he ?_
  exact kk ad H locs ls (I.ci ha) hP hD hS hl
theorem k_dup {q : Tg} (C : X.ok) (hd : decode X.code pc = .ok (.dup, 1)) (kk : KJ X (pc + 1) lv (vr q.1 q.2 :: vr q.1 q.2 :: st) F ms h L cells slots) : KJ X pc lv (vr q.1 q.2 :: st) F ms h L cells slots := by
  intro ad H locs ls I hP hD hS hl
  refine lv_dup (va := .ref (ad q.1 q.2)) C.1 C.2.1 hd rfl ?_
  exact kk ad H locs ls ⟨I.an, I.lo, fun v hv => by
    rcases List.mem_cons.mp hv with rfl | hv
    · exact I.st _ List.mem_cons_self
    · exact I.st v hv, I.fi, I.sl, I.cl⟩ hP hD hS hl
theorem k_goto {o : Int} (C : X.ok) (hd : decode X.code pc = .ok (.goto o, 3)) (ht : (pc : Int) + o = (tgt : Int)) (kk : KJ X tgt lv st F ms h L cells slots) : KJ X pc lv st F ms h L cells slots := by
  intro ad H locs ls I hP hD hS hl
  refine lv_goto (tgt := tgt) C.1 C.2.1 hd ht ?_
  exact kk ad H locs ls I hP hD hS hl
theorem k_ge {a b o : Int} (C : X.ok) (hd : decode X.code pc = .ok (.if_icmp .ge o, 3)) (ht : (pc : Int) + o = (tgt : Int)) (k1 : b ≤ a → KJ X tgt lv st F ms h L cells slots) (k2 : ¬ b ≤ a → KJ X (pc + 3) lv st F ms h L cells slots) : KJ X pc lv (vi b :: vi a :: st) F ms h L cells slots := by
  intro ad H locs ls I hP hD hS hl
  have rb : I3 b := I.st (vi b) List.mem_cons_self
  have ra : I3 a := I.st (vi a) (List.mem_cons_of_mem _ List.mem_cons_self)
  show W X.p X.l X.e X.R X.s X.m X.args X.below X.meth X.c H locs cells slots X.Q (F0 X.m pc ls (.int (Int32.ofInt b) :: .int (Int32.ofInt a) :: st.map (cv ad)))
  refine lv_icmp_ge (tgt := tgt) C.1 C.2.1 hd ht (fun q => ?_) (fun q => ?_)
  · rw [Int32.le_iff_toInt_le, to3 ra, to3 rb] at q
    exact k1 q ad H locs ls I.tl.tl hP hD hS hl
  · rw [Int32.le_iff_toInt_le, to3 ra, to3 rb] at q
    exact k2 q ad H locs ls I.tl.tl hP hD hS hl
theorem lvc_set (ad : Nat → Nat → Nat) (i : Nat) (v : AV) (hv : v.isLeft = true ∨ ∃ q, v = .inr (.inr q)) (lv : LV) (hk : ∀ q ∈ lv, ∀ x, q.2 ≠ .inr (.inl x)) : (i, cv ad v) :: (lvc ad lv).filter (fun q => !(q.1 == i) && !(q.1 + 1 == i && q.2.category == 2)) = lvc ad ((i, v) :: lv.filter (fun q => !(q.1 == i))) := by
  show _ = (i, cv ad v) :: lvc ad (lv.filter (fun q => !(q.1 == i)))
  congr 1
  induction lv with
  | nil => rfl
  | cons q lv ih =>
    have ih := ih (fun q hq => hk q (List.mem_cons_of_mem _ hq))
    have hc : (cv ad q.2).category = 1 := by
      have := hk q List.mem_cons_self
      match q, this with
      | (n, .inl a), _ => rfl
      | (n, .inr (.inl a)), z => exact absurd rfl (z a)
      | (n, .inr (.inr (some r))), _ => rfl
      | (n, .inr (.inr none)), _ => rfl
    simp only [lvc, List.map_cons, List.filter_cons] at ih ⊢
    rw [hc]
    by_cases hq : q.1 = i
    · simpa [hq] using ih
    · simpa [hq] using ih
theorem k_istore {j : Fin 4} {i : Nat} {a : Int} (C : X.ok) (hd : decode X.code pc = .ok (.istore_n j, 1)) (hj : (j : Nat) = i) (hn : i < X.nL) (hlv : ∀ q ∈ lv, ∀ x, q.2 ≠ .inr (.inl x)) (he : (i, vi a) :: lv.filter (fun q => !(q.1 == i)) = lv') (kk : KJ X (pc + 1) lv' st F ms h L cells slots) : KJ X pc lv (vi a :: st) F ms h L cells slots := by
  intro ad H locs ls I hP hD hS hl
  subst he
  refine lv_istore_n (x := Int32.ofInt a) (lv' := lvc ad ((i, vi a) :: lv.filter (fun q => !(q.1 == i)))) C.1 C.2.1 hd hj hl hn (lvc_set ad i (vi a) (Or.inl rfl) lv hlv) (fun ls hl => ?_)
  exact kk ad H locs ls ⟨I.an, fun q hq => by
    rcases List.mem_cons.mp hq with rfl | hq
    · exact I.st (vi a) List.mem_cons_self
    · exact I.lo q (List.mem_filter.mp hq).1, I.tl.st, I.fi, I.sl, I.cl⟩ hP hD hS hl
theorem k_astore {j : Fin 4} {i : Nat} {r : Tg} (C : X.ok) (hd : decode X.code pc = .ok (.astore_n j, 1)) (hj : (j : Nat) = i) (hn : i < X.nL) (hlv : ∀ q ∈ lv, ∀ x, q.2 ≠ .inr (.inl x)) (he : (i, vr r.1 r.2) :: lv.filter (fun q => !(q.1 == i)) = lv') (kk : KJ X (pc + 1) lv' st F ms h L cells slots) : KJ X pc lv (vr r.1 r.2 :: st) F ms h L cells slots := by
  intro ad H locs ls I hP hD hS hl
  subst he
  refine lv_astore_n (x := ad r.1 r.2) (lv' := lvc ad ((i, vr r.1 r.2) :: lv.filter (fun q => !(q.1 == i)))) C.1 C.2.1 hd hj hl hn (lvc_set ad i (vr r.1 r.2) (Or.inr ⟨_, rfl⟩) lv hlv) (fun ls hl => ?_)
  exact kk ad H locs ls ⟨I.an, fun q hq => by
    rcases List.mem_cons.mp hq with rfl | hq
    · exact I.st (vr r.1 r.2) List.mem_cons_self
    · exact I.lo q (List.mem_filter.mp hq).1, I.tl.st, I.fi, I.sl, I.cl⟩ hP hD hS hl
theorem k_iinc {i k : Nat} {a b d : Int} (C : X.ok) (hd : decode X.code pc = .ok (.iinc i d, 3)) (hk : lv[k]? = some (i, vi a)) (hb : a + d = b) (hb3 : I3 b) (hn : i < X.nL) (hlv : ∀ q ∈ lv, ∀ x, q.2 ≠ .inr (.inl x)) (he : (i, vi b) :: lv.filter (fun q => !(q.1 == i)) = lv') (kk : KJ X (pc + 3) lv' st F ms h L cells slots) : KJ X pc lv st F ms h L cells slots := by
  intro ad H locs ls I hP hD hS hl
  subst he
  refine lv_iinc (v := Int32.ofInt b) (k := k) (x := Int32.ofInt a) (lv' := lvc ad ((i, vi b) :: lv.filter (fun q => !(q.1 == i)))) C.1 C.2.1 hd hl (by simp [lvc, hk, vi, cv]) (by rw [← hb, Int32.ofInt_add]) hn (lvc_set ad i (vi b) (Or.inl rfl) lv hlv) (fun ls hl => ?_)
  exact kk ad H locs ls ⟨I.an, fun q hq => by
    rcases List.mem_cons.mp hq with rfl | hq
    · exact hb3
    · exact I.lo q (List.mem_filter.mp hq).1, I.st, I.fi, I.sl, I.cl⟩ hP hD hS hl
end MAKE
