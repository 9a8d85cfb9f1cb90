/-! eight rows of eight ints, made at once: the heap behind it in closed form -/
theorem ao_int {args : Array Value} {first s : State} {o : Option Outcome} {idx : List Nat} (h : (Cond.arrayOver (.array .int)).holds args first o s idx = true) : ∃ (cR cA : ClassId) (kA : Class), s.vm.findClass (FieldType.array .int).toString = some cR ∧ (s.vm.classes.findIdx? fun (x : Class) => match x.kind with | .array component _ => component == cR | _ => false) = some cA ∧ s.vm.classes[cA]? = some kA ∧ kA.kind = .array cR (.array .int) ∧ s.vm.findClass ("[" ++ (FieldType.array .int).toString) = some cA := by
  unfold Cond.holds at h
  simp only [Cond.value] at h
  obtain ⟨cR, h1, h⟩ := Option.bind_eq_some_iff.mp (eq_of_beq h)
  obtain ⟨cA, h2, h⟩ := Option.bind_eq_some_iff.mp h
  obtain ⟨kA, h3, h⟩ := Option.map_eq_some_iff.mp h
  have hf := Array.of_findIdx?_eq_some h2
  rw [h3] at hf
  refine ⟨cR, cA, kA, h1, h2, h3, ?_⟩
  have hf : (match kA.kind with | .array component _ => component == cR | _ => false) = true := hf
  generalize kA.kind = kd at h hf
  cases kd with
  | array co ty =>
    have e1 : co = cR := eq_of_beq hf
    have e2 := (Bool.and_eq_true _ _).mp h
    exact ⟨by rw [e1, of_decide_eq_true e2.1], of_decide_eq_true e2.2⟩
  | _ => cases h
def rwI (cR : ClassId) : Cell := arrV cR 8 (fun _ => .int 0)
def rwO (cA : ClassId) (b i : Nat) : Cell := arrV cA 8 (fun j => va_rf (if j < i then some (b + 1 + j) else none))
/-- i of the eight rows stand -/
def rwS (U : State) (cA cR : ClassId) (i : Nat) : State := { U with heap := U.heap.push (rwO cA U.heap.size i) ++ Array.replicate i (rwI cR), slotsUsed := U.slotsUsed + 8 + 8 * i }
theorem rwO_set (cA : ClassId) (b : Nat) {i : Nat} : (rwO cA b i).setSlot i (.ref (b + 1 + i)) = rwO cA b (i + 1) := by
  unfold rwO
  rw [arrV_store]
  congr 1
  funext j
  show (if j = i then Value.ref (b + 1 + i) else va_rf (if j < i then some (b + 1 + j) else none)) = va_rf (if j < i + 1 then some (b + 1 + j) else none)
  rcases Nat.lt_trichotomy j i with h | h | h
  · rw [if_neg (by omega), if_pos h, if_pos (by omega)]
  · subst h
    rw [if_pos rfl, if_pos (by omega)]
    rfl
  · rw [if_neg (by omega), if_neg (by omega), if_neg (by omega)]
theorem rwS_size (U : State) (cA cR : ClassId) (i : Nat) : (rwS U cA cR i).heap.size = U.heap.size + 1 + i := by
  show (U.heap.push _ ++ Array.replicate i _).size = _
  simp
theorem rwS_old (U : State) (cA cR : ClassId) (i : Nat) {a : Nat} (h : a < U.heap.size) : (rwS U cA cR i).heap[a]? = U.heap[a]? := by
  show (U.heap.push _ ++ Array.replicate i _)[a]? = _
  rw [Array.getElem?_append_left (by simp; omega), Array.getElem?_push_lt h, Array.getElem?_eq_getElem h]
theorem rwS_out (U : State) (cA cR : ClassId) (i : Nat) : (rwS U cA cR i).heap[U.heap.size]? = some (rwO cA U.heap.size i) := by
  show (U.heap.push _ ++ Array.replicate i _)[U.heap.size]? = _
  rw [Array.getElem?_append_left (by simp), Array.getElem?_push_size]
theorem rwS_row (U : State) (cA cR : ClassId) {i j : Nat} (h : j < i) : (rwS U cA cR i).heap[U.heap.size + 1 + j]? = some (rwI cR) := by
  show (U.heap.push _ ++ Array.replicate i _)[U.heap.size + 1 + j]? = _
  rw [Array.getElem?_append_right (by simp), Array.getElem?_replicate, if_pos (by simp; omega)]
theorem rwS_zero (U : State) (cA cR : ClassId) : U.pushCell (rwO cA U.heap.size 0) = rwS U cA cR 0 := by
  unfold State.pushCell rwS
  rw [show (rwO cA U.heap.size 0).slots.size = 8 from arrV_size _ _ _]
  simp
theorem rwS_succ (U : State) (cA cR : ClassId) (i : Nat) : ((rwS U cA cR i).pushCell (rwI cR)).setCell U.heap.size (rwO cA U.heap.size (i + 1)) = rwS U cA cR (i + 1) := by
  have e : ((U.heap.push (rwO cA U.heap.size i) ++ Array.replicate i (rwI cR)).push (rwI cR)).setIfInBounds U.heap.size (rwO cA U.heap.size (i + 1)) = U.heap.push (rwO cA U.heap.size (i + 1)) ++ Array.replicate (i + 1) (rwI cR) := by
    rw [← Array.append_push, ← Array.replicate_succ]
    apply Array.ext_getElem?
    intro a
    rw [Array.getElem?_setIfInBounds]
    by_cases h : U.heap.size = a
    · subst h
      rw [if_pos rfl, if_pos (by simp; omega), Array.getElem?_append_left (by simp), Array.getElem?_push_size]
    · rw [if_neg h]
      by_cases h2 : a < U.heap.size
      · rw [Array.getElem?_append_left (by simp; omega), Array.getElem?_append_left (by simp; omega), Array.getElem?_push_lt h2, Array.getElem?_push_lt h2]
      · rw [Array.getElem?_append_right (by simp; omega), Array.getElem?_append_right (by simp; omega)]
        simp
  unfold rwS State.pushCell State.setCell
  rw [show (rwI cR).slots.size = 8 from arrV_size _ _ _]
  simp only [e]
  rw [show U.slotsUsed + 8 + 8 * i + 8 = U.slotsUsed + 8 + 8 * (i + 1) from by omega]
section
variable {p : Program} {l : Launch} {e : Env} {R : Room} {s : State} {m : MethodId} {args : Array Value} {below : List Frame} {meth : Method} {c : Code} {T : State} {locs : List Loc} {cells slots : Nat}
theorem rwS_stand (X : Stand p l e R s m args below meth c T locs cells slots) (cA cR : ClassId) (i : Nat) : Stand p l e R s m args below meth c (rwS T cA cR i) locs (cells + 1 + i) (slots + 8 + 8 * i) := by
  induction i with
  | zero =>
    have Y := X.pushed (rwO cA T.heap.size 0)
    rw [rwS_zero T cA cR] at Y
    exact Y
  | succ i ih =>
    have Y := (ih.pushed (rwI cR)).stored (a := T.heap.size) (cell := rwO cA T.heap.size i) ((State.heap_pushCell_of_lt (s := rwS T cA cR i) (c := rwI cR) (a := T.heap.size) (Nat.lt_of_lt_of_eq (show T.heap.size < T.heap.size + 1 + i by omega) (rwS_size T cA cR i).symm)).trans (rwS_out T cA cR i)) i (.ref (T.heap.size + 1 + i))
    rw [rwO_set, rwS_succ] at Y
    have Z := Y.dropFresh (fun x hx => by rw [List.mem_singleton.mp hx]; exact X.heapGrown)
    rw [show slots + 8 + 8 * i + (rwI cR).slots.size = slots + 8 + 8 * (i + 1) from by rw [show (rwI cR).slots.size = 8 from arrV_size _ _ _]; omega] at Z
    exact Z
end
section
variable {E : CtlPost} {e : Env} {d : Bool} {acts : List Action} {U : State}
theorem rw_new {k co : ClassId} {kk : Class} {t : FieldType} {x : Value} (hk : U.vm.classes[k]? = some kk) (hkk : kk.kind = .array co t) (hl : 8 ≤ e.platform.arrayLengthLimit) (hb : 8 * componentBytes t ≤ e.platform.maxHeapBytes) (hx : fits t x = true) (hd : x.isDefault = true) (hc : U.heap.size + 1 ≤ e.platform.maxCells) (hs : U.slotsUsed + 8 ≤ e.platform.maxSlots) {Q : Addr → Pre} (q : Q U.heap.size d acts (U.pushCell (arrV k 8 fun _ => x))) : wp (Jvm.newArray k 8 x) Q E e d acts U := by
  rw [← arrV_new] at q
  unfold Jvm.newArray Jvm.arrayFits
  simp only [wp_bind', wp_pure', W.ask, W.ite, W.theClass, W.stop, W.alloc, hk, hkk, Option.some.injEq, exists_eq_left', Nat.not_lt.mpr hl, Nat.not_lt.mpr hb, gt_iff_lt, if_false]
  rw [if_neg (by omega)]
  refine ⟨hc, by simpa using hs, fun i v hv => ?_, ?_⟩
  · have hv : v = x := by
      rw [Array.getElem?_replicate] at hv
      by_cases hi : i < 8
      · rw [if_pos hi] at hv; exact (Option.some.inj hv).symm
      · rw [if_neg hi] at hv; cases hv
    subst hv
    simp [State.fitsSlot, State.slotType?, hk, hkk, hx]
  · have : allocActs (Array.replicate 8 x) U.heap.size acts = acts := by
      unfold allocActs
      rw [if_pos (Array.all_eq_true.mpr fun i hi => by simp [hd])]
    rw [this]
    exact q
theorem rw_row {cR co : ClassId} {kR : Class} (hk : U.vm.classes[cR]? = some kR) (hkk : kR.kind = .array co .int) (hl : 8 ≤ e.platform.arrayLengthLimit) (hb : 32 ≤ e.platform.maxHeapBytes) (hc : U.heap.size + 1 ≤ e.platform.maxCells) (hs : U.slotsUsed + 8 ≤ e.platform.maxSlots) {Q : Addr → Pre} (q : Q U.heap.size d acts (U.pushCell (rwI cR))) : wp (multianewarray.make cR [8]) Q E e d acts U := by
  rw [multianewarray.make]
  simp only [wp_bind', wp_pure', W.ite, W.theClass, hk, hkk, Option.some.injEq, exists_eq_left', show ¬ (8 : Int32) < 0 from by decide, if_false]
  exact rw_new hk hkk hl hb rfl rfl hc hs q
theorem rw_all {cA cR co : ClassId} {kA kR : Class} (ha : U.vm.classes[cA]? = some kA) (haa : kA.kind = .array cR (.array .int)) (hk : U.vm.classes[cR]? = some kR) (hkk : kR.kind = .array co .int) (hl : 8 ≤ e.platform.arrayLengthLimit) (hb : 32 ≤ e.platform.maxHeapBytes) (hc : U.heap.size + 9 ≤ e.platform.maxCells) (hs : U.slotsUsed + 72 ≤ e.platform.maxSlots) {Q : Addr → Pre} (q : ∀ d acts, Q U.heap.size d acts (rwS U cA cR 8)) : wp (multianewarray.make cA [8, 8]) Q E e d acts U := by
  rw [multianewarray.make]
  simp only [wp_bind', wp_pure', W.ite, W.theClass, ha, haa, Option.some.injEq, exists_eq_left', show ¬ (8 : Int32) < 0 from by decide, if_false]
  refine rw_new ha haa hl hb rfl rfl (by omega) (by omega) ?_
  have hz : ((8 : Int32) == 0) = false := by decide
  have loop : ∀ (n i : Nat) (d : Bool) (acts : List Action) (V : State), i + n = 8 → V = rwS U cA cR i → wp (forIn (List.range' i n 1) PUnit.unit fun i (_ : PUnit) => do
      Jvm.writeLoc U.heap.size i (.ref (← multianewarray.make cR [8]))
      Pure.pure (ForInStep.yield PUnit.unit)) (fun _ => Q U.heap.size) E e d acts V := by
    intro n
    induction n with
    | zero =>
      intro i d acts V hi hV
      subst hV
      have hi : i = 8 := hi
      subst hi
      simp only [List.range'_zero, List.forIn_nil, wp_pure']
      exact q _ _
    | succ n ih =>
      intro i d acts V hi hV
      subst hV
      have z := rwS_size U cA cR i
      rw [List.range'_succ]
      simp only [List.forIn_cons, wp_bind']
      refine rw_row (U := rwS U cA cR i) hk hkk hl hb (by omega) (by show U.slotsUsed + 8 + 8 * i + 8 ≤ _; omega) ?_
      simp only [wp_bind', W.writeLoc, wp_pure']
      refine ⟨rwO cA U.heap.size i, (State.heap_pushCell_of_lt (s := rwS U cA cR i) (c := rwI cR) (a := U.heap.size) (Nat.lt_of_lt_of_eq (show U.heap.size < U.heap.size + 1 + i by omega) z.symm)).trans (rwS_out U cA cR i), (fun h => by cases h), ?_, ?_, ?_⟩
      · rw [show (rwO cA U.heap.size i).slots.size = 8 from arrV_size _ _ _]
        omega
      · show (match (((U.vm.classes[cA]?).bind fun k => match k.kind with | .array _ type => some type | _ => k.instanceTypes[i]?) : Option FieldType) with | some t => fits t _ | none => false) = true
        rw [ha, Option.bind_some, haa]
        rfl
      · refine ih (i + 1) _ _ _ (by omega) ?_
        rw [z, rwO_set, rwS_succ]
  have start : U.pushCell (arrV cA 8 fun _ => .null) = rwS U cA cR 0 := rwS_zero U cA cR
  rw [start]
  rw [if_neg (by decide), wp_bind', Std.Legacy.Range.forIn_eq_forIn_range']
  simp only [wp_pure']
  exact loop 8 0 d acts _ rfl rfl
end
section
variable {p : Program} {l : Launch} {e : Env} {R : Room} {s : State} {m : MethodId} {args : Array Value} {below : List Frame} {meth : Method} {c : Code} {T : State} {locs : List Loc} {cells slots : Nat}
theorem rw_step (X : Stand p l e R s m args below meth c T locs cells slots) (hx : p.tables.exec = Jvm.exec) {own : String} {x : Nat} (hown : s.vm.findClass own = some m.cls) (hcl : (Cond.classLink own x "[[I").before args s = true) (hov : (Cond.arrayOver (.array .int)).before args s = true) (har : (Cond.arrayClass .int).before args s = true) {g : JFrame} (hg : g.method = m) (hd : decode c.code g.pc = .ok (.multianewarray x 2, 4)) {rest : List Value} (hst : g.stack = .int 8 :: .int 8 :: rest) (hc : cells + 9 ≤ R.cells) (hs : slots + 72 ≤ R.slots) :
    ∃ (vm₁ : Vm) (cA cR : ClassId), s.vm.findClass ("[" ++ (FieldType.array .int).toString) = some cA ∧ s.vm.findClass ("[" ++ FieldType.int.toString) = some cR ∧ Stand p l e R s m args below meth c (rwS (T.setVm vm₁) cA cR 8) locs (cells + 9) (slots + 72) ∧
      ∀ target, Steps p.tables e below ((rwS (T.setVm vm₁) cA cR 8).setTop { g with pc := g.pc + 4, stack := .ref T.heap.size :: rest }) target → Steps p.tables e below (T.setTop g) target := by
  obtain ⟨cR, cA, kA, a1, -, a3, a4, a5⟩ := ao_int hov
  obtain ⟨cR', kR, co, r1, r2, r3⟩ := Cond.arrayClass_spec har
  obtain rfl : cR' = cR := Option.some.inj (r1.symm.trans a1)
  obtain ⟨cA', f1, lk⟩ := Cond.classLink_spec hown hcl e.platform (by rw [X.admits.platform])
  obtain rfl : cA' = cA := Option.some.inj (f1.symm.trans a5)
  subst hg
  obtain ⟨gv, wv, -⟩ := State.classEntry (e := e) X.warmed lk
  generalize T.vm.noted g.method.cls x (.cls cA') = vm₁ at gv wv
  obtain ⟨kA₁, b3, eA⟩ := wv.alike.2.2 _ _ a3
  obtain ⟨kR₁, s2, eR⟩ := wv.alike.2.2 _ _ r2
  have b4 : kA₁.kind = .array cR' (.array .int) := by rw [eA]; exact a4
  have s3 : kR₁.kind = .array co .int := by rw [eR]; exact r3
  have Y := rwS_stand (X.noted wv) cA' cR' 8
  refine ⟨vm₁, cA', cR', a5, r1, Y, fun target go => ?_⟩
  obtain ⟨m1, m2⟩ := X.roomAbove hc hs
  jvm_step X.here [hx, hd]
  simp only [multianewarray.sem, wp_bind', W.resolveClassAt_links (State.method?_setTop g X.here.top) gv]
  refine (W.popN 2).mpr ?_
  rw [if_neg (show ¬ (2 = 0) from by decide)]
  refine ⟨g, State.topJava?_setTop' (s := T.setVm vm₁) g X.here.top, [.int 8, .int 8], rest, rfl, hst, ?_⟩
  simp only [List.mapM_cons, List.mapM_nil, wp_bind', wp_pure']
  have lim := Launch.admits_arrayLengthLimit X.admits
  have lib := Launch.admits_maxHeapBytes X.admits
  refine rw_all (U := ((T.setTop g).setVm vm₁).setTop { g with stack := rest }) (kA := kA₁) (kR := kR₁) (cR := cR') (co := co) b3 b4 s2 s3 (by omega) (by omega) m1 m2 fun d₁ acts₁ => ?_
  have top : (rwS (T.setVm vm₁) cA' cR' 8).topJava?.isSome := Y.here.top
  have here : rwS (((T.setTop g).setVm vm₁).setTop { g with stack := rest }) cA' cR' 8 = (rwS (T.setVm vm₁) cA' cR' 8).setTop { g with stack := rest } := by
    show rwS (((T.setVm vm₁).setTop g).setTop { g with stack := rest }) cA' cR' 8 = _
    rw [State.setTop_setTop]
    rfl
  rw [here]
  simp only [wp_bind', W.mark, W.pushRef, State.topJava?_setTop' _ top, Option.some.injEq, exists_eq_left', State.setTop_setTop]
  intro acts₂
  simp [jvm, top]
  exact go
end
