def nw_all : List Cond := [.methodLinkNest "PretzelProof$Reader" 104 ⟨"PretzelProof", "isIn", "(II)Z"⟩ "PretzelProof", .methodLinkNest "PretzelProof$Numbering" 22 ⟨"PretzelProof", "isIn", "(II)Z"⟩ "PretzelProof", .methodLinkNest "PretzelProof$MoveList" 65 ⟨"PretzelProof", "crossingOf", "(I)I"⟩ "PretzelProof", .methodLinkNest "PretzelProof$MoveList" 68 ⟨"PretzelProof", "isIn", "(II)Z"⟩ "PretzelProof", .methodLinkNest "PretzelProof$MoveList" 55 ⟨"PretzelProof", "takenBy", "(I)I"⟩ "PretzelProof", .methodLinkNest "PretzelProof$Colours" 80 ⟨"PretzelProof", "crossingOf", "(I)I"⟩ "PretzelProof", .methodLinkNest "PretzelProof$Colours" 37 ⟨"PretzelProof", "leftOver", "(II)I"⟩ "PretzelProof", .methodLinkNest "PretzelProof$Rope" 50 ⟨"PretzelProof", "crossingOf", "(I)I"⟩ "PretzelProof", .methodLinkNest "PretzelProof$Rope" 57 ⟨"PretzelProof", "isIn", "(II)Z"⟩ "PretzelProof", .methodLinkNest "PretzelProof$Shaking" 70 ⟨"PretzelProof", "takenBy", "(I)I"⟩ "PretzelProof", .methodLinkNest "PretzelProof$Rounds" 62 ⟨"PretzelProof", "crossingOf", "(I)I"⟩ "PretzelProof"]
/-! an abstract machine over the kit's rows: ints as Int in range, cells by (tag, number), a heap as a function -/
abbrev AV : Type := Int ⊕ (Int ⊕ Option (Nat × Nat))
abbrev HH : Type := Nat → Nat → Nat → Int
abbrev GG : Type := va_G × (Nat → ClassId) × (Nat → Nat → Nat)
abbrev EN : Type := Nat × Instr × Nat × Nat × Nat
abbrev MD : Type := MethodName × ByteArray × Nat × Option FieldType × (Nat × Nat) × List EN
def vi (a : Int) : AV := .inl a
def vl (a : Int) : AV := .inr (.inl a)
def vr (t i : Nat) : AV := .inr (.inr (some (t, i)))
def vn : AV := .inr (.inr none)
/-- how many cells a tag has -/
def cnt (t : Nat) : Nat := match t with
  | 1 => 2 | 2 => 2 | 3 => 20 | 4 => 20 | 5 => 100 | 6 => 100 | 27 => 8 | _ => 1
/-- the class of an object's tag, by its place in vwCl -/
def ko (t : Nat) : Option Nat := match t with
  | 0 => some 10 | 1 => some 4 | 3 => some 9 | 5 => some 6 | 7 => some 5 | 10 => some 2 | 14 => some 0 | 17 => some 3 | 22 => some 8 | 25 => some 1 | 31 => some 7 | 40 => some 11 | _ => none
/-- an array's tag: its kind (0 int, 1 byte, 2 Tray, 3 Rope, 4 int rows), its length -/
def ka (t : Nat) : Option (Nat × Nat) := match t with
  | 2 => some (0, 26) | 4 => some (3, 5) | 6 => some (0, 16) | 8 => some (0, 240) | 9 => some (0, 16) | 11 => some (2, 16) | 12 => some (2, 2) | 13 => some (0, 2) | 15 => some (0, 15) | 16 => some (0, 15)
  | 18 => some (0, 16) | 19 => some (0, 8) | 20 => some (0, 8) | 21 => some (0, 36) | 23 => some (0, 256) | 24 => some (0, 256) | 26 => some (4, 8) | 27 => some (0, 8) | 28 => some (0, 8) | 29 => some (0, 8) | 30 => some (0, 8)
  | 32 => some (0, 16) | 33 => some (0, 16)
  | 41 => some (0, 1748) | 42 => some (0, 2) | 43 => some (0, 2) | 44 => some (1, 240) | 45 => some (0, 5) | 46 => some (0, 80) | 47 => some (0, 26) | 48 => some (0, 15) | 49 => some (0, 15) | 50 => some (0, 16) | 51 => some (0, 16) | 52 => some (0, 16)
  | 53 => some (0, 16) | 54 => some (0, 256) | 55 => some (0, 256) | 56 => some (0, 8) | 57 => some (0, 8) | 58 => some (0, 64) | 59 => some (0, 8) | 60 => some (0, 8) | 61 => some (0, 8)
  | _ => none
/-- the cells that cells refer to -/
def rf (t i k : Nat) : Option (Nat × Nat) := match t with
  | 0 => (match k with | 0 => some (7, 0) | 1 => some (3, 1) | 2 => some (10, 0) | 3 => some (12, 0) | 4 => some (13, 0) | 5 => some (14, 0) | 6 => some (17, 0) | 7 => some (22, 0) | 8 => some (25, 0) | 9 => some (31, 0) | _ => none)
  | 1 => (match k with | 0 => some (2, i) | _ => none)
  | 3 => (match k with | 0 => some (4, i) | _ => none)
  | 4 => some (5, 5 * i + k)
  | 5 => (match k with | 0 => some (1, 0) | 1 => some (6, i) | _ => none)
  | 7 => (match k with | 0 => some (8, 0) | 1 => some (3, 0) | 2 => some (1, 1) | 3 => some (9, 0) | _ => none)
  | 10 => (match k with | 0 => some (11, 0) | _ => none)
  | 11 => some (3, 2 + k)
  | 12 => some (3, 18 + k)
  | 14 => (match k with | 0 => some (15, 0) | 1 => some (16, 0) | _ => none)
  | 17 => (match k with | 0 => some (18, 0) | 1 => some (19, 0) | 2 => some (20, 0) | 3 => some (21, 0) | _ => none)
  | 22 => (match k with | 0 => some (23, 0) | 1 => some (24, 0) | _ => none)
  | 25 => (match k with | 0 => some (26, 0) | 1 => some (28, 0) | 2 => some (29, 0) | 3 => some (30, 0) | _ => none)
  | 26 => some (27, k)
  | 31 => (match k with | 0 => some (1, 0) | 1 => some (32, 0) | 2 => some (33, 0) | _ => none)
  | 40 => (match k with | 0 => some (41, 0) | 4 => some (42, 0) | 5 => some (43, 0) | 7 => some (44, 0) | 14 => some (45, 0) | 15 => some (46, 0) | 16 => some (47, 0) | 18 => some (48, 0) | 19 => some (49, 0) | 21 => some (50, 0) | 22 => some (51, 0) | 23 => some (52, 0) | 26 => some (53, 0) | 27 => some (54, 0) | 28 => some (55, 0) | 29 => some (56, 0) | 30 => some (57, 0) | 31 => some (58, 0) | 32 => some (59, 0) | 33 => some (60, 0) | 34 => some (61, 0) | _ => none)
  | _ => none
def tg_all : List Nat := [0, 1, 2, 3, 4, 5, 6, 7, 8, 9, 10, 11, 12, 13, 14, 15, 16, 17, 18, 19, 20, 21, 22, 23, 24, 25, 26, 27, 28, 29, 30, 31, 32, 33, 40, 41, 42, 43, 44, 45, 46, 47, 48, 49, 50, 51, 52, 53, 54, 55, 56, 57, 58, 59, 60, 61]
def cs : List (Nat × Nat) := tg_all.flatMap fun t => (List.range (cnt t)).map fun i => (t, i)
def vt (t i : Nat) : Prop := t ∈ tg_all ∧ i < cnt t
theorem cs_mem {t i : Nat} (h : vt t i) : (t, i) ∈ cs := List.mem_flatMap.mpr ⟨t, h.1, List.mem_map.mpr ⟨i, List.mem_range.mpr h.2, rfl⟩⟩
def nfc (c : Nat) : Nat := ((vwCl[c]?).map fun q => q.2.2).getD 0
def cv (ad : Nat → Nat → Nat) : AV → Value
  | .inl a => .int (Int32.ofInt a)
  | .inr (.inl a) => .long (Int64.ofInt a)
  | .inr (.inr (some q)) => .ref (ad q.1 q.2)
  | .inr (.inr none) => .null
def I3 (a : Int) : Prop := -2147483648 ≤ a ∧ a < 2147483648
def I6 (a : Int) : Prop := -9223372036854775808 ≤ a ∧ a < 9223372036854775808
def rg : AV → Prop
  | .inl a => I3 a
  | .inr (.inl a) => I6 a
  | .inr (.inr (some q)) => vt q.1 q.2
  | .inr (.inr none) => True
def fv (ad : Nat → Nat → Nat) (t i k : Nat) (x : Int) : Value := match rf t i k with
  | some q => .ref (ad q.1 q.2)
  | none => .int (Int32.ofInt x)
def ce (G : GG) (t i : Nat) (g : Nat → Int) : va_E := match ko t with
  | some c => .inr (c, (List.range (nfc c)).map fun k => fv G.2.2 t i k (g k))
  | none => match ka t with
    | some an => if an.1 ≤ 1 then .inl (G.2.1 an.1, an.2, .inl fun k => Int32.ofInt (g k)) else .inl (G.2.1 an.1, an.2, .inr (.inr (.inr (.inr fun k => (rf t i k).map fun q => G.2.2 q.1 q.2))))
    | none => .inr (0, [])
def ws_ (G : GG) (h : HH) : va_W := cs.map fun q => (G.2.2 q.1 q.2, ce G q.1 q.2 (h q.1 q.2))
def HW (h : HH) : Prop := ∀ t i k, I3 (h t i k)
def put (h : HH) (t i k : Nat) (v : Int) : HH := fun t' i' k' => if t' = t ∧ i' = i ∧ k' = k then v else h t' i' k'
theorem put_wf {h : HH} {t i k : Nat} {v : Int} (hh : HW h) (hv : I3 v) : HW (put h t i k v) := by
  intro t' i' k'
  unfold put
  split
  · exact hv
  · exact hh t' i' k'
theorem ws_at {G : GG} {h : HH} {t i : Nat} (hv : vt t i) : ∃ k0 : Nat, cs[k0]? = some (t, i) ∧ (ws_ G h)[k0]? = some (G.2.2 t i, ce G t i (h t i)) := by
  obtain ⟨k0, hk⟩ := List.getElem?_of_mem (cs_mem hv)
  exact ⟨k0, hk, by simp [ws_, List.getElem?_map, hk]⟩
theorem ws_set {G : GG} {h h' : HH} {t i k0 : Nat} {A : Nat → Prop} (hD : va_D A (ws_ G h)) (hk : cs[k0]? = some (t, i)) (ho : ∀ t' i', ¬ (t' = t ∧ i' = i) → h' t' i' = h t' i') : (ws_ G h).set k0 (G.2.2 t i, ce G t i (h' t i)) = ws_ G h' := by
  apply List.ext_getElem?
  intro j
  rw [List.getElem?_set]
  by_cases hj : k0 = j
  · subst hj
    have hlt : k0 < (ws_ G h).length := by
      have := (List.getElem?_eq_some_iff.mp hk).1
      simpa [ws_] using this
    rw [if_pos rfl, if_pos hlt]
    simp [ws_, List.getElem?_map, hk]
  · rw [if_neg hj]
    cases hq : cs[j]? with
    | none => simp [ws_, List.getElem?_map, hq]
    | some q =>
      have hne : ¬ (q.1 = t ∧ q.2 = i) := by
        intro hh
        have e1 : (ws_ G h)[j]? = some (G.2.2 q.1 q.2, ce G q.1 q.2 (h q.1 q.2)) := by simp [ws_, List.getElem?_map, hq]
        have e2 : (ws_ G h)[k0]? = some (G.2.2 t i, ce G t i (h t i)) := by simp [ws_, List.getElem?_map, hk]
        exact hj (hD.1 k0 j _ _ e2 e1 (by rw [hh.1, hh.2]))
      simp [ws_, List.getElem?_map, hq, ho q.1 q.2 hne]
def tk (G : GG) : List (ClassId × FieldType) := [(G.2.1 0, .int), (G.2.1 1, .byte), (G.2.1 2, .object "PretzelProof$Tray"), (G.2.1 3, .object "PretzelProof$Rope"), (G.2.1 4, .array .int)]
def lw_gd : List Cond := lw_tbl.filter goodWord
theorem gd_good : GoodIn lw_gd lw_gd := fun w hw => ⟨hw, good_of_word (List.mem_filter.mp hw).2⟩
theorem gd_in {w : Cond} (h : w ∈ lw_tbl) (hg : goodWord w = true) : w ∈ lw_gd := List.mem_filter.mpr ⟨h, hg⟩
def WK (G : GG) (U : State) : Prop := va_K G.1 vwCl (tk G) U ∧ ∀ w ∈ nw_all, va_Nw w U
theorem WK.warm {G : GG} {s U : State} (hW : s.WarmedH U.vm) (h : WK G s) : WK G U := by
  refine ⟨va_K.moved hW.alike h.1, fun w hw => ?_⟩
  have h2 := h.2 w hw
  simp only [nw_all, List.mem_cons, List.not_mem_nil, or_false] at hw
  rcases hw with rfl | rfl | rfl | rfl | rfl | rfl | rfl | rfl | rfl | rfl | rfl <;> exact va_Nw.warmM hW h2
theorem WK.same {G : GG} {s U : State} (hW : s.vm = U.vm) (h : WK G s) : WK G U := by
  refine ⟨va_K.moved (by rw [hW]; exact Vm.Alike.refl U.vm) h.1, fun w hw => ?_⟩
  have h2 := h.2 w hw
  simp only [nw_all, List.mem_cons, List.not_mem_nil, or_false] at hw
  rcases hw with rfl | rfl | rfl | rfl | rfl | rfl | rfl | rfl | rfl | rfl | rfl <;> exact va_Nw.same rfl hW h2
def off_ : Instr → Option Int
  | .goto o => some o
  | .if_icmp _ o => some o
  | .ifCond _ o => some o
  | .ifnull o => some o
  | .ifnonnull o => some o
  | _ => none
def cst_ : Instr → Bool
  | .iconst n => decide (-2147483648 ≤ n) && decide (n < 2147483648)
  | .bipush n => decide ((Int8.ofInt n).toInt32 = Int32.ofInt n) && decide (-2147483648 ≤ n) && decide (n < 2147483648)
  | .sipush n => decide ((Int16.ofInt n).toInt32 = Int32.ofInt n) && decide (-2147483648 ≤ n) && decide (n < 2147483648)
  | _ => true
def ok1 (code : ByteArray) (e : EN) : Bool := decide (decode code e.1 = .ok (e.2.1, e.2.2.1)) && decide (e.2.2.2.1 = e.1 + e.2.2.1) && cst_ e.2.1 && (match off_ e.2.1 with | some o => decide ((e.1 : Int) + o = (e.2.2.2.2 : Int)) | none => true)
def okc (code : ByteArray) (T : List EN) : Bool := T.all (ok1 code)
def wq (M : MD) : List Cond := .code M.1 M.2.1 M.2.2.1 M.2.2.2.1 :: lw_gd
def rq (M : MD) : Room := { frames := M.2.2.2.2.1.1, cells := 0, slots := 0, locals := M.2.2.2.2.1.2 }
def tb (M : MD) : List EN := M.2.2.2.2.2
def QQ (G : GG) (P : Option AV → HH → Prop) (A : Nat → Prop) : Array Value → State → Outcome → State → Prop := fun _ st oc t => (∃ (r : Option AV) (h' : HH), oc = .returned (r.map (cv G.2.2)) ∧ P r h' ∧ (∀ v ∈ r, rg v) ∧ HW h' ∧ va_P G.1 vwCl (ws_ G h') t.heap ∧ WK G t ∧ va_D A (ws_ G h')) ∧ va_F A st t
def CX (M : MD) (G : GG) (A : Nat → Prop) (p : Program) (s : State) (m : MethodId) (args : Array Value) (meth : Method) (c : Code) : Prop := p.tables.exec = Jvm.exec ∧ c.code = M.2.1 ∧ meth.sig.returnType = M.2.2.2.1 ∧ c.maxLocals = M.2.2.1 ∧ s.vm.findClass M.1.cls = some m.cls ∧ (∀ w ∈ wq M, w.before args s = true) ∧ meth.locks = false ∧ WK G s ∧ okc M.2.1 (tb M) = true ∧ (∀ q, s.heap.size ≤ q → A q)
abbrev LV : Type := List (Nat × AV)
def lvc (ad : Nat → Nat → Nat) (lv : LV) : List (Nat × Value) := lv.map fun q => (q.1, cv ad q.2)
/-- from here the method comes to its end with P -/
def AW (M : MD) (P : Option AV → HH → Prop) (pc : Nat) (lv : LV) (st : List AV) (h : HH) : Prop :=
  ∀ (l : Launch) (p : Program) (e : Env) (s : State) (m : MethodId) (args : Array Value) (below : List Frame) (meth : Method) (c : Code) (G : GG) (A : Nat → Prop), CX M G A p s m args meth c → (∀ q ∈ lv, rg q.2) → (∀ v ∈ st, rg v) → HW h → ∀ (H : Heap) (locs : List Loc) (ls : Array Slot), va_P G.1 vwCl (ws_ G h) H → va_D A (ws_ G h) → va_S A s.heap H locs → lv_has ls M.2.2.1 (lvc G.2.2 lv) →
    W p l e (rq M) s m args below meth c H locs 0 0 (MQ below (QQ G P A) args s 0 0 A) (F0 m pc ls (st.map (cv G.2.2)))
/-- a method's contract -/
def Sp (M : MD) (av : List AV) (h : HH) (P : Option AV → HH → Prop) : Prop :=
  (∀ v ∈ av, rg v) → HW h → ∀ (l : Launch) (G : GG) (sz : Nat), Met l M.1 (wq M) (rq M) (va_Pc (av.map (cv G.2.2)) (fun U => U.heap.size = sz ∧ WK G U ∧ va_P G.1 vwCl (ws_ G h) U.heap ∧ va_D (fun _ => True) (ws_ G h))) (QQ G P (va_A (ws_ G h) sz)) 0 0 (va_A (ws_ G h) sz)
theorem ok_at {code : ByteArray} {T : List EN} {k pc n np tg : Nat} {i : Instr} (h : okc code T = true) (hk : T[k]? = some (pc, i, n, np, tg)) : decode code pc = .ok (i, n) ∧ np = pc + n ∧ cst_ i = true ∧ (∀ o, off_ i = some o → (pc : Int) + o = (tg : Int)) := by
  have h1 := List.all_eq_true.mp h _ (List.mem_of_getElem? hk)
  simp only [ok1, Bool.and_eq_true, decide_eq_true_eq] at h1
  obtain ⟨⟨⟨h2, h3⟩, h4⟩, h5⟩ := h1
  refine ⟨h2, h3, h4, fun o ho => ?_⟩
  rw [ho] at h5
  simpa using h5
def la : Nat → List AV → LV
  | _, [] => []
  | i, v :: vs => (i, v) :: la (match v with | .inr (.inl _) => i + 2 | _ => i + 1) vs
def aw_ : List AV → Nat
  | [] => 0
  | v :: vs => (match v with | .inr (.inl _) => 2 | _ => 1) + aw_ vs
theorem la_cv (ad : Nat → Nat → Nat) : ∀ (vs : List AV) (i : Nat), lv_args i (vs.map (cv ad)) = lvc ad (la i vs)
  | [], i => rfl
  | .inl a :: vs, i => by
    show (i, _) :: lv_args (i + 1) (vs.map (cv ad)) = (i, _) :: lvc ad (la (i + 1) vs)
    rw [la_cv ad vs (i + 1)]
  | .inr (.inl a) :: vs, i => by
    show (i, _) :: lv_args (i + 2) (vs.map (cv ad)) = (i, _) :: lvc ad (la (i + 2) vs)
    rw [la_cv ad vs (i + 2)]
  | .inr (.inr (some q)) :: vs, i => by
    show (i, _) :: lv_args (i + 1) (vs.map (cv ad)) = (i, _) :: lvc ad (la (i + 1) vs)
    rw [la_cv ad vs (i + 1)]
  | .inr (.inr none) :: vs, i => by
    show (i, _) :: lv_args (i + 1) (vs.map (cv ad)) = (i, _) :: lvc ad (la (i + 1) vs)
    rw [la_cv ad vs (i + 1)]
theorem aw_len (ad : Nat → Nat → Nat) : ∀ vs : List AV, (lg_sl (vs.map (cv ad))).length = aw_ vs
  | [] => rfl
  | .inl a :: vs => by
    show ([Slot.val _] ++ lg_sl (vs.map (cv ad))).length = 1 + aw_ vs
    rw [List.length_append, aw_len ad vs]; rfl
  | .inr (.inl a) :: vs => by
    show ([Slot.val _, .second] ++ lg_sl (vs.map (cv ad))).length = 2 + aw_ vs
    rw [List.length_append, aw_len ad vs]; rfl
  | .inr (.inr (some q)) :: vs => by
    show ([Slot.val _] ++ lg_sl (vs.map (cv ad))).length = 1 + aw_ vs
    rw [List.length_append, aw_len ad vs]; rfl
  | .inr (.inr none) :: vs => by
    show ([Slot.val _] ++ lg_sl (vs.map (cv ad))).length = 1 + aw_ vs
    rw [List.length_append, aw_len ad vs]; rfl
theorem la_rg : ∀ (vs : List AV) (i : Nat), (∀ v ∈ vs, rg v) → ∀ q ∈ la i vs, rg q.2
  | [], i, _, q, hq => by cases hq
  | v :: vs, i, h, q, hq => by
    rcases List.mem_cons.mp hq with rfl | hq
    · exact h v List.mem_cons_self
    · exact la_rg vs _ (fun w hw => h w (List.mem_cons_of_mem _ hw)) q hq
theorem Sp.of {M : MD} {av : List AV} {h : HH} {P : Option AV → HH → Prop} (hy : plainName M.1.cls = true) (hok : okc M.2.1 (tb M) = true) (hn : aw_ av ≤ M.2.2.1) (kk : AW M P 0 (la 0 av) [] h) : Sp M av h P := by
  intro hr hw l G sz
  refine Met.ofW (cc := M.2.1) (maxL := M.2.2.1) (ret := M.2.2.2.1) hy rfl ?_
  intro p e s m args below meth c s₁ B hml hv
  obtain ⟨rfl, hsz, hK, hP, hD0⟩ := hv
  subst hsz
  have hts := atoms_spec (ws := wq M) B.pre
  have hown : s.vm.findClass M.1.cls = some m.cls := findClass_of_methodNamed B.named
  have hl := lv_entry (av.map (cv G.2.2)) (n := M.2.2.1) (by rw [aw_len]; exact hn)
  rw [lg_entry_eq]
  generalize (lg_sl (av.map (cv G.2.2)) ++ List.replicate (M.2.2.1 - (lg_sl (av.map (cv G.2.2))).length) Slot.unset).toArray = ls at hl ⊢
  rw [la_cv] at hl
  exact kk l p e s m _ below meth c G (va_A (ws_ G h) s.heap.size) ⟨B.exec, B.bytes, B.returns, hml, hown, hts, B.notSynchronized, hK, hok, fun q hq => Or.inr hq⟩ (la_rg av 0 hr) (fun v hv => by cases hv) hw s.heap [] ls hP hD0.self va_S.rf hl
