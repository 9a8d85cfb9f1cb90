/-! the law's own steps -/
theorem at_gd {p : Program} {s : State} {m : MethodId} {meth : Method} {c : Code} {b L : Nat} {xs : Nat → Int32} (C0 : lw_At p s m meth c b L xs) : ∀ w ∈ lw_gd, w.before #[Value.ref b] s = true := fun w hw => C0.2.2.2.2.2.1 w (List.mem_filter.mp hw).1
/-- from here the law comes to its end with true -/
def LJ (L : Nat) (xs : Nat → Int32) (i pc : Nat) (st : List AV) (h : HH) : Prop :=
  ∀ (p : Program) (l : Launch) (e : Env) (s : State) (m : MethodId) (below : List Frame) (meth : Method) (c : Code) (b : Nat) (G : GG) (H : Heap) (locs : List Loc) (ls : Array Slot), lw_At p s m meth c b L xs → WK G s → (∀ v ∈ st, rg v) → HW h → va_P G.1 vwCl (ws_ G h) H → va_D (fun q => s.heap.size ≤ q) (ws_ G h) → va_S (fun q => s.heap.size ≤ q) s.heap H locs → lv_has ls 4 [(0, .ref b), (1, .ref (G.2.2 0 0)), (2, .ref (G.2.2 40 0)), (3, .int (nI i))] → W p l e room_1 s m #[Value.ref b] below meth c H locs 600000 7302250 (lw_Z below #[Value.ref b] s) (F0 m pc ls (st.map (cv G.2.2)))
section LAW
variable {L i pc np tg k : Nat} {xs : Nat → Int32} {st stk : List AV} {h : HH} {T : List EN}
theorem l_a1 (hT : okc code T = true) (hd : T[k]? = some (pc, .aload_n 1, 1, np, tg)) (kk : LJ L xs i np (vr 0 0 :: st) h) : LJ L xs i pc st h := by
  intro p l e s m below meth c b G H locs ls C0 hK hs hw hP hD hS hl
  obtain ⟨d1, rfl, d3, d4⟩ := ok_at hT hd
  refine lv_aload_n C0.1 C0.2.1 d1 rfl (lv_at hl 1 rfl) ?_
  exact kk p l e s m below meth c b G H locs ls C0 hK (fun v hv => by
    rcases List.mem_cons.mp hv with rfl | hv
    · exact ⟨by decide, by decide⟩
    · exact hs v hv) hw hP hD hS hl
theorem l_a2 (hT : okc code T = true) (hd : T[k]? = some (pc, .aload_n 2, 1, np, tg)) (kk : LJ L xs i np (vr 40 0 :: st) h) : LJ L xs i pc st h := by
  intro p l e s m below meth c b G H locs ls C0 hK hs hw hP hD hS hl
  obtain ⟨d1, rfl, d3, d4⟩ := ok_at hT hd
  refine lv_aload_n C0.1 C0.2.1 d1 rfl (lv_at hl 2 rfl) ?_
  exact kk p l e s m below meth c b G H locs ls C0 hK (fun v hv => by
    rcases List.mem_cons.mp hv with rfl | hv
    · exact ⟨by decide, by decide⟩
    · exact hs v hv) hw hP hD hS hl
theorem rg_int {x : Int32} {st : List AV} (hs : ∀ v ∈ st, rg v) : ∀ v ∈ vi x.toInt :: st, rg v := fun v hv => by
  rcases List.mem_cons.mp hv with rfl | hv
  · exact i3_of x
  · exact hs v hv
/-- an argument out of the script -/
theorem l_arg {d : Nat} {j : Int} {p0 p1 p2 p3 p4 t0 t1 t2 t3 t4 : Nat} (hT : okc code T = true) (h0 : T[k]? = some (pc, .aload_n 0, 1, p0, t0)) (h1 : T[k + 1]? = some (p0, .iload_n 3, 1, p1, t1)) (h2 : T[k + 2]? = some (p1, .iconst j, 1, p2, t2)) (h3 : T[k + 3]? = some (p2, .iadd, 1, p3, t3)) (h4 : T[k + 4]? = some (p3, .iaload, 1, p4, t4)) (hj : Int32.ofInt j = nI d) (hL : L ≤ 256) (hi : i + d < L) (kk : LJ L xs i p4 (vi (xs (i + d)).toInt :: st) h) : LJ L xs i pc st h := by
  intro p l e s m below meth c b G H locs ls C0 hK hs hw hP hD hS hl
  obtain ⟨d0, rfl, -, -⟩ := ok_at hT h0
  obtain ⟨d1, rfl, -, -⟩ := ok_at hT h1
  obtain ⟨d2, rfl, -, -⟩ := ok_at hT h2
  obtain ⟨d3, rfl, -, -⟩ := ok_at hT h3
  obtain ⟨d4, rfl, -, -⟩ := ok_at hT h4
  refine lv_aload_n C0.1 C0.2.1 d0 rfl (lv_at hl 0 rfl) ?_
  refine lv_iload_n C0.1 C0.2.1 d1 rfl (lv_at hl 3 rfl) ?_
  refine lv_iconst (v := nI d) C0.1 C0.2.1 d2 hj ?_
  refine lv_iadd C0.1 C0.2.1 d3 ?_
  rw [nI_add]
  refine va_sld C0.1 C0.2.1 C0.2.2.2.2.2.2.1 C0.2.2.2.2.2.2.2.1 (Nat.not_le.mpr C0.2.2.2.2.2.2.2.1) hS (vp_in_nI hi (by omega)) d4 ?_
  rw [nI_clamp (by omega)]
  have := kk p l e s m below meth c b G H locs ls C0 hK (rg_int hs) hw hP hD hS hl
  rw [List.map_cons, show cv G.2.2 (vi (xs (i + d)).toInt) = .int (xs (i + d)) from by simp [cv, vi]] at this
  exact this
theorem l_bool {a o1 o2 : Int} {p0 p1 p2 p3 t0 t1 t3 : Nat} (hT : okc code T = true) (h0 : T[k]? = some (pc, .ifCond .eq o1, 3, p0, t0)) (h1 : T[k + 1]? = some (p0, .iconst 1, 1, p1, t1)) (h2 : T[k + 2]? = some (p1, .goto o2, 3, p2, p3)) (h3 : T[k + 3]? = some (t0, .iconst 0, 1, p3, t3)) (kk : LJ L xs i p3 (vi (b01 (decide (a ≠ 0))) :: st) h) : LJ L xs i pc (vi a :: st) h := by
  intro p l e s m below meth c b G H locs ls C0 hK hs hw hP hD hS hl
  obtain ⟨d0, rfl, -, f0⟩ := ok_at hT h0
  obtain ⟨d1, rfl, -, -⟩ := ok_at hT h1
  obtain ⟨d2, rfl, -, f2⟩ := ok_at hT h2
  obtain ⟨d3, e3, -, -⟩ := ok_at hT h3
  have ra : I3 a := hs (vi a) List.mem_cons_self
  have hs1 : ∀ v ∈ st, rg v := fun v hv => hs v (List.mem_cons_of_mem _ hv)
  have hs2 : ∀ v ∈ vi (b01 (decide (a ≠ 0))) :: st, rg v := fun v hv => by
    rcases List.mem_cons.mp hv with rfl | hv
    · show I3 (b01 _)
      unfold b01 I3
      split <;> omega
    · exact hs1 v hv
  have K := kk p l e s m below meth c b G H locs ls C0 hK hs2 hw hP hD hS hl
  show W p l e room_1 s m #[Value.ref b] below meth c H locs 600000 7302250 (lw_Z below #[Value.ref b] s) (F0 m pc ls (.int (Int32.ofInt a) :: st.map (cv G.2.2)))
  refine lv_if_eq (tgt := t0) C0.1 C0.2.1 d0 (f0 _ rfl) (fun q => ?_) (fun q => ?_)
  · have : a = 0 := by rw [← to3 ra, q]; rfl
    subst this
    refine lv_iconst (v := 0) C0.1 C0.2.1 d3 rfl ?_
    rw [← e3]
    exact K
  · have : a ≠ 0 := fun z => q (by rw [z]; rfl)
    refine lv_iconst (v := 1) C0.1 C0.2.1 d1 rfl ?_
    refine lv_goto (tgt := p3) C0.1 C0.2.1 d2 (f2 _ rfl) ?_
    rw [show decide (a ≠ 0) = true from by simp [this]] at K
    exact K
theorem l_eq {a o : Int} (hT : okc code T = true) (hd : T[k]? = some (pc, .if_icmp .eq o, 3, np, tg)) (kk : LJ L xs i tg st h) : LJ L xs i pc (vi a :: vi a :: st) h := by
  intro p l e s m below meth c b G H locs ls C0 hK hs hw hP hD hS hl
  obtain ⟨d1, rfl, d3, d4⟩ := ok_at hT hd
  show W p l e room_1 s m #[Value.ref b] below meth c H locs 600000 7302250 (lw_Z below #[Value.ref b] s) (F0 m pc ls (.int (Int32.ofInt a) :: .int (Int32.ofInt a) :: st.map (cv G.2.2)))
  refine lv_icmp_eq (tgt := tg) C0.1 C0.2.1 d1 (d4 _ rfl) (fun _ => ?_) (fun q => absurd rfl q)
  exact kk p l e s m below meth c b G H locs ls C0 hK (fun v hv => hs v (List.mem_cons_of_mem _ (List.mem_cons_of_mem _ hv))) hw hP hD hS hl
theorem call_goL {G : GG} {A : Nat → Prop} {P' : Option AV → HH → Prop} {h : HH} {rest : List Value} {a : Array Value} {p : Program} {l : Launch} {e : Env} {R : Room} {cells slots : Nat} {s : State} {m : MethodId} {args : Array Value} {below : List Frame} {meth : Method} {c : Code} {H : Heap} {locs : List Loc} {Q : State → Prop} {pc : Nat} {ls : Array Slot} {st0 : List Value} (hA : ∀ q, s.heap.size ≤ q → A q)
    (hD : va_D A (ws_ G h)) (hS : va_S A s.heap H locs) (hr : va_Run p l e R s m args below meth c H locs cells slots 0 0 (F0 m pc ls st0) rest (QQ G P' (va_A (ws_ G h) H.size) a) (va_A (ws_ G h) H.size))
    (kk : ∀ (r : Option AV) (h' : HH) (H1 : Heap) (locs1 : List Loc), P' r h' → (∀ v ∈ r, rg v) → HW h' → va_P G.1 vwCl (ws_ G h') H1 → va_D A (ws_ G h') → va_S A s.heap H1 locs1 → W p l e R s m args below meth c H1 locs1 cells slots Q (F0 m (pc + 3) ls ((r.map (cv G.2.2)).toList ++ rest))) : W p l e R s m args below meth c H locs cells slots Q (F0 m pc ls st0) := by
  intro T hT X
  obtain ⟨v, st₀, t, T', L, h0, X', hL, e1, e2, ⟨⟨r, h', hv, hp, hrg, hw, hP1, hK1, hD1⟩, hz, hk⟩, st⟩ := hr T hT X
  have hv : v = r.map (cv G.2.2) := by cases hv; rfl
  subst hv
  have hFA : ∀ q, va_A (ws_ G h) H.size q → A q := by
    intro q hq
    rcases hq with ⟨k, en, hq⟩ | hq
    · exact hD.2 k (q, en) hq
    · exact hA q (Nat.le_trans hS.1 hq)
  rw [h0] at hz hk
  obtain ⟨t2, a1, b1⟩ := kk r h' T'.heap (locs ++ L) hp hrg hw (by rw [e1]; exact hP1) (hD1.weaken (fun _ _ _ z => hFA _ z))
    ⟨Nat.le_trans hS.1 (by rw [e1]; exact hz), fun q h1 h2 => by rw [e1, hk q (Nat.lt_of_lt_of_le h1 hS.1) (fun z => h2 (hFA q z))]; exact hS.2.1 q h1 h2, fun q hq => by
      rcases List.mem_append.mp hq with h | h
      · exact hS.2.2 q h
      · exact hFA _ (hL q h)⟩ T' rfl X'
  exact ⟨t2, st t2 a1, b1⟩
def rmL (M' : MD) : Prop := (rq M').frames + 1 ≤ 10 ∧ 8 + (M'.2.2.1 + 11) + (rq M').locals ≤ 354
theorem l_call {M' : MD} {P' : Option AV → HH → Prop} {as : List AV} {x n t j : Nat} (hT : okc code T = true) (hd : T[k]? = some (pc, .invokevirtual x, 3, np, tg)) (hlk : Cond.methodLink R_law x M'.1 ∈ lw_gd) (hm : mdok M' n) (hmv : mvok M') (hR : rmL M') (hn : as.length = n) (ho : ((ko t).bind fun c => (vwCl[c]?).map fun q => q.1) = some M'.1.cls) (hst : stk = as.reverse ++ vr t j :: st) (hwd : aw_ st ≤ 8) (hSp : Sp M' (vr t j :: as) h P') (kk : ∀ r h', P' r h' → LJ L xs i np (r.toList ++ st) h') : LJ L xs i pc stk h := by
  intro p l e s m below meth c b G H locs ls C0 hK hs hw hP hD hS hl
  obtain ⟨d1, rfl, d3, d4⟩ := ok_at hT hd
  subst hst
  have hs1 : ∀ v ∈ st, rg v := fun v h9 => hs v (List.mem_append_right _ (List.mem_cons_of_mem _ h9))
  have r1 : vt t j := hs (vr t j) (List.mem_append_right _ List.mem_cons_self)
  have hsa : ∀ v ∈ vr t j :: as, rg v := fun v h9 => by
    rcases List.mem_cons.mp h9 with rfl | h9
    · exact r1
    · exact hs v (List.mem_append_left _ (List.mem_reverse.mpr h9))
  obtain ⟨k0, q1, q2⟩ := ws_at (G := G) (h := h) r1
  have hts := at_gd C0
  obtain ⟨pre1, pre2⟩ := met_pre (av := vr t j :: as) hK hP hD
  have hGI : GoodIn lw_gd (wsV R_law x M'.1.cls M'.1 (wq M')) := fun w hw9 => by
    unfold wsV at hw9
    rcases List.mem_append.mp hw9 with h9 | h9
    · simp only [List.mem_cons, List.not_mem_nil, or_false] at h9
      rcases h9 with rfl | rfl | rfl | rfl
      · exact gd_good _ hlk
      · exact gd_good _ hmv.1
      · exact gd_good _ hmv.2
      · exact gd_good _ hm.2.1
    · exact good_wq hm w h9
  have hrecv : ∃ cellB : Cell, H[G.2.2 t j]? = some cellB ∧ cellB.vm.isStatics = false ∧ s.vm.findClass M'.1.cls = some cellB.cls := by
    cases hko : ko t with
    | none => rw [hko] at ho; cases ho
    | some ci =>
      rw [hko] at ho
      cases hq : vwCl[ci]? with
      | none => simp [hq] at ho
      | some q =>
        simp only [hq, Option.bind_some, Option.map_some, Option.some.injEq] at ho
        rw [ce_o hko] at q2
        rw [← ho]
        exact va_recv hK.1 hP hq q2
  refine call_goL (st0 := (as.reverse ++ vr t j :: st).map (cv G.2.2)) (rest := st.map (cv G.2.2)) (fun _ h => h) hD hS (va_runV (C := M'.1.cls) (b := G.2.2 t j) (As := as.map (cv G.2.2)) (rest := st.map (cv G.2.2)) (nL := 4) ⟨C0.1, C0.2.1, C0.2.2.2.1, C0.2.2.2.2.1, hts⟩ (hSp hsa hw l G H.size) (cwV n hts hGI rfl rfl rfl ⟨rfl, hm.2.2⟩ hR) ⟨pre1, hrecv, pre2⟩ rfl (by rw [List.length_map]; exact hn) hl.1 (by simp [vr, cv]) (by show 2 * 0 + _ ≤ 8; rw [cat_sum]; omega) d1 ⟨Nat.le_refl _, Nat.le_refl _⟩) ?_
  intro r h' H1 locs1 hp hrg hw' hP1 hD1 hS1
  rw [opt_cv]
  exact kk r h' hp p l e s m below meth c b G H1 locs1 ls C0 hK (rg_app hrg hs1) hw' hP1 hD1 hS1 hl
end LAW
theorem MR.fc {B : Nat} {σ : AS} {h g : HH} (hM : MR σ h) (hW : WA B σ) (hF : FC h g) : MR σ g := hM.keep hW (fun t k hr => hF t 0 k (by unfold relM at hr; omega))
theorem CR.mo {B : Nat} {σ : AS} {h g : HH} (hC : CR σ h) (hW : WA B σ) (hF : FMo h g) : CR σ g := hC.keep hW (fun t i k hr => hF t i k (by unfold rel at hr; omega))
