/-! calls -/
theorem met_pre {G : GG} {h : HH} {av : List AV} {s : State} {H : Heap} {A : Nat → Prop} (hK : WK G s) (hP : va_P G.1 vwCl (ws_ G h) H) (hD : va_D A (ws_ G h)) : FrameBlind (va_Pc (av.map (cv G.2.2)) (fun U => U.heap.size = H.size ∧ WK G U ∧ va_P G.1 vwCl (ws_ G h) U.heap ∧ va_D (fun _ => True) (ws_ G h))) ∧ ∀ U : State, U.heap = H → s.WarmedH U.vm → va_Pc (av.map (cv G.2.2)) (fun U => U.heap.size = H.size ∧ WK G U ∧ va_P G.1 vwCl (ws_ G h) U.heap ∧ va_D (fun _ => True) (ws_ G h)) (av.map (cv G.2.2)).toArray U := by
  refine ⟨fun a U g mk q => ?_, fun U hU hW => ?_⟩
  · obtain ⟨q0, q1, qK, qP, qD⟩ := q
    exact ⟨q0, q1, WK.same (s := U) (U := U.calling g mk a) rfl qK, qP, qD⟩
  · exact ⟨rfl, by rw [hU], hK.warm hW, by rw [hU]; exact hP, hD.weaken (fun _ _ _ _ => trivial)⟩
theorem call_go {M : MD} {G : GG} {A : Nat → Prop} {P' : Option AV → HH → Prop} {h : HH} {rest : List Value} {a : Array Value} {p : Program} {l : Launch} {e : Env} {s : State} {m : MethodId} {args : Array Value} {below : List Frame} {meth : Method} {c : Code} {H : Heap} {locs : List Loc} {Q : State → Prop} {pc : Nat} {ls : Array Slot} {st0 : List Value} (hA : ∀ q, s.heap.size ≤ q → A q)
    (hD : va_D A (ws_ G h)) (hS : va_S A s.heap H locs) (hr : va_Run p l e (rq M) s m args below meth c H locs 0 0 0 0 (F0 m pc ls st0) rest (QQ G P' (va_A (ws_ G h) H.size) a) (va_A (ws_ G h) H.size))
    (kk : ∀ (r : Option AV) (h' : HH) (H1 : Heap) (locs1 : List Loc), P' r h' → (∀ v ∈ r, rg v) → HW h' → va_P G.1 vwCl (ws_ G h') H1 → va_D A (ws_ G h') → va_S A s.heap H1 locs1 → W p l e (rq M) s m args below meth c H1 locs1 0 0 Q (F0 m (pc + 3) ls ((r.map (cv G.2.2)).toList ++ rest))) : W p l e (rq M) s m args below meth c H locs 0 0 Q (F0 m pc ls st0) := by
  intro T hT X
  obtain ⟨v, st₀, t, T', L, h0, X', hL, e1, e2, ⟨⟨r, h', hv, hp, hrg, hw, hP1, hK1, hD1⟩, hz, hk⟩, st⟩ := hr T hT X
  have hv : v = r.map (cv G.2.2) := by cases hv; rfl
  subst hv
  have hFA : ∀ q, va_A (ws_ G h) H.size q → A q := by
    intro q hq
    rcases hq with ⟨k, en, hq⟩ | hq
    · exact hD.2 k (q, en) hq
    · exact hA q (Nat.le_trans hS.1 hq)
  rw [h0] at hz hk
  obtain ⟨t2, a1, b1⟩ := kk r h' T'.heap (locs ++ L) hp hrg hw (by rw [e1]; exact hP1) (hD1.weaken (fun _ _ _ z => hFA _ z))
    ⟨Nat.le_trans hS.1 (by rw [e1]; exact hz), fun q h1 h2 => by rw [e1, hk q (Nat.lt_of_lt_of_le h1 hS.1) (fun z => h2 (hFA q z))]; exact hS.2.1 q h1 h2, fun q hq => by
      rcases List.mem_append.mp hq with h | h
      · exact hS.2.2 q h
      · exact hFA _ (hL q h)⟩ T' rfl X'
  exact ⟨t2, st t2 a1, b1⟩
/-- what links a call of M' at a place x of M's class -/
def rmok (M M' : MD) : Prop := (rq M').frames + 1 ≤ (rq M).frames ∧ 8 + (M'.2.2.1 + 11) + (rq M').locals ≤ (rq M).locals
def mdok (M' : MD) (n : Nat) : Prop := Cond.code M'.1 M'.2.1 M'.2.2.1 M'.2.2.2.1 ∈ lw_gd ∧ Cond.initialized M'.1.cls ∈ lw_gd ∧ M'.1.cls ≠ "java/lang/invoke/MethodHandle" ∧ M'.1.cls ≠ "java/lang/invoke/VarHandle" ∧ (parseMethodDescriptor M'.1.desc).map (fun d => d.parameters.length) = some n
def mvok (M' : MD) : Prop := Cond.instanceMethod M'.1 ∈ lw_gd ∧ Cond.selects M'.1.cls M'.1 M'.1 ∈ lw_gd
theorem good_wq {M' : MD} {n : Nat} (h : mdok M' n) : GoodIn lw_gd (wq M') := fun w hw => by
  rcases List.mem_cons.mp hw with rfl | hw
  · exact gd_good _ h.1
  · exact gd_good _ hw
theorem cat_sum (ad : Nat → Nat → Nat) : ∀ st : List AV, (((st.map (cv ad)).map fun v => v.category).sum) = aw_ st
  | [] => rfl
  | .inl a :: st => by
    show 1 + ((st.map (cv ad)).map fun v => v.category).sum = 1 + aw_ st
    rw [cat_sum ad st]
  | .inr (.inl a) :: st => by
    show 2 + ((st.map (cv ad)).map fun v => v.category).sum = 2 + aw_ st
    rw [cat_sum ad st]
  | .inr (.inr (some q)) :: st => by
    show 1 + ((st.map (cv ad)).map fun v => v.category).sum = 1 + aw_ st
    rw [cat_sum ad st]
  | .inr (.inr none) :: st => by
    show 1 + ((st.map (cv ad)).map fun v => v.category).sum = 1 + aw_ st
    rw [cat_sum ad st]
theorem rg_app {r : Option AV} {st : List AV} (h1 : ∀ v ∈ r, rg v) (h2 : ∀ v ∈ st, rg v) : ∀ v ∈ r.toList ++ st, rg v := fun v hv => by
  rcases List.mem_append.mp hv with h | h
  · exact h1 v (Option.mem_toList.mp h)
  · exact h2 v h
theorem opt_cv (ad : Nat → Nat → Nat) (r : Option AV) (st : List AV) : (r.map (cv ad)).toList ++ st.map (cv ad) = (r.toList ++ st).map (cv ad) := by
  cases r <;> rfl
section AWC
variable {M M' : MD} {P P' : Option AV → HH → Prop} {lv : LV} {st stk : List AV} {h : HH} {k pc np tg t i x n : Nat} {as : List AV}
theorem a_virt (hd : (tb M)[k]? = some (pc, .invokevirtual x, 3, np, tg)) (hlk : Cond.methodLink M.1.cls x M'.1 ∈ lw_gd) (hm : mdok M' n) (hmv : mvok M') (hR : rmok M M') (hn : as.length = n) (ho : ((ko t).bind fun c => (vwCl[c]?).map fun q => q.1) = some M'.1.cls) (hst : stk = as.reverse ++ vr t i :: st) (hwd : aw_ st ≤ 8) (hSp : Sp M' (vr t i :: as) h P') (kk : ∀ r h', P' r h' → AW M P np lv (r.toList ++ st) h') : AW M P pc lv stk h := by
  intro l p e s m args below meth c G A C hl hs hw H locs ls hP hD hS hv
  obtain ⟨d1, rfl, d3, d4⟩ := ok_at C.2.2.2.2.2.2.2.2.1 hd
  subst hst
  have hs1 : ∀ v ∈ st, rg v := fun v h9 => hs v (List.mem_append_right _ (List.mem_cons_of_mem _ h9))
  have r1 : vt t i := hs (vr t i) (List.mem_append_right _ List.mem_cons_self)
  have hsa : ∀ v ∈ vr t i :: as, rg v := fun v h9 => by
    rcases List.mem_cons.mp h9 with rfl | h9
    · exact r1
    · exact hs v (List.mem_append_left _ (List.mem_reverse.mpr h9))
  obtain ⟨k0, q1, q2⟩ := ws_at (G := G) (h := h) r1
  have hts : ∀ w ∈ lw_gd, w.before args s = true := fun w hw => C.2.2.2.2.2.1 w (List.mem_cons_of_mem _ hw)
  obtain ⟨pre1, pre2⟩ := met_pre (av := vr t i :: as) C.2.2.2.2.2.2.2.1 hP hD
  have hGI : GoodIn lw_gd (wsV M.1.cls x M'.1.cls M'.1 (wq M')) := fun w hw9 => by
    unfold wsV at hw9
    rcases List.mem_append.mp hw9 with h9 | h9
    · simp only [List.mem_cons, List.not_mem_nil, or_false] at h9
      rcases h9 with rfl | rfl | rfl | rfl
      · exact gd_good _ hlk
      · exact gd_good _ hmv.1
      · exact gd_good _ hmv.2
      · exact gd_good _ hm.2.1
    · exact good_wq hm w h9
  have hrecv : ∃ cellB : Cell, H[G.2.2 t i]? = some cellB ∧ cellB.vm.isStatics = false ∧ s.vm.findClass M'.1.cls = some cellB.cls := by
    cases hko : ko t with
    | none => rw [hko] at ho; cases ho
    | some ci =>
      rw [hko] at ho
      cases hq : vwCl[ci]? with
      | none => simp [hq] at ho
      | some q =>
        simp only [hq, Option.bind_some, Option.map_some, Option.some.injEq] at ho
        rw [ce_o hko] at q2
        rw [← ho]
        exact va_recv C.2.2.2.2.2.2.2.1.1 hP hq q2
  refine call_go (st0 := (as.reverse ++ vr t i :: st).map (cv G.2.2)) (rest := st.map (cv G.2.2)) C.2.2.2.2.2.2.2.2.2 hD hS (va_runV (C := M'.1.cls) (b := G.2.2 t i) (As := as.map (cv G.2.2)) (rest := st.map (cv G.2.2)) (nL := M.2.2.1) ⟨C.1, C.2.1, C.2.2.2.1, C.2.2.2.2.1, hts⟩ (hSp hsa hw l G H.size) (cwV n hts hGI rfl rfl rfl ⟨rfl, hm.2.2⟩ hR) ⟨pre1, hrecv, pre2⟩ rfl (by rw [List.length_map]; exact hn) hv.1 (by simp [vr, cv]) (by show 2 * 0 + _ ≤ 8; rw [cat_sum]; omega) d1 ⟨Nat.le_refl 0, Nat.le_refl 0⟩) ?_
  intro r h' H1 locs1 hp hrg hw' hP1 hD1 hS1
  rw [opt_cv]
  exact kk r h' hp l p e s m args below meth c G A C hl (rg_app hrg hs1) hw' H1 locs1 ls hP1 hD1 hS1 hv
theorem a_stat0 (hG : ∀ {s : State} {args : Array Value}, (∀ w ∈ lw_gd, w.before args s = true) → CallB (rq M) s args M.1.cls x M'.1 M'.2.1 M'.2.2.1 M'.2.2.2.1 (wq M') (rq M') 0 0 n ∧ (Cond.static M'.1).before args s = true) (hd : (tb M)[k]? = some (pc, .invokestatic x, 3, np, tg)) (hn : as.length = n) (hst : stk = as.reverse ++ st) (hwd : aw_ st ≤ 8) (hSp : Sp M' as h P') (kk : ∀ r h', P' r h' → AW M P np lv (r.toList ++ st) h') : AW M P pc lv stk h := by
  intro l p e s m args below meth c G A C hl hs hw H locs ls hP hD hS hv
  obtain ⟨d1, rfl, d3, d4⟩ := ok_at C.2.2.2.2.2.2.2.2.1 hd
  subst hst
  have hs1 : ∀ v ∈ st, rg v := fun v h9 => hs v (List.mem_append_right _ h9)
  have hsa : ∀ v ∈ as, rg v := fun v h9 => hs v (List.mem_append_left _ (List.mem_reverse.mpr h9))
  have hts : ∀ w ∈ lw_gd, w.before args s = true := fun w hw => C.2.2.2.2.2.1 w (List.mem_cons_of_mem _ hw)
  have pre := met_pre (av := as) C.2.2.2.2.2.2.2.1 hP hD
  refine call_go (st0 := (as.reverse ++ st).map (cv G.2.2)) (rest := st.map (cv G.2.2)) C.2.2.2.2.2.2.2.2.2 hD hS (va_runS (As := as.map (cv G.2.2)) (rest := st.map (cv G.2.2)) (nL := M.2.2.1) ⟨C.1, C.2.1, C.2.2.2.1, C.2.2.2.2.1, hts⟩ (hSp hsa hw l G H.size) (hG hts) pre rfl (by rw [List.length_map]; exact hn) hv.1 (by simp) (by show 2 * 0 + _ ≤ 8; rw [cat_sum]; omega) d1 ⟨Nat.le_refl 0, Nat.le_refl 0⟩) ?_
  intro r h' H1 locs1 hp hrg hw' hP1 hD1 hS1
  rw [opt_cv]
  exact kk r h' hp l p e s m args below meth c G A C hl (rg_app hrg hs1) hw' H1 locs1 ls hP1 hD1 hS1 hv
theorem a_stat (hd : (tb M)[k]? = some (pc, .invokestatic x, 3, np, tg)) (hlk : Cond.methodLink M.1.cls x M'.1 ∈ lw_gd) (hm : mdok M' n) (hms : Cond.static M'.1 ∈ lw_gd) (hR : rmok M M') (hn : as.length = n) (hst : stk = as.reverse ++ st) (hwd : aw_ st ≤ 8) (hSp : Sp M' as h P') (kk : ∀ r h', P' r h' → AW M P np lv (r.toList ++ st) h') : AW M P pc lv stk h := by
  refine a_stat0 (n := n) (fun hts => va_cwS n hts ?_ rfl rfl rfl hm.2.2 hR) hd hn hst hwd hSp kk
  intro w hw9
  unfold va_wsS at hw9
  rcases List.mem_append.mp hw9 with h9 | h9
  · simp only [List.mem_cons, List.not_mem_nil, or_false] at h9
    rcases h9 with rfl | rfl | rfl
    · exact gd_good _ hlk
    · exact gd_good _ hms
    · exact gd_good _ hm.2.1
  · exact good_wq hm w h9
/-- a nest mate's private static method -/
theorem a_statN {host : String} (hd : (tb M)[k]? = some (pc, .invokestatic x, 3, np, tg)) (hlk : Cond.methodLinkNest M.1.cls x M'.1 host ∈ nw_all) (hm : mdok M' n) (hms : Cond.static M'.1 ∈ lw_gd) (hR : rmok M M') (hn : as.length = n) (hst : stk = as.reverse ++ st) (hwd : aw_ st ≤ 8) (hSp : Sp M' as h P') (kk : ∀ r h', P' r h' → AW M P np lv (r.toList ++ st) h') : AW M P pc lv stk h := by
  intro l p e s m args below meth c G A C hl hs hw H locs ls hP hD hS hv
  obtain ⟨d1, rfl, d3, d4⟩ := ok_at C.2.2.2.2.2.2.2.2.1 hd
  subst hst
  have hs1 : ∀ v ∈ st, rg v := fun v h9 => hs v (List.mem_append_right _ h9)
  have hsa : ∀ v ∈ as, rg v := fun v h9 => hs v (List.mem_append_left _ (List.mem_reverse.mpr h9))
  have hts : ∀ w ∈ lw_gd, w.before args s = true := fun w hw => C.2.2.2.2.2.1 w (List.mem_cons_of_mem _ hw)
  have pre := met_pre (av := as) C.2.2.2.2.2.2.2.1 hP hD
  refine call_go (st0 := (as.reverse ++ st).map (cv G.2.2)) (rest := st.map (cv G.2.2)) C.2.2.2.2.2.2.2.2.2 hD hS (va_runSN (host := host) (As := as.map (cv G.2.2)) (rest := st.map (cv G.2.2)) (nL := M.2.2.1) ⟨C.1, C.2.1, C.2.2.2.1, C.2.2.2.2.1, hts⟩ (hSp hsa hw l G H.size) ⟨va_cnB n hts (good_wq hm) rfl rfl rfl (C.2.2.2.2.2.2.2.1.2 _ hlk) (hts _ hm.2.1) hm.2.2 hR, hts _ hms, trivial⟩ pre rfl (by rw [List.length_map]; exact hn) hv.1 (by simp) (by show 2 * 0 + _ ≤ 8; rw [cat_sum]; omega) d1 ⟨Nat.le_refl 0, Nat.le_refl 0⟩) ?_
  intro r h' H1 locs1 hp hrg hw' hP1 hD1 hS1
  rw [opt_cv]
  exact kk r h' hp l p e s m args below meth c G A C hl (rg_app hrg hs1) hw' H1 locs1 ls hP1 hD1 hS1 hv
end AWC
theorem Sp.weak {M : MD} {av : List AV} {h : HH} {P P' : Option AV → HH → Prop} (hS : Sp M av h P) (hw : ∀ r h', P r h' → P' r h') : Sp M av h P' := by
  intro hr hh l G sz
  have hM := hS hr hh l G sz
  intro p e ha hc hk s m args below hf hA hP hK
  obtain ⟨k, o, h1, h2, h3, ⟨⟨⟨r, h', e1, e2, e3⟩, hF⟩, hL⟩⟩ := hM p e ha hc hk s m args below hf hA hP hK
  exact ⟨k, o, h1, h2, h3, ⟨⟨⟨r, h', e1, hw r h' e2, e3⟩, hF⟩, hL⟩⟩
