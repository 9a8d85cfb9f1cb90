theorem ci_inst : ∀ (c : Nat) (q : vw_C), vwCl[c]? = some q → Cond.instantiable q.1 q.2.2 ∈ lw_gd := by
  intro c q hq
  match c, hq with
  | 0, hq => cases hq; exact ii_0
  | 1, hq => cases hq; exact ii_1
  | 2, hq => cases hq; exact ii_2
  | 3, hq => cases hq; exact ii_3
  | 4, hq => cases hq; exact ii_4
  | 5, hq => cases hq; exact ii_5
  | 6, hq => cases hq; exact ii_6
  | 7, hq => cases hq; exact ii_7
  | 8, hq => cases hq; exact ii_8
  | 9, hq => cases hq; exact ii_9
  | 10, hq => cases hq; exact ii_10
  | 11, hq => cases hq; exact ii_11
  | c + 12, hq => simp [vwCl] at hq
theorem nw_in : ∀ w ∈ nw_all, w ∈ lw_tbl := by decide +kernel
theorem nw_on : ∀ w ∈ nw_all, w.onTables = true := by decide +kernel
theorem cl_L7 : Cond.classLink R_law 7 RX10 ∈ lw_gd := gd_in (ti_1 (List.mem_of_getElem? (i := 17) rfl)) rfl
theorem cl_L10 : Cond.classLink R_law 10 RX11 ∈ lw_gd := gd_in (ti_4 (List.mem_of_getElem? (i := 106) rfl)) rfl
theorem start_wk {args : Array Value} {s : State} (hts : ∀ w ∈ lw_tbl, w.before args s = true) : ∃ (D : va_G) (kc : Nat → ClassId), (∀ ad, WK (D, kc, ad) s) ∧ WO s := by
  have hgd : ∀ w ∈ lw_gd, w.before args s = true := fun w hw => hts w (List.mem_filter.mp hw).1
  have hx : ∀ c : Nat, ∃ p : ClassId × (Nat → Nat), ∀ q : vw_C, vwCl[c]? = some q → u_Kn s q.1 q.2.1 q.2.2 p.1 p.2 := by
    intro c
    cases hq : vwCl[c]? with
    | none => exact ⟨(0, fun _ => 0), fun q h => by cases h⟩
    | some q =>
      obtain ⟨cC, iS, h⟩ := u_known (n := q.2.2) hgd (ci_all c q hq).1 (hgd _ (ci_inst c q hq))
      exact ⟨(cC, iS), fun q' h' => by cases h'; exact h⟩
  have oR : (Cond.arrayOver (.object "PretzelProof$Rope")).before args s = true := hts _ (ti_1 (List.mem_of_getElem? (i := 52) rfl))
  have oT : (Cond.arrayOver (.object "PretzelProof$Tray")).before args s = true := hts _ (ti_1 (List.mem_of_getElem? (i := 152) rfl))
  have oI : (Cond.arrayOver (.array .int)).before args s = true := hts _ (ti_2 (List.mem_of_getElem? (i := 5) rfl))
  obtain ⟨c0, k0, p0, a1, a2, a3⟩ := Cond.arrayClass_spec (hgd _ aw_int)
  obtain ⟨c1, k1, p1, b1, b2, b3⟩ := Cond.arrayClass_spec (hgd _ aw_byte)
  obtain ⟨p2, c2, k2, t1, t2, t3, t4, t5⟩ := Cond.arrayOver_spec oT
  obtain ⟨p3, c3, k3, r1, r2, r3, r4, r5⟩ := Cond.arrayOver_spec oR
  obtain ⟨p4, c4, k4, i1, i2, i3, i4, i5⟩ := ao_int oI
  refine ⟨(fun c => (Classical.choose (hx c)).1, fun c => (Classical.choose (hx c)).2), (fun n => match n with | 0 => c0 | 1 => c1 | 2 => c2 | 3 => c3 | _ => c4), fun ad => ⟨⟨fun c q hq => Classical.choose_spec (hx c) q hq, fun k q hk => ?_⟩, fun w hw => va_Nw.of (nw_on w hw) (hts w (nw_in w hw))⟩, oR, oT, oI⟩
  match k, hk with
  | 0, hk => cases hk; exact ⟨fun N z => ⟨(fun k h => by cases h), k0, a2, p0, a3⟩, a1⟩
  | 1, hk => cases hk; exact ⟨fun N z => ⟨(fun k h => by cases h), k1, b2, p1, b3⟩, b1⟩
  | 2, hk => cases hk; exact ⟨fun N z => ⟨(fun k h => by cases h), k2, t3, p2, t4⟩, k2, p2, t3, t4, t1, t5⟩
  | 3, hk => cases hk; exact ⟨fun N z => ⟨(fun k h => by cases h), k3, r3, p3, r4⟩, k3, p3, r3, r4, r1, r5⟩
  | 4, hk => cases hk; exact ⟨fun N z => ⟨(fun k h => by cases h), k4, i3, p4, i4⟩, i5⟩
  | k + 5, hk => simp [tk] at hk
