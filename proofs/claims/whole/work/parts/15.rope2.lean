/-! System.arraycopy over rows of ints -/
def cpy (h : HH) (t1 i1 t2 i2 sp dp n : Nat) : HH := fun t i k => if t = t2 ∧ i = i2 ∧ dp ≤ k ∧ k < dp + n then h t1 i1 (sp + (k - dp)) else h t i k
theorem cpy_wf {h : HH} {t1 i1 t2 i2 sp dp n : Nat} (hh : HW h) : HW (cpy h t1 i1 t2 i2 sp dp n) := by
  intro t i k
  unfold cpy
  split
  · exact hh _ _ _
  · exact hh _ _ _
theorem cpy_oc (h : HH) (t1 i1 t2 i2 sp dp n : Nat) (t' i' : Nat) (hne : ¬ (t' = t2 ∧ i' = i2)) : cpy h t1 i1 t2 i2 sp dp n t' i' = h t' i' := by
  funext k
  unfold cpy
  rw [if_neg (fun q => hne ⟨q.1, q.2.1⟩)]
theorem nt_l6 : Cond.methodLink RX6 30 arraycopyName ∈ lw_gd := by decide +kernel
theorem nt_l7 : Cond.methodLink RX7 44 arraycopyName ∈ lw_gd := by decide +kernel
theorem nt_n : Cond.native arraycopyName ∈ lw_gd := by decide +kernel
theorem nt_s : Cond.static arraycopyName ∈ lw_gd := by decide +kernel
theorem nt_i : Cond.initialized "java/lang/System" ∈ lw_gd := by decide +kernel
theorem a_copy {M : MD} {P : Option AV → HH → Prop} {lv : LV} {h : HH} {k pc np tg x t1 i1 t2 i2 n1 n2 sp dp n : Nat} (hd : (tb M)[k]? = some (pc, .invokestatic x, 3, np, tg)) (hlk : Cond.methodLink M.1.cls x arraycopyName ∈ lw_gd) (ho1 : ko t1 = none) (hk1 : ka t1 = some (0, n1)) (ho2 : ko t2 = none) (hk2 : ka t2 = some (0, n2)) (h1 : sp + n ≤ n1) (h2 : dp + n ≤ n2) (h3 : n1 < 65536) (h4 : n2 < 65536) (hR : 1 ≤ (rq M).frames ∧ nativeFrameWords "java/lang/System" "arraycopy" 5 + 11 ≤ (rq M).locals) (kk : AW M P np lv [] (cpy h t1 i1 t2 i2 sp dp n)) : AW M P pc lv [vi n, vi dp, vr t2 i2, vi sp, vr t1 i1] h := by
  intro l p e s m args below meth c G A C hl hs hw H locs ls hP hD hS hv
  obtain ⟨d1, rfl, d3, d4⟩ := ok_at C.2.2.2.2.2.2.2.2.1 hd
  obtain ⟨rn_, hs⟩ := rg_c hs
  obtain ⟨rd_, hs⟩ := rg_c hs
  obtain ⟨r2, hs⟩ := rg_c hs
  obtain ⟨rs_, hs⟩ := rg_c hs
  obtain ⟨r1, hs⟩ := rg_c hs
  have r1 : vt t1 i1 := r1
  have r2 : vt t2 i2 := r2
  have rn_ : I3 (n : Int) := rn_
  have rd_ : I3 (dp : Int) := rd_
  have rs_ : I3 (sp : Int) := rs_
  obtain ⟨ka1, q1, q2⟩ := ws_at (G := G) (h := h) r1
  obtain ⟨kb1, q3, q4⟩ := ws_at (G := G) (h := h) r2
  rw [ce_i ho1 hk1 (Nat.zero_le 1)] at q2
  rw [ce_i ho2 hk2 (Nat.zero_le 1)] at q4
  have hts : ∀ w ∈ lw_gd, w.before args s = true := fun w hw => C.2.2.2.2.2.1 w (List.mem_cons_of_mem _ hw)
  have n0 : ∀ z : Nat, I3 (z : Int) → ¬ Int32.ofInt (z : Int) < 0 := fun z hz q => by
    have := (c3_lt hz c0_3).mp q
    omega
  have cl : ∀ z : Nat, I3 (z : Int) → (Int32.ofInt (z : Int)).toNatClampNeg = z := fun z hz => by rw [clamp3 hz]; rfl
  refine va_copyi (n := Int32.ofInt n) (sp := Int32.ofInt sp) (dp := Int32.ofInt dp) C.1 C.2.1 (by rw [C.2.2.2.1]; exact hv.1.symm) C.2.2.2.2.1 (hts _ hlk) (hts _ nt_n) (hts _ nt_s) (hts _ nt_i) C.2.2.2.2.2.2.2.1.1 hP hD hS ka1 kb1 0 0 q2 q4 rfl rfl rfl (n0 sp rs_) (n0 dp rd_) (n0 n rn_) (by rw [cl sp rs_, cl n rn_]; exact h1) (by rw [cl dp rd_, cl n rn_]; exact h2) (fun i _ => rfl) hR.1 (by simpa using hR.2) d1 (fun H1 locs1 hP1 hD1 hS1 => ?_)
  have hce : ce G t2 i2 (cpy h t1 i1 t2 i2 sp dp n t2 i2) = .inl (G.2.1 0, n2, .inl (va_cpy (fun k => Int32.ofInt (h t1 i1 k)) (fun k => Int32.ofInt (h t2 i2 k)) sp dp n)) := by
    rw [ce_i ho2 hk2 (Nat.zero_le 1)]
    congr 4
    funext q
    unfold cpy va_cpy
    by_cases hq : dp ≤ q ∧ q < dp + n
    · rw [if_pos ⟨rfl, rfl, hq⟩, if_pos hq]
    · rw [if_neg (fun z => hq z.2.2), if_neg hq]
  rw [cl sp rs_, cl n rn_, cl dp rd_, ← hce, ws_set hD q3 (cpy_oc h t1 i1 t2 i2 sp dp n)] at hP1 hD1
  exact kk l p e s m args below meth c G A C hl (fun v hv9 => by cases hv9) (cpy_wf hw) H1 locs1 ls hP1 hD1 hS1 hv
theorem x_copyFrom (j j' : Nat) (h : HH) (hne : j ≠ j') : Sp mX6_copyFrom [vr 5 j, vr 5 j'] h (fun r g => r = none ∧ g 5 j 2 = h 5 j' 2 ∧ g 5 j 3 = h 5 j' 3 ∧ (∀ i, i < 16 → g 6 j i = h 6 j' i) ∧ Fr [(5, j), (6, j)] [] h g) := by
  refine Sp.of rfl kX6_copyFrom (Nat.le_of_ble_eq_true rfl) ?_
  have e1 : cpy h 6 j' 6 j 0 0 16 5 j' = h 5 j' := cpy_oc h _ _ _ _ _ _ _ _ _ (by simp)
  refine u_aloadn (k := 0) rfl rfl ?_
  refine a_getr (k := 1) rfl fRX6_15 rfl rfl rfl ?_
  refine a_iconst (k := 2) rfl ?_
  refine u_aloadn (k := 3) rfl rfl ?_
  refine a_getr (k := 4) rfl fRX6_15 rfl rfl rfl ?_
  refine a_iconst (k := 5) rfl ?_
  refine a_bipush (k := 6) rfl ?_
  refine a_copy (k := 7) (sp := 0) (dp := 0) (n := 16) rfl nt_l6 rfl rfl rfl rfl (by decide) (by decide) (by decide) (by decide) ⟨by decide +kernel, by decide +kernel⟩ ?_
  refine u_aloadn (k := 8) rfl rfl ?_
  refine u_aloadn (k := 9) rfl rfl ?_
  refine a_geti (k := 10) rfl fRX6_19 rfl rfl ?_
  rw [e1]
  refine a_puti (k := 11) rfl pRX6_19 rfl rfl ?_
  refine u_aloadn (k := 12) rfl rfl ?_
  refine u_aloadn (k := 13) rfl rfl ?_
  refine a_geti (k := 14) rfl fRX6_27 rfl rfl ?_
  rw [put_ne (by simp), e1]
  refine a_puti (k := 15) rfl pRX6_27 rfl rfl ?_
  refine a_return (k := 16) rfl rfl ?_
  refine ⟨rfl, by simp only [put_apply, Nat.reduceEqDiff, reduceIte, false_and, and_false, true_and, and_true, and_self, if_false, if_true, not_false_eq_true, not_true_eq_false, ne_eq], by simp only [put_apply, Nat.reduceEqDiff, reduceIte, false_and, and_false, true_and, and_true, and_self, if_false, if_true, not_false_eq_true, not_true_eq_false, ne_eq], fun i hi => ?_, fun t i k h1 h2 => ?_⟩
  · simp only [put_apply, Nat.reduceEqDiff, reduceIte, false_and, and_false, true_and, and_true, and_self, if_false, if_true, not_false_eq_true, not_true_eq_false, ne_eq]; unfold cpy; rw [if_pos ⟨rfl, rfl, by omega, by omega⟩]; simp
  · simp only [List.mem_cons, Prod.mk.injEq, List.not_mem_nil, or_false, not_or] at h1
    rw [put_ne (fun q => h1.1 ⟨q.1, q.2.1⟩), put_ne (fun q => h1.1 ⟨q.1, q.2.1⟩), cpy_oc _ _ _ _ _ _ _ _ _ _ h1.2]
