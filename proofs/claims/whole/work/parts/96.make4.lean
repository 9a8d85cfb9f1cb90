theorem nd_range : ∀ (n a : Nat), va_nd (List.range' a n) = true
  | 0, _ => rfl
  | n + 1, a => by
    rw [List.range'_succ, va_nd, Bool.and_eq_true, decide_eq_true_eq]
    refine ⟨fun h => ?_, nd_range n (a + 1)⟩
    have := List.mem_range'_1.mp h
    omega
def rfv (q : Tg) : AV := vr q.1 q.2
theorem rfv_map (ad : Nat → Nat → Nat) (as : List Tg) : (as.map rfv).map (cv ad) = as.map fun q => Value.ref (ad q.1 q.2) := by
  rw [List.map_map]; rfl
def inok (y : MethodName) (cc : ByteArray) (maxL n : Nat) : Prop := Cond.code y cc maxL none ∈ lw_gd ∧ Cond.initialized y.cls ∈ lw_gd ∧ Cond.instanceMethod y ∈ lw_gd ∧ y.name = "<init>" ∧ (y.cls ≠ "java/lang/invoke/MethodHandle" ∧ y.cls ≠ "java/lang/invoke/VarHandle" ∧ (parseMethodDescriptor y.desc).map (fun d => d.parameters.length) = some n)
section MAKE4
variable {X : KE} {pc : Nat} {lv : LV} {st stk : List AV} {F : List Tg} {ms : List (Nat × Nat × Nat)} {h h' hF : HH} {L L' L1 LL as : List Tg} {cells slots : Nat} {z r : Tg}
theorem wm_perm {kc : Nat → ClassId} {ad : Nat → Nat → Nat} {mk : Nat → Nat → Nat → Bool} {A : Nat → Prop} {D : va_G} {H : Heap} (hP : va_P D vwCl (wm kc ad mk h L) H) (hD : va_D A (wm kc ad mk h L)) (hs : ∀ q ∈ L', q ∈ L) (hn : L'.Nodup) : va_P D vwCl (wm kc ad mk h L') H ∧ va_D A (wm kc ad mk h L') := by
  have key : ∀ (k : Nat) (x : Nat × va_E), (wm kc ad mk h L')[k]? = some x → ∃ (q : Tg) (j : Nat), L'[k]? = some q ∧ L[j]? = some q ∧ (wm kc ad mk h L)[j]? = some x := by
    intro k x hx
    cases hq : L'[k]? with
    | none => simp [wm, List.getElem?_map, hq] at hx
    | some q =>
      obtain ⟨j, hj⟩ := List.getElem?_of_mem (hs q (List.mem_of_getElem? hq))
      refine ⟨q, j, rfl, hj, ?_⟩
      rw [← hx]
      simp [wm, List.getElem?_map, hq, hj]
  refine ⟨fun k x hx => ?_, fun i j x y hx hy e => ?_, fun k x hx => ?_⟩
  · obtain ⟨q, j, -, -, h3⟩ := key k x hx
    exact hP j x h3
  · obtain ⟨q, i', a1, a2, a3⟩ := key i x hx
    obtain ⟨q', j', b1, b2, b3⟩ := key j y hy
    have := hD.1 i' j' x y a3 b3 e
    subst this
    rw [a2] at b2
    cases b2
    exact (List.getElem?_inj (List.getElem?_eq_some_iff.mp a1).1 hn).mp (a1.trans b1.symm)
  · obtain ⟨q, j, -, -, h3⟩ := key k x hx
    exact hD.2 j x h3
theorem k_perm (hs : ∀ q ∈ L', q ∈ L) (hs2 : ∀ q ∈ L, q ∈ L') (hn : L'.Nodup) (kk : KJ X pc lv st F ms h L' cells slots) : KJ X pc lv st F ms h L cells slots := by
  intro ad H locs ls I hP hD hS hl
  obtain ⟨hP1, hD1⟩ := wm_perm hP hD hs hn
  have ap : ∀ q ∈ X.K ++ L, q ∈ X.K ++ L' := fun q hq => by
    rcases List.mem_append.mp hq with hq | hq
    · exact List.mem_append_left _ hq
    · exact List.mem_append_right _ (hs2 q hq)
  exact kk ad H locs ls ⟨I.an, fun q hq => okv_mono ap (I.lo q hq), fun q hq => okv_mono ap (I.st q hq), fun q hq => hs2 q (I.fi q hq), fun q hq => hs2 _ (I.sl q hq), fun q hq k hk hm r hr => ap _ (I.cl q (hs q hq) k hk hm r hr)⟩ hP1 hD1 hS hl
theorem k_init {y : MethodName} {cc : ByteArray} {maxL fr lo mc sl x : Nat} (C : X.ok) (hd : decode X.code pc = .ok (.invokespecial x, 3)) (hC : IC y cc maxL fr lo mc sl z as LL hF) (hlk : Cond.methodLink X.own x y ∈ lw_gd) (hy : inok y cc maxL as.length) (hR : fr + 1 ≤ X.R.frames ∧ 8 + (maxL + 11) + lo ≤ X.R.locals) (hf : cells + mc ≤ X.R.cells ∧ slots + sl ≤ X.R.slots) (hL : L = L1 ++ [z]) (hst : stk = (as.map rfv).reverse ++ vr z.1 z.2 :: st) (haw : aw_ st ≤ 8)
    (hzL : z ∈ LL) (hzn : z ∉ L1) (hzF : z ∉ F) (hzm : ∀ q ∈ ms, (q.1, q.2.1) ≠ z) (hdis : ∀ q ∈ LL, q ≠ z → q ∉ X.K ++ L1) (hasn : ∀ q ∈ as, q ∉ LL) (hcl : ∀ q ∈ LL, ∀ k, k < lim q.1 → ∀ r, rf q.1 q.2 k = some r → r ∈ LL ∨ r ∈ as) (hz0 : h z.1 z.2 = fun _ => 0) (hh : ∀ q ∈ LL, h' q.1 q.2 = hF q.1 q.2) (hh2 : ∀ q ∈ L1, h' q.1 q.2 = h q.1 q.2)
    (kk : KJ X (pc + 3) lv st (F ++ LL) ms h' (L1 ++ LL) (cells + mc) (slots + sl)) : KJ X pc lv stk F ms h L cells slots := by
  intro ad H locs ls I hP hD hS hl
  subst hL hst
  have hzm' : ∀ k, mkb F ms z.1 z.2 k = false := fun k => mkb_out (L := F ++ ms.map fun q => (q.1, q.2.1)) (fun q hq => List.mem_append_left _ hq) (fun q hq => List.mem_append_right _ (List.mem_map.mpr ⟨q, hq, rfl⟩)) (fun e => by
    rcases List.mem_append.mp e with e | e
    · exact hzF e
    · obtain ⟨q, hq, e⟩ := List.mem_map.mp e
      exact hzm q hq e) k
  have hsplit : wm X.kc ad (mkb F ms) h (L1 ++ [z]) = wm X.kc ad (mkb F ms) h L1 ++ wz X.kc ad z := by
    unfold wm wz wm
    rw [List.map_append]
    congr 1
    simp only [List.map_cons, List.map_nil]
    rw [hz0, cem_cong (mk := mkb F ms z.1 z.2) (ad' := ad) (mk' := mkb [] [] z.1 z.2) (g := fun _ => 0) (g' := h00 z.1 z.2) rfl (fun k _ _ _ => ⟨by rw [hzm']; rfl, fun _ => rfl⟩)]
  have hlen : (wm X.kc ad (mkb F ms) h L1).length = L1.length := by simp [wm]
  have hwz : ∀ i, (wz X.kc ad z)[i]? = if i = 0 then some (ad z.1 z.2, cem X.kc ad (mkb [] [] z.1 z.2) z.1 z.2 (h00 z.1 z.2)) else none := fun i => by
    cases i <;> simp [wz, wm]
  have hCi : [L1.length].map (fun i => (wm X.kc ad (mkb F ms) h (L1 ++ [z]))[i]?) = (wz X.kc ad z).map some := by
    rw [hsplit]
    simp only [List.map_cons, List.map_nil]
    rw [List.getElem?_append_right (by rw [hlen]; exact Nat.le_refl _), hlen, Nat.sub_self]
    simp [wz, wm]
  have hRi : (List.range' 0 L1.length).map (fun i => (wm X.kc ad (mkb F ms) h (L1 ++ [z]))[i]?) = (wm X.kc ad (mkb F ms) h L1).map some := by
    rw [hsplit]
    apply List.ext_getElem?
    intro i
    by_cases hi : i < L1.length
    · have e1 : (List.range' 0 L1.length)[i]? = some i := by rw [List.getElem?_range' hi]; simp
      rw [List.getElem?_map, e1, List.getElem?_map]
      simp only [Option.map_some]
      rw [List.getElem?_append_left (by rw [hlen]; exact hi)]
      cases hq : (wm X.kc ad (mkb F ms) h L1)[i]? with
      | none => rw [List.getElem?_eq_none_iff, hlen] at hq; omega
      | some v => rfl
    · rw [List.getElem?_eq_none (by simp; omega), List.getElem?_eq_none (by simp [wm]; omega)]
  have hPc : va_P X.D vwCl (wz X.kc ad z) H := fun i q hq => hP (L1.length + i) q (by rw [hsplit, List.getElem?_append_right (by rw [hlen]; omega), hlen, Nat.add_sub_cancel_left]; exact hq)
  have hDc : va_D X.A (wz X.kc ad z) := by
    have := hD.sub (ws' := wz X.kc ad z) [L1.length] (by rfl) hCi
    exact this
  have hFc := va_free (wc := wz X.kc ad z) hD hS C.2.2.2.2.2.2.1 [L1.length] hCi
  have hK := C.2.2.2.2.2.1
  have hG : GoodIn lw_gd (Cond.code y cc maxL none :: lw_gd) := fun w hw => by
    rcases List.mem_cons.mp hw with rfl | hw
    · exact gd_good _ hy.1
    · exact gd_good _ hw
  refine va_callv (va_runI (b := ad z.1 z.2) (As := as.map fun q => Value.ref (ad q.1 q.2)) (rest := st.map (cv ad)) (nL := X.nL) ⟨C.1, C.2.1, C.2.2.1, C.2.2.2.1, C.2.2.2.2.1⟩ (hC X.l X.D X.kc ad H.size) (cwI as.length C.2.2.2.2.1 hG rfl rfl rfl (C.2.2.2.2.1 _ hy.2.1) (C.2.2.2.2.1 _ hlk) (C.2.2.2.2.1 _ hy.2.2.1) hy.2.2.2.1 hy.2.2.2.2 hR) ⟨fun a U g mk q => ?_, fun U hU hW => ?_⟩ rfl (by simp) hl.1 (by show ((as.map rfv).reverse ++ vr z.1 z.2 :: st).map (cv ad) = _; rw [List.map_append, List.map_reverse, rfv_map]; rfl) (by show 2 * 0 + _ ≤ 8; rw [cat_sum]; omega) hd hf) hS (fun q _ h9 => hFc q h9) hFc (fun ad' t H1 locs1 ht hvm hw hB hz1 hk1 hS1 => ?_)
  · obtain ⟨q0, q1, qK, qP, qD⟩ := q
    exact ⟨q0, q1, ⟨WK.same (s := U) (U := U.calling g mk a) rfl qK.1, qK.2.moved (U := U.calling g mk a) (Vm.Alike.refl U.vm)⟩, qP, qD⟩
  · exact ⟨rfl, by rw [hU], ⟨hK.warm hW, C.2.2.2.2.2.2.2.2.moved hW.alike⟩, by rw [hU]; exact hPc, hDc.weaken (fun _ _ _ _ => trivial)⟩
  · obtain ⟨hP1, hK1, hD1⟩ := hB
    rw [ht] at hP1
    obtain ⟨hP2, hD2⟩ := va_join (wr := wm X.kc ad (mkb F ms) h L1) (w1 := wm X.kc ad' mkT hF LL) hP hD [L1.length] (List.range' 0 L1.length) hCi hRi (nd_range _ _) (fun i hi => by have := List.mem_range'_1.mp hi; simp; omega) hk1 hFc hP1 hD1
    let ad2 : Nat → Nat → Nat := fun t i => if (t, i) ∈ LL then ad' t i else ad t i
    have ain : ∀ q : Tg, q ∈ LL → ad2 q.1 q.2 = ad' q.1 q.2 := fun q hq => if_pos hq
    have aout : ∀ q : Tg, q ∉ LL → ad2 q.1 q.2 = ad q.1 q.2 := fun q hq => if_neg hq
    have aK : ∀ q ∈ X.K ++ (L1 ++ [z]), ad2 q.1 q.2 = ad q.1 q.2 := fun q hq => by
      by_cases e : q = z
      · rw [e, ain z hzL]; exact hw z List.mem_cons_self
      · have hq1 : q ∈ X.K ++ L1 := by
          rcases List.mem_append.mp hq with h9 | h9
          · exact List.mem_append_left _ h9
          · rcases List.mem_append.mp h9 with h9 | h9
            · exact List.mem_append_right _ h9
            · exact absurd (List.mem_singleton.mp h9) e
        exact aout q (fun h9 => hdis q h9 e hq1)
    have hL1 : ∀ q ∈ L1, q ∉ LL := fun q hq h9 => hdis q h9 (fun e => hzn (e ▸ hq)) (List.mem_append_right _ hq)
    have e1 : wm X.kc ad2 (mkb (F ++ LL) ms) h' L1 = wm X.kc ad (mkb F ms) h L1 := wm_ext I.cl (fun q hq => List.mem_append_left _ hq) aK (fun q hq k _ _ _ => mkb_app (hL1 q hq)) hh2
    have has2 : ∀ q ∈ as, ad2 q.1 q.2 = ad' q.1 q.2 := fun q hq => by
      rw [aout q (hasn q hq)]
      exact (hw q (List.mem_cons_of_mem _ hq)).symm
    have e2 : wm X.kc ad2 (mkb (F ++ LL) ms) h' LL = wm X.kc ad' mkT hF LL := by
      apply List.map_congr_left
      intro q hq
      rw [ain q hq, cem_cong (ad' := ad') (mk' := mkT q.1 q.2) (hh q hq)]
      intro k hk r hr
      refine ⟨mkb_appT hq, fun _ => ?_⟩
      rcases hcl q hq k hk r hr with h9 | h9
      · exact ain r h9
      · exact has2 r h9
    have e3 : wm X.kc ad2 (mkb (F ++ LL) ms) h' (L1 ++ LL) = wm X.kc ad (mkb F ms) h L1 ++ wm X.kc ad' mkT hF LL := by
      rw [← e1, ← e2]
      exact List.map_append
    rw [← e3] at hP2 hD2
    have ap : ∀ q ∈ X.K ++ (L1 ++ [z]), q ∈ X.K ++ (L1 ++ LL) := fun q hq => by
      rcases List.mem_append.mp hq with h9 | h9
      · exact List.mem_append_left _ h9
      · rcases List.mem_append.mp h9 with h9 | h9
        · exact List.mem_append_right _ (List.mem_append_left _ h9)
        · exact List.mem_append_right _ (List.mem_append_right _ (List.mem_singleton.mp h9 ▸ hzL))
    have ap2 : ∀ q ∈ L1 ++ [z], q ∈ L1 ++ LL := fun q h9 => by
      rcases List.mem_append.mp h9 with h9 | h9
      · exact List.mem_append_left _ h9
      · exact List.mem_append_right _ (List.mem_singleton.mp h9 ▸ hzL)
    have hst1 : ∀ v ∈ st, okv (X.K ++ (L1 ++ [z])) v := fun v hv => I.st v (List.mem_append_right _ (List.mem_cons_of_mem _ hv))
    have J : KI X lv st (F ++ LL) ms (L1 ++ LL) ad2 := by
      refine ⟨fun q hq => (aK q (List.mem_append_left _ hq)).trans (I.an q hq), fun q hq => okv_mono ap (I.lo q hq), fun v hv => okv_mono ap (hst1 v hv), fun q hq => ?_, fun q hq => ap2 _ (I.sl q hq), fun q hq k hk hm r hr => ?_⟩
      · rcases List.mem_append.mp hq with h9 | h9
        · exact ap2 q (I.fi q h9)
        · exact List.mem_append_right _ h9
      · by_cases hq2 : q ∈ LL
        · rcases hcl q hq2 k hk r hr with h9 | h9
          · exact List.mem_append_right _ (List.mem_append_right _ h9)
          · exact ap r (I.st (rfv r) (List.mem_append_left _ (List.mem_reverse.mpr (List.mem_map.mpr ⟨r, h9, rfl⟩))))
        · have hq1 : q ∈ L1 := by
            rcases List.mem_append.mp hq with h9 | h9
            · exact h9
            · exact absurd h9 hq2
          rw [mkb_app hq2] at hm
          exact ap r (I.cl q (List.mem_append_left _ hq1) k hk hm r hr)
    have K := kk ad2 H1 locs1 ls J hP2 hD2 hS1 (by rw [lvc_cv aK I.lo]; exact hl)
    rw [map_cv aK hst1] at K
    exact K
end MAKE4
