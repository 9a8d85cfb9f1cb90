/-! rules for use: locals by number, sums without overflow -/
def lk : LV → Nat → Option AV
  | [], _ => none
  | q :: l, x => match Nat.beq q.1 x with
    | true => some q.2
    | false => lk l x
theorem lk_at : ∀ {lv : LV} {x : Nat} {v : AV}, lk lv x = some v → ∃ j : Nat, lv[j]? = some (x, v)
  | [], x, v, h => by cases h
  | q :: l, x, v, h => by
    unfold lk at h
    split at h
    · rename_i hq
      cases h
      exact ⟨0, by rw [← Nat.eq_of_beq_eq_true hq]; rfl⟩
    · obtain ⟨j, hj⟩ := lk_at h
      exact ⟨j + 1, hj⟩
theorem w3_id {a : Int} (h1 : -2147483648 ≤ a) (h2 : a < 2147483648) : w3 a = a := to3 ⟨h1, h2⟩
theorem w6_id {a : Int} (h1 : -9223372036854775808 ≤ a) (h2 : a < 9223372036854775808) : w6 a = a := to6 ⟨h1, h2⟩
theorem iq_pos {a b : Int} (h1 : 0 ≤ a) (h2 : a < 2147483648) (h3 : 0 < b) : iq a b = a / b := by
  have h4 : 0 ≤ a / b := Int.ediv_nonneg h1 (Int.le_of_lt h3)
  have h5 : a / b ≤ a := Int.ediv_le_self b h1
  rw [iq, Int.tdiv_eq_ediv_of_nonneg h1, w3_id (by omega) (by omega)]
theorem ir_pos {a b : Int} (h1 : 0 ≤ a) (h2 : a < 2147483648) (h3 : 0 < b) : ir a b = a % b := by
  have h4 : 0 ≤ a % b := Int.emod_nonneg a (by omega)
  have h5 : a % b ≤ a := by
    have := Int.emod_add_mul_ediv a b
    have h6 : 0 ≤ b * (a / b) := Int.mul_nonneg (Int.le_of_lt h3) (Int.ediv_nonneg h1 (Int.le_of_lt h3))
    omega
  rw [ir, Int.tmod_eq_emod_of_nonneg h1, w3_id (by omega) (by omega)]
section AWU
variable {M M' : MD} {P P' : Option AV → HH → Prop} {lv lv' : LV} {st stk : List AV} {h h' : HH} {k pc np tg t i x n : Nat} {as : List AV} {R : Option AV}

theorem u_iloadn {a : Int} {x : Fin 4} (hd : (tb M)[k]? = some (pc, .iload_n x, 1, np, tg)) (hj : lk lv x.val = some (vi a)) (kk : AW M P np lv (vi a :: st) h) : AW M P pc lv st h := by
  obtain ⟨j, hj⟩ := lk_at hj
  exact a_iloadn j hd hj kk
theorem u_iload {a : Int} (hd : (tb M)[k]? = some (pc, .iload x, 2, np, tg)) (hj : lk lv x = some (vi a)) (kk : AW M P np lv (vi a :: st) h) : AW M P pc lv st h := by
  obtain ⟨j, hj⟩ := lk_at hj
  exact a_iload j hd hj kk

theorem u_lloadn {a : Int} {x : Fin 4} (hd : (tb M)[k]? = some (pc, .lload_n x, 1, np, tg)) (hj : lk lv x.val = some (vl a)) (kk : AW M P np lv (vl a :: st) h) : AW M P pc lv st h := by
  obtain ⟨j, hj⟩ := lk_at hj
  exact a_lloadn j hd hj kk
theorem u_lload {a : Int} (hd : (tb M)[k]? = some (pc, .lload x, 2, np, tg)) (hj : lk lv x = some (vl a)) (kk : AW M P np lv (vl a :: st) h) : AW M P pc lv st h := by
  obtain ⟨j, hj⟩ := lk_at hj
  exact a_lload j hd hj kk

theorem u_aloadn {x : Fin 4} (hd : (tb M)[k]? = some (pc, .aload_n x, 1, np, tg)) (hj : lk lv x.val = some (vr t i)) (kk : AW M P np lv (vr t i :: st) h) : AW M P pc lv st h := by
  obtain ⟨j, hj⟩ := lk_at hj
  exact a_aloadn j hd hj kk
theorem u_aload (hd : (tb M)[k]? = some (pc, .aload x, 2, np, tg)) (hj : lk lv x = some (vr t i)) (kk : AW M P np lv (vr t i :: st) h) : AW M P pc lv st h := by
  obtain ⟨j, hj⟩ := lk_at hj
  exact a_aload j hd hj kk

theorem u_iinc {a n : Int} (hd : (tb M)[k]? = some (pc, .iinc x n, 3, np, tg)) (hj : lk lv x = some (vi a)) (hn : x < M.2.2.1) (hr : -2147483648 ≤ a + n ∧ a + n < 2147483648) (hl' : s1 lv x (vi (a + n)) = lv') (kk : AW M P np lv' st h) : AW M P pc lv st h := by
  obtain ⟨j, hj⟩ := lk_at hj
  exact a_iinc j hd hj hn (by rw [ia, w3_id hr.1 hr.2]; exact hl') kk

theorem u_iadd {a b : Int} (hd : (tb M)[k]? = some (pc, .iadd, 1, np, tg)) (hr : -2147483648 ≤ a + b ∧ a + b < 2147483648) (kk : AW M P np lv (vi (a + b) :: st) h) : AW M P pc lv (vi b :: vi a :: st) h := a_iadd hd (by rw [ia, w3_id hr.1 hr.2]; exact kk)

theorem u_isub {a b : Int} (hd : (tb M)[k]? = some (pc, .isub, 1, np, tg)) (hr : -2147483648 ≤ a - b ∧ a - b < 2147483648) (kk : AW M P np lv (vi (a - b) :: st) h) : AW M P pc lv (vi b :: vi a :: st) h := a_isub hd (by rw [ib, w3_id hr.1 hr.2]; exact kk)

theorem u_imul {a b : Int} (hd : (tb M)[k]? = some (pc, .imul, 1, np, tg)) (hr : -2147483648 ≤ a * b ∧ a * b < 2147483648) (kk : AW M P np lv (vi (a * b) :: st) h) : AW M P pc lv (vi b :: vi a :: st) h := a_imul hd (by rw [im, w3_id hr.1 hr.2]; exact kk)

theorem u_idiv {a b : Int} (hd : (tb M)[k]? = some (pc, .idiv, 1, np, tg)) (h1 : 0 ≤ a) (h3 : 0 < b) (kk : AW M P np lv (vi (a / b) :: st) h) : AW M P pc lv (vi b :: vi a :: st) h := a_know fun hl hs hw => a_idiv hd (by omega) (by rw [iq_pos h1 (hs (vi a) (by simp)).2 h3]; exact kk)
theorem u_irem {a b : Int} (hd : (tb M)[k]? = some (pc, .irem, 1, np, tg)) (h1 : 0 ≤ a) (h3 : 0 < b) (kk : AW M P np lv (vi (a % b) :: st) h) : AW M P pc lv (vi b :: vi a :: st) h := a_know fun hl hs hw => a_irem hd (by omega) (by rw [ir_pos h1 (hs (vi a) (by simp)).2 h3]; exact kk)
theorem u_iald {n j : Nat} (hd : (tb M)[k]? = some (pc, .iaload, 1, np, tg)) (ho : ko t = none) (hk : ka t = some (0, n)) (h1 : j < n) (kk : AW M P np lv (vi (h t i j) :: st) h) : AW M P pc lv (vi (j : Int) :: vr t i :: st) h := a_iald hd ho hk (by omega) (by omega) kk
theorem u_ialdx {n : Nat} {z : Int} (j : Nat) (hd : (tb M)[k]? = some (pc, .iaload, 1, np, tg)) (ho : ko t = none) (hk : ka t = some (0, n)) (hz : z = j) (h1 : j < n) (kk : AW M P np lv (vi (h t i j) :: st) h) : AW M P pc lv (vi z :: vr t i :: st) h := by
  subst hz; exact u_iald hd ho hk h1 kk
theorem u_iast {n j : Nat} {a : Int} (hd : (tb M)[k]? = some (pc, .iastore, 1, np, tg)) (ho : ko t = none) (hk : ka t = some (0, n)) (h1 : j < n) (kk : AW M P np lv st (put h t i j a)) : AW M P pc lv (vi a :: vi (j : Int) :: vr t i :: st) h := a_iast hd ho hk (by omega) (by omega) kk
theorem u_iastx {n : Nat} {z a : Int} (j : Nat) (hd : (tb M)[k]? = some (pc, .iastore, 1, np, tg)) (ho : ko t = none) (hk : ka t = some (0, n)) (hz : z = j) (h1 : j < n) (kk : AW M P np lv st (put h t i j a)) : AW M P pc lv (vi a :: vi z :: vr t i :: st) h := by
  subst hz; exact u_iast hd ho hk h1 kk
theorem u_bald {n j : Nat} (hd : (tb M)[k]? = some (pc, .baload, 1, np, tg)) (ho : ko t = none) (hk : ka t = some (1, n)) (h1 : j < n) (kk : AW M P np lv (vi (h t i j) :: st) h) : AW M P pc lv (vi (j : Int) :: vr t i :: st) h := a_bald hd ho hk (by omega) (by omega) kk
theorem u_bast {n j : Nat} {a : Int} (hd : (tb M)[k]? = some (pc, .bastore, 1, np, tg)) (ho : ko t = none) (hk : ka t = some (1, n)) (h1 : j < n) (kk : AW M P np lv st (put h t i j (sb a))) : AW M P pc lv (vi a :: vi (j : Int) :: vr t i :: st) h := a_bast hd ho hk (by omega) (by omega) kk
theorem u_aald {a n t' i' j : Nat} (hd : (tb M)[k]? = some (pc, .aaload, 1, np, tg)) (ho : ko t = none) (hk : ka t = some (a, n)) (ha : a = 2 ∨ a = 3 ∨ a = 4) (h1 : j < n) (hr : rf t i j = some (t', i')) (kk : AW M P np lv (vr t' i' :: st) h) : AW M P pc lv (vi (j : Int) :: vr t i :: st) h := a_aald hd ho hk ha (by omega) (by omega) hr kk
theorem u_aaldx {a n t' i' : Nat} {z : Int} (j : Nat) (hd : (tb M)[k]? = some (pc, .aaload, 1, np, tg)) (ho : ko t = none) (hk : ka t = some (a, n)) (ha : a = 2 ∨ a = 3 ∨ a = 4) (hz : z = j) (h1 : j < n) (hr : rf t i j = some (t', i')) (kk : AW M P np lv (vr t' i' :: st) h) : AW M P pc lv (vi z :: vr t i :: st) h := by
  subst hz; exact u_aald hd ho hk ha h1 hr kk
/-- a contract with one end -/
def SpE (M : MD) (av : List AV) (h : HH) (R : Option AV) (h' : HH) : Prop := Sp M av h (fun r g => r = R ∧ g = h')

theorem u_virt0 (hd : (tb M)[k]? = some (pc, .invokevirtual x, 3, np, tg)) (hlk : Cond.methodLink M.1.cls x M'.1 ∈ lw_gd) (hm : mdok M' n) (hmv : mvok M') (hR : rmok M M') (hn : 0 = n) (ho : ((ko t).bind fun c => (vwCl[c]?).map fun q => q.1) = some M'.1.cls) (hwd : aw_ st ≤ 8) (hSp : Sp M' [vr t i] h P') (kk : ∀ r h', P' r h' → AW M P np lv (r.toList ++ st) h') : AW M P pc lv (vr t i :: st) h := a_virt (as := []) hd hlk hm hmv hR hn ho rfl hwd hSp kk
theorem e_virt0 (hd : (tb M)[k]? = some (pc, .invokevirtual x, 3, np, tg)) (hlk : Cond.methodLink M.1.cls x M'.1 ∈ lw_gd) (hm : mdok M' n) (hmv : mvok M') (hR : rmok M M') (hn : 0 = n) (ho : ((ko t).bind fun c => (vwCl[c]?).map fun q => q.1) = some M'.1.cls) (hwd : aw_ st ≤ 8) (hSp : SpE M' [vr t i] h R h') (kk : AW M P np lv (R.toList ++ st) h') : AW M P pc lv (vr t i :: st) h := a_virt (as := []) hd hlk hm hmv hR hn ho rfl hwd hSp (fun r g hp => by obtain ⟨rfl, rfl⟩ := hp; exact kk)

theorem u_virt1 {x0 : AV} (hd : (tb M)[k]? = some (pc, .invokevirtual x, 3, np, tg)) (hlk : Cond.methodLink M.1.cls x M'.1 ∈ lw_gd) (hm : mdok M' n) (hmv : mvok M') (hR : rmok M M') (hn : 1 = n) (ho : ((ko t).bind fun c => (vwCl[c]?).map fun q => q.1) = some M'.1.cls) (hwd : aw_ st ≤ 8) (hSp : Sp M' [vr t i, x0] h P') (kk : ∀ r h', P' r h' → AW M P np lv (r.toList ++ st) h') : AW M P pc lv (x0 :: vr t i :: st) h := a_virt (as := [x0]) hd hlk hm hmv hR hn ho rfl hwd hSp kk
theorem e_virt1 {x0 : AV} (hd : (tb M)[k]? = some (pc, .invokevirtual x, 3, np, tg)) (hlk : Cond.methodLink M.1.cls x M'.1 ∈ lw_gd) (hm : mdok M' n) (hmv : mvok M') (hR : rmok M M') (hn : 1 = n) (ho : ((ko t).bind fun c => (vwCl[c]?).map fun q => q.1) = some M'.1.cls) (hwd : aw_ st ≤ 8) (hSp : SpE M' [vr t i, x0] h R h') (kk : AW M P np lv (R.toList ++ st) h') : AW M P pc lv (x0 :: vr t i :: st) h := a_virt (as := [x0]) hd hlk hm hmv hR hn ho rfl hwd hSp (fun r g hp => by obtain ⟨rfl, rfl⟩ := hp; exact kk)

theorem u_virt2 {x0 x1 : AV} (hd : (tb M)[k]? = some (pc, .invokevirtual x, 3, np, tg)) (hlk : Cond.methodLink M.1.cls x M'.1 ∈ lw_gd) (hm : mdok M' n) (hmv : mvok M') (hR : rmok M M') (hn : 2 = n) (ho : ((ko t).bind fun c => (vwCl[c]?).map fun q => q.1) = some M'.1.cls) (hwd : aw_ st ≤ 8) (hSp : Sp M' [vr t i, x0, x1] h P') (kk : ∀ r h', P' r h' → AW M P np lv (r.toList ++ st) h') : AW M P pc lv (x1 :: x0 :: vr t i :: st) h := a_virt (as := [x0, x1]) hd hlk hm hmv hR hn ho rfl hwd hSp kk
theorem e_virt2 {x0 x1 : AV} (hd : (tb M)[k]? = some (pc, .invokevirtual x, 3, np, tg)) (hlk : Cond.methodLink M.1.cls x M'.1 ∈ lw_gd) (hm : mdok M' n) (hmv : mvok M') (hR : rmok M M') (hn : 2 = n) (ho : ((ko t).bind fun c => (vwCl[c]?).map fun q => q.1) = some M'.1.cls) (hwd : aw_ st ≤ 8) (hSp : SpE M' [vr t i, x0, x1] h R h') (kk : AW M P np lv (R.toList ++ st) h') : AW M P pc lv (x1 :: x0 :: vr t i :: st) h := a_virt (as := [x0, x1]) hd hlk hm hmv hR hn ho rfl hwd hSp (fun r g hp => by obtain ⟨rfl, rfl⟩ := hp; exact kk)

theorem u_virt3 {x0 x1 x2 : AV} (hd : (tb M)[k]? = some (pc, .invokevirtual x, 3, np, tg)) (hlk : Cond.methodLink M.1.cls x M'.1 ∈ lw_gd) (hm : mdok M' n) (hmv : mvok M') (hR : rmok M M') (hn : 3 = n) (ho : ((ko t).bind fun c => (vwCl[c]?).map fun q => q.1) = some M'.1.cls) (hwd : aw_ st ≤ 8) (hSp : Sp M' [vr t i, x0, x1, x2] h P') (kk : ∀ r h', P' r h' → AW M P np lv (r.toList ++ st) h') : AW M P pc lv (x2 :: x1 :: x0 :: vr t i :: st) h := a_virt (as := [x0, x1, x2]) hd hlk hm hmv hR hn ho rfl hwd hSp kk
theorem e_virt3 {x0 x1 x2 : AV} (hd : (tb M)[k]? = some (pc, .invokevirtual x, 3, np, tg)) (hlk : Cond.methodLink M.1.cls x M'.1 ∈ lw_gd) (hm : mdok M' n) (hmv : mvok M') (hR : rmok M M') (hn : 3 = n) (ho : ((ko t).bind fun c => (vwCl[c]?).map fun q => q.1) = some M'.1.cls) (hwd : aw_ st ≤ 8) (hSp : SpE M' [vr t i, x0, x1, x2] h R h') (kk : AW M P np lv (R.toList ++ st) h') : AW M P pc lv (x2 :: x1 :: x0 :: vr t i :: st) h := a_virt (as := [x0, x1, x2]) hd hlk hm hmv hR hn ho rfl hwd hSp (fun r g hp => by obtain ⟨rfl, rfl⟩ := hp; exact kk)

theorem u_virt4 {x0 x1 x2 x3 : AV} (hd : (tb M)[k]? = some (pc, .invokevirtual x, 3, np, tg)) (hlk : Cond.methodLink M.1.cls x M'.1 ∈ lw_gd) (hm : mdok M' n) (hmv : mvok M') (hR : rmok M M') (hn : 4 = n) (ho : ((ko t).bind fun c => (vwCl[c]?).map fun q => q.1) = some M'.1.cls) (hwd : aw_ st ≤ 8) (hSp : Sp M' [vr t i, x0, x1, x2, x3] h P') (kk : ∀ r h', P' r h' → AW M P np lv (r.toList ++ st) h') : AW M P pc lv (x3 :: x2 :: x1 :: x0 :: vr t i :: st) h := a_virt (as := [x0, x1, x2, x3]) hd hlk hm hmv hR hn ho rfl hwd hSp kk
theorem e_virt4 {x0 x1 x2 x3 : AV} (hd : (tb M)[k]? = some (pc, .invokevirtual x, 3, np, tg)) (hlk : Cond.methodLink M.1.cls x M'.1 ∈ lw_gd) (hm : mdok M' n) (hmv : mvok M') (hR : rmok M M') (hn : 4 = n) (ho : ((ko t).bind fun c => (vwCl[c]?).map fun q => q.1) = some M'.1.cls) (hwd : aw_ st ≤ 8) (hSp : SpE M' [vr t i, x0, x1, x2, x3] h R h') (kk : AW M P np lv (R.toList ++ st) h') : AW M P pc lv (x3 :: x2 :: x1 :: x0 :: vr t i :: st) h := a_virt (as := [x0, x1, x2, x3]) hd hlk hm hmv hR hn ho rfl hwd hSp (fun r g hp => by obtain ⟨rfl, rfl⟩ := hp; exact kk)

theorem u_virt5 {x0 x1 x2 x3 x4 : AV} (hd : (tb M)[k]? = some (pc, .invokevirtual x, 3, np, tg)) (hlk : Cond.methodLink M.1.cls x M'.1 ∈ lw_gd) (hm : mdok M' n) (hmv : mvok M') (hR : rmok M M') (hn : 5 = n) (ho : ((ko t).bind fun c => (vwCl[c]?).map fun q => q.1) = some M'.1.cls) (hwd : aw_ st ≤ 8) (hSp : Sp M' [vr t i, x0, x1, x2, x3, x4] h P') (kk : ∀ r h', P' r h' → AW M P np lv (r.toList ++ st) h') : AW M P pc lv (x4 :: x3 :: x2 :: x1 :: x0 :: vr t i :: st) h := a_virt (as := [x0, x1, x2, x3, x4]) hd hlk hm hmv hR hn ho rfl hwd hSp kk
theorem e_virt5 {x0 x1 x2 x3 x4 : AV} (hd : (tb M)[k]? = some (pc, .invokevirtual x, 3, np, tg)) (hlk : Cond.methodLink M.1.cls x M'.1 ∈ lw_gd) (hm : mdok M' n) (hmv : mvok M') (hR : rmok M M') (hn : 5 = n) (ho : ((ko t).bind fun c => (vwCl[c]?).map fun q => q.1) = some M'.1.cls) (hwd : aw_ st ≤ 8) (hSp : SpE M' [vr t i, x0, x1, x2, x3, x4] h R h') (kk : AW M P np lv (R.toList ++ st) h') : AW M P pc lv (x4 :: x3 :: x2 :: x1 :: x0 :: vr t i :: st) h := a_virt (as := [x0, x1, x2, x3, x4]) hd hlk hm hmv hR hn ho rfl hwd hSp (fun r g hp => by obtain ⟨rfl, rfl⟩ := hp; exact kk)

theorem u_virt6 {x0 x1 x2 x3 x4 x5 : AV} (hd : (tb M)[k]? = some (pc, .invokevirtual x, 3, np, tg)) (hlk : Cond.methodLink M.1.cls x M'.1 ∈ lw_gd) (hm : mdok M' n) (hmv : mvok M') (hR : rmok M M') (hn : 6 = n) (ho : ((ko t).bind fun c => (vwCl[c]?).map fun q => q.1) = some M'.1.cls) (hwd : aw_ st ≤ 8) (hSp : Sp M' [vr t i, x0, x1, x2, x3, x4, x5] h P') (kk : ∀ r h', P' r h' → AW M P np lv (r.toList ++ st) h') : AW M P pc lv (x5 :: x4 :: x3 :: x2 :: x1 :: x0 :: vr t i :: st) h := a_virt (as := [x0, x1, x2, x3, x4, x5]) hd hlk hm hmv hR hn ho rfl hwd hSp kk
theorem e_virt6 {x0 x1 x2 x3 x4 x5 : AV} (hd : (tb M)[k]? = some (pc, .invokevirtual x, 3, np, tg)) (hlk : Cond.methodLink M.1.cls x M'.1 ∈ lw_gd) (hm : mdok M' n) (hmv : mvok M') (hR : rmok M M') (hn : 6 = n) (ho : ((ko t).bind fun c => (vwCl[c]?).map fun q => q.1) = some M'.1.cls) (hwd : aw_ st ≤ 8) (hSp : SpE M' [vr t i, x0, x1, x2, x3, x4, x5] h R h') (kk : AW M P np lv (R.toList ++ st) h') : AW M P pc lv (x5 :: x4 :: x3 :: x2 :: x1 :: x0 :: vr t i :: st) h := a_virt (as := [x0, x1, x2, x3, x4, x5]) hd hlk hm hmv hR hn ho rfl hwd hSp (fun r g hp => by obtain ⟨rfl, rfl⟩ := hp; exact kk)

theorem u_stat1 {x0 : AV} (hd : (tb M)[k]? = some (pc, .invokestatic x, 3, np, tg)) (hlk : Cond.methodLink M.1.cls x M'.1 ∈ lw_gd) (hm : mdok M' n) (hmv : Cond.static M'.1 ∈ lw_gd) (hR : rmok M M') (hn : 1 = n) (hwd : aw_ st ≤ 8) (hSp : Sp M' [x0] h P') (kk : ∀ r h', P' r h' → AW M P np lv (r.toList ++ st) h') : AW M P pc lv (x0 :: st) h := a_stat (as := [x0]) hd hlk hm hmv hR hn rfl hwd hSp kk
theorem e_stat1 {x0 : AV} (hd : (tb M)[k]? = some (pc, .invokestatic x, 3, np, tg)) (hlk : Cond.methodLink M.1.cls x M'.1 ∈ lw_gd) (hm : mdok M' n) (hmv : Cond.static M'.1 ∈ lw_gd) (hR : rmok M M') (hn : 1 = n) (hwd : aw_ st ≤ 8) (hSp : SpE M' [x0] h R h') (kk : AW M P np lv (R.toList ++ st) h') : AW M P pc lv (x0 :: st) h := a_stat (as := [x0]) hd hlk hm hmv hR hn rfl hwd hSp (fun r g hp => by obtain ⟨rfl, rfl⟩ := hp; exact kk)

theorem u_stat2 {x0 x1 : AV} (hd : (tb M)[k]? = some (pc, .invokestatic x, 3, np, tg)) (hlk : Cond.methodLink M.1.cls x M'.1 ∈ lw_gd) (hm : mdok M' n) (hmv : Cond.static M'.1 ∈ lw_gd) (hR : rmok M M') (hn : 2 = n) (hwd : aw_ st ≤ 8) (hSp : Sp M' [x0, x1] h P') (kk : ∀ r h', P' r h' → AW M P np lv (r.toList ++ st) h') : AW M P pc lv (x1 :: x0 :: st) h := a_stat (as := [x0, x1]) hd hlk hm hmv hR hn rfl hwd hSp kk
theorem e_stat2 {x0 x1 : AV} (hd : (tb M)[k]? = some (pc, .invokestatic x, 3, np, tg)) (hlk : Cond.methodLink M.1.cls x M'.1 ∈ lw_gd) (hm : mdok M' n) (hmv : Cond.static M'.1 ∈ lw_gd) (hR : rmok M M') (hn : 2 = n) (hwd : aw_ st ≤ 8) (hSp : SpE M' [x0, x1] h R h') (kk : AW M P np lv (R.toList ++ st) h') : AW M P pc lv (x1 :: x0 :: st) h := a_stat (as := [x0, x1]) hd hlk hm hmv hR hn rfl hwd hSp (fun r g hp => by obtain ⟨rfl, rfl⟩ := hp; exact kk)

theorem u_stat3 {x0 x1 x2 : AV} (hd : (tb M)[k]? = some (pc, .invokestatic x, 3, np, tg)) (hlk : Cond.methodLink M.1.cls x M'.1 ∈ lw_gd) (hm : mdok M' n) (hmv : Cond.static M'.1 ∈ lw_gd) (hR : rmok M M') (hn : 3 = n) (hwd : aw_ st ≤ 8) (hSp : Sp M' [x0, x1, x2] h P') (kk : ∀ r h', P' r h' → AW M P np lv (r.toList ++ st) h') : AW M P pc lv (x2 :: x1 :: x0 :: st) h := a_stat (as := [x0, x1, x2]) hd hlk hm hmv hR hn rfl hwd hSp kk
theorem e_stat3 {x0 x1 x2 : AV} (hd : (tb M)[k]? = some (pc, .invokestatic x, 3, np, tg)) (hlk : Cond.methodLink M.1.cls x M'.1 ∈ lw_gd) (hm : mdok M' n) (hmv : Cond.static M'.1 ∈ lw_gd) (hR : rmok M M') (hn : 3 = n) (hwd : aw_ st ≤ 8) (hSp : SpE M' [x0, x1, x2] h R h') (kk : AW M P np lv (R.toList ++ st) h') : AW M P pc lv (x2 :: x1 :: x0 :: st) h := a_stat (as := [x0, x1, x2]) hd hlk hm hmv hR hn rfl hwd hSp (fun r g hp => by obtain ⟨rfl, rfl⟩ := hp; exact kk)

theorem u_stat4 {x0 x1 x2 x3 : AV} (hd : (tb M)[k]? = some (pc, .invokestatic x, 3, np, tg)) (hlk : Cond.methodLink M.1.cls x M'.1 ∈ lw_gd) (hm : mdok M' n) (hmv : Cond.static M'.1 ∈ lw_gd) (hR : rmok M M') (hn : 4 = n) (hwd : aw_ st ≤ 8) (hSp : Sp M' [x0, x1, x2, x3] h P') (kk : ∀ r h', P' r h' → AW M P np lv (r.toList ++ st) h') : AW M P pc lv (x3 :: x2 :: x1 :: x0 :: st) h := a_stat (as := [x0, x1, x2, x3]) hd hlk hm hmv hR hn rfl hwd hSp kk
theorem e_stat4 {x0 x1 x2 x3 : AV} (hd : (tb M)[k]? = some (pc, .invokestatic x, 3, np, tg)) (hlk : Cond.methodLink M.1.cls x M'.1 ∈ lw_gd) (hm : mdok M' n) (hmv : Cond.static M'.1 ∈ lw_gd) (hR : rmok M M') (hn : 4 = n) (hwd : aw_ st ≤ 8) (hSp : SpE M' [x0, x1, x2, x3] h R h') (kk : AW M P np lv (R.toList ++ st) h') : AW M P pc lv (x3 :: x2 :: x1 :: x0 :: st) h := a_stat (as := [x0, x1, x2, x3]) hd hlk hm hmv hR hn rfl hwd hSp (fun r g hp => by obtain ⟨rfl, rfl⟩ := hp; exact kk)

theorem u_stat5 {x0 x1 x2 x3 x4 : AV} (hd : (tb M)[k]? = some (pc, .invokestatic x, 3, np, tg)) (hlk : Cond.methodLink M.1.cls x M'.1 ∈ lw_gd) (hm : mdok M' n) (hmv : Cond.static M'.1 ∈ lw_gd) (hR : rmok M M') (hn : 5 = n) (hwd : aw_ st ≤ 8) (hSp : Sp M' [x0, x1, x2, x3, x4] h P') (kk : ∀ r h', P' r h' → AW M P np lv (r.toList ++ st) h') : AW M P pc lv (x4 :: x3 :: x2 :: x1 :: x0 :: st) h := a_stat (as := [x0, x1, x2, x3, x4]) hd hlk hm hmv hR hn rfl hwd hSp kk
theorem e_stat5 {x0 x1 x2 x3 x4 : AV} (hd : (tb M)[k]? = some (pc, .invokestatic x, 3, np, tg)) (hlk : Cond.methodLink M.1.cls x M'.1 ∈ lw_gd) (hm : mdok M' n) (hmv : Cond.static M'.1 ∈ lw_gd) (hR : rmok M M') (hn : 5 = n) (hwd : aw_ st ≤ 8) (hSp : SpE M' [x0, x1, x2, x3, x4] h R h') (kk : AW M P np lv (R.toList ++ st) h') : AW M P pc lv (x4 :: x3 :: x2 :: x1 :: x0 :: st) h := a_stat (as := [x0, x1, x2, x3, x4]) hd hlk hm hmv hR hn rfl hwd hSp (fun r g hp => by obtain ⟨rfl, rfl⟩ := hp; exact kk)

theorem u_stat6 {x0 x1 x2 x3 x4 x5 : AV} (hd : (tb M)[k]? = some (pc, .invokestatic x, 3, np, tg)) (hlk : Cond.methodLink M.1.cls x M'.1 ∈ lw_gd) (hm : mdok M' n) (hmv : Cond.static M'.1 ∈ lw_gd) (hR : rmok M M') (hn : 6 = n) (hwd : aw_ st ≤ 8) (hSp : Sp M' [x0, x1, x2, x3, x4, x5] h P') (kk : ∀ r h', P' r h' → AW M P np lv (r.toList ++ st) h') : AW M P pc lv (x5 :: x4 :: x3 :: x2 :: x1 :: x0 :: st) h := a_stat (as := [x0, x1, x2, x3, x4, x5]) hd hlk hm hmv hR hn rfl hwd hSp kk
theorem e_stat6 {x0 x1 x2 x3 x4 x5 : AV} (hd : (tb M)[k]? = some (pc, .invokestatic x, 3, np, tg)) (hlk : Cond.methodLink M.1.cls x M'.1 ∈ lw_gd) (hm : mdok M' n) (hmv : Cond.static M'.1 ∈ lw_gd) (hR : rmok M M') (hn : 6 = n) (hwd : aw_ st ≤ 8) (hSp : SpE M' [x0, x1, x2, x3, x4, x5] h R h') (kk : AW M P np lv (R.toList ++ st) h') : AW M P pc lv (x5 :: x4 :: x3 :: x2 :: x1 :: x0 :: st) h := a_stat (as := [x0, x1, x2, x3, x4, x5]) hd hlk hm hmv hR hn rfl hwd hSp (fun r g hp => by obtain ⟨rfl, rfl⟩ := hp; exact kk)

theorem u_statN1 {x0 : AV} (hd : (tb M)[k]? = some (pc, .invokestatic x, 3, np, tg)) (hlk : Cond.methodLinkNest M.1.cls x M'.1 "PretzelProof" ∈ nw_all) (hm : mdok M' n) (hmv : Cond.static M'.1 ∈ lw_gd) (hR : rmok M M') (hn : 1 = n) (hwd : aw_ st ≤ 8) (hSp : Sp M' [x0] h P') (kk : ∀ r h', P' r h' → AW M P np lv (r.toList ++ st) h') : AW M P pc lv (x0 :: st) h := a_statN (as := [x0]) hd hlk hm hmv hR hn rfl hwd hSp kk
theorem e_statN1 {x0 : AV} (hd : (tb M)[k]? = some (pc, .invokestatic x, 3, np, tg)) (hlk : Cond.methodLinkNest M.1.cls x M'.1 "PretzelProof" ∈ nw_all) (hm : mdok M' n) (hmv : Cond.static M'.1 ∈ lw_gd) (hR : rmok M M') (hn : 1 = n) (hwd : aw_ st ≤ 8) (hSp : SpE M' [x0] h R h') (kk : AW M P np lv (R.toList ++ st) h') : AW M P pc lv (x0 :: st) h := a_statN (as := [x0]) hd hlk hm hmv hR hn rfl hwd hSp (fun r g hp => by obtain ⟨rfl, rfl⟩ := hp; exact kk)

theorem u_statN2 {x0 x1 : AV} (hd : (tb M)[k]? = some (pc, .invokestatic x, 3, np, tg)) (hlk : Cond.methodLinkNest M.1.cls x M'.1 "PretzelProof" ∈ nw_all) (hm : mdok M' n) (hmv : Cond.static M'.1 ∈ lw_gd) (hR : rmok M M') (hn : 2 = n) (hwd : aw_ st ≤ 8) (hSp : Sp M' [x0, x1] h P') (kk : ∀ r h', P' r h' → AW M P np lv (r.toList ++ st) h') : AW M P pc lv (x1 :: x0 :: st) h := a_statN (as := [x0, x1]) hd hlk hm hmv hR hn rfl hwd hSp kk
theorem e_statN2 {x0 x1 : AV} (hd : (tb M)[k]? = some (pc, .invokestatic x, 3, np, tg)) (hlk : Cond.methodLinkNest M.1.cls x M'.1 "PretzelProof" ∈ nw_all) (hm : mdok M' n) (hmv : Cond.static M'.1 ∈ lw_gd) (hR : rmok M M') (hn : 2 = n) (hwd : aw_ st ≤ 8) (hSp : SpE M' [x0, x1] h R h') (kk : AW M P np lv (R.toList ++ st) h') : AW M P pc lv (x1 :: x0 :: st) h := a_statN (as := [x0, x1]) hd hlk hm hmv hR hn rfl hwd hSp (fun r g hp => by obtain ⟨rfl, rfl⟩ := hp; exact kk)

theorem u_statN3 {x0 x1 x2 : AV} (hd : (tb M)[k]? = some (pc, .invokestatic x, 3, np, tg)) (hlk : Cond.methodLinkNest M.1.cls x M'.1 "PretzelProof" ∈ nw_all) (hm : mdok M' n) (hmv : Cond.static M'.1 ∈ lw_gd) (hR : rmok M M') (hn : 3 = n) (hwd : aw_ st ≤ 8) (hSp : Sp M' [x0, x1, x2] h P') (kk : ∀ r h', P' r h' → AW M P np lv (r.toList ++ st) h') : AW M P pc lv (x2 :: x1 :: x0 :: st) h := a_statN (as := [x0, x1, x2]) hd hlk hm hmv hR hn rfl hwd hSp kk
theorem e_statN3 {x0 x1 x2 : AV} (hd : (tb M)[k]? = some (pc, .invokestatic x, 3, np, tg)) (hlk : Cond.methodLinkNest M.1.cls x M'.1 "PretzelProof" ∈ nw_all) (hm : mdok M' n) (hmv : Cond.static M'.1 ∈ lw_gd) (hR : rmok M M') (hn : 3 = n) (hwd : aw_ st ≤ 8) (hSp : SpE M' [x0, x1, x2] h R h') (kk : AW M P np lv (R.toList ++ st) h') : AW M P pc lv (x2 :: x1 :: x0 :: st) h := a_statN (as := [x0, x1, x2]) hd hlk hm hmv hR hn rfl hwd hSp (fun r g hp => by obtain ⟨rfl, rfl⟩ := hp; exact kk)

theorem u_statN4 {x0 x1 x2 x3 : AV} (hd : (tb M)[k]? = some (pc, .invokestatic x, 3, np, tg)) (hlk : Cond.methodLinkNest M.1.cls x M'.1 "PretzelProof" ∈ nw_all) (hm : mdok M' n) (hmv : Cond.static M'.1 ∈ lw_gd) (hR : rmok M M') (hn : 4 = n) (hwd : aw_ st ≤ 8) (hSp : Sp M' [x0, x1, x2, x3] h P') (kk : ∀ r h', P' r h' → AW M P np lv (r.toList ++ st) h') : AW M P pc lv (x3 :: x2 :: x1 :: x0 :: st) h := a_statN (as := [x0, x1, x2, x3]) hd hlk hm hmv hR hn rfl hwd hSp kk
theorem e_statN4 {x0 x1 x2 x3 : AV} (hd : (tb M)[k]? = some (pc, .invokestatic x, 3, np, tg)) (hlk : Cond.methodLinkNest M.1.cls x M'.1 "PretzelProof" ∈ nw_all) (hm : mdok M' n) (hmv : Cond.static M'.1 ∈ lw_gd) (hR : rmok M M') (hn : 4 = n) (hwd : aw_ st ≤ 8) (hSp : SpE M' [x0, x1, x2, x3] h R h') (kk : AW M P np lv (R.toList ++ st) h') : AW M P pc lv (x3 :: x2 :: x1 :: x0 :: st) h := a_statN (as := [x0, x1, x2, x3]) hd hlk hm hmv hR hn rfl hwd hSp (fun r g hp => by obtain ⟨rfl, rfl⟩ := hp; exact kk)

theorem u_statN5 {x0 x1 x2 x3 x4 : AV} (hd : (tb M)[k]? = some (pc, .invokestatic x, 3, np, tg)) (hlk : Cond.methodLinkNest M.1.cls x M'.1 "PretzelProof" ∈ nw_all) (hm : mdok M' n) (hmv : Cond.static M'.1 ∈ lw_gd) (hR : rmok M M') (hn : 5 = n) (hwd : aw_ st ≤ 8) (hSp : Sp M' [x0, x1, x2, x3, x4] h P') (kk : ∀ r h', P' r h' → AW M P np lv (r.toList ++ st) h') : AW M P pc lv (x4 :: x3 :: x2 :: x1 :: x0 :: st) h := a_statN (as := [x0, x1, x2, x3, x4]) hd hlk hm hmv hR hn rfl hwd hSp kk
theorem e_statN5 {x0 x1 x2 x3 x4 : AV} (hd : (tb M)[k]? = some (pc, .invokestatic x, 3, np, tg)) (hlk : Cond.methodLinkNest M.1.cls x M'.1 "PretzelProof" ∈ nw_all) (hm : mdok M' n) (hmv : Cond.static M'.1 ∈ lw_gd) (hR : rmok M M') (hn : 5 = n) (hwd : aw_ st ≤ 8) (hSp : SpE M' [x0, x1, x2, x3, x4] h R h') (kk : AW M P np lv (R.toList ++ st) h') : AW M P pc lv (x4 :: x3 :: x2 :: x1 :: x0 :: st) h := a_statN (as := [x0, x1, x2, x3, x4]) hd hlk hm hmv hR hn rfl hwd hSp (fun r g hp => by obtain ⟨rfl, rfl⟩ := hp; exact kk)

theorem u_statN6 {x0 x1 x2 x3 x4 x5 : AV} (hd : (tb M)[k]? = some (pc, .invokestatic x, 3, np, tg)) (hlk : Cond.methodLinkNest M.1.cls x M'.1 "PretzelProof" ∈ nw_all) (hm : mdok M' n) (hmv : Cond.static M'.1 ∈ lw_gd) (hR : rmok M M') (hn : 6 = n) (hwd : aw_ st ≤ 8) (hSp : Sp M' [x0, x1, x2, x3, x4, x5] h P') (kk : ∀ r h', P' r h' → AW M P np lv (r.toList ++ st) h') : AW M P pc lv (x5 :: x4 :: x3 :: x2 :: x1 :: x0 :: st) h := a_statN (as := [x0, x1, x2, x3, x4, x5]) hd hlk hm hmv hR hn rfl hwd hSp kk
theorem e_statN6 {x0 x1 x2 x3 x4 x5 : AV} (hd : (tb M)[k]? = some (pc, .invokestatic x, 3, np, tg)) (hlk : Cond.methodLinkNest M.1.cls x M'.1 "PretzelProof" ∈ nw_all) (hm : mdok M' n) (hmv : Cond.static M'.1 ∈ lw_gd) (hR : rmok M M') (hn : 6 = n) (hwd : aw_ st ≤ 8) (hSp : SpE M' [x0, x1, x2, x3, x4, x5] h R h') (kk : AW M P np lv (R.toList ++ st) h') : AW M P pc lv (x5 :: x4 :: x3 :: x2 :: x1 :: x0 :: st) h := a_statN (as := [x0, x1, x2, x3, x4, x5]) hd hlk hm hmv hR hn rfl hwd hSp (fun r g hp => by obtain ⟨rfl, rfl⟩ := hp; exact kk)

end AWU
