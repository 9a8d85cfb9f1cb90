theorem kd {X : KE} {cc : ByteArray} {T : List EN} (e : X.code = cc) (hT : okc cc T = true) {k pc n np tg : Nat} {i : Instr} (hk : T[k]? = some (pc, i, n, np, tg)) : decode X.code pc = .ok (i, n) := by rw [e]; exact (ok_at hT hk).1
def cloB (LL as : List Tg) : Bool := LL.all fun q => (List.range (lim q.1)).all fun k => match rf q.1 q.2 k with
  | some r => LL.contains r || as.contains r
  | none => true
theorem clo_of {LL as : List Tg} (h : cloB LL as = true) : ∀ q ∈ LL, ∀ k, k < lim q.1 → ∀ r, rf q.1 q.2 k = some r → r ∈ LL ∨ r ∈ as := by
  intro q hq k hk r hr
  have := List.all_eq_true.mp (List.all_eq_true.mp h q hq) k (List.mem_range.mpr hk)
  rw [hr] at this
  simpa using this
def fullB (F : List Tg) (ms : List (Nat × Nat × Nat)) (L : List Tg) : Bool := L.all fun q => F.contains q || (List.range (lim q.1)).all fun k => (rf q.1 q.2 k).isNone || ms.contains (q.1, q.2, k)
theorem full_of {F : List Tg} {ms : List (Nat × Nat × Nat)} {L : List Tg} (h : fullB F ms L = true) : Full F ms L := by
  intro q hq
  have h1 := List.all_eq_true.mp h q hq
  rw [Bool.or_eq_true] at h1
  rcases h1 with h1 | h1
  · exact Or.inl (by simpa using h1)
  · refine Or.inr (fun k hk => ?_)
    have h2 := List.all_eq_true.mp h1 k (List.mem_range.mpr hk)
    rw [Bool.or_eq_true] at h2
    rcases h2 with h2 | h2
    · exact Or.inl (by simpa using h2)
    · exact Or.inr (by simpa using h2)
def inB (F : List Tg) (ms : List (Nat × Nat × Nat)) (K L1 LL : List Tg) (z : Tg) (as : List Tg) : Bool := LL.contains z && !L1.contains z && !F.contains z && ms.all (fun q => !((q.1, q.2.1) == z)) && LL.all (fun q => q == z || !(K ++ L1).contains q) && as.all (fun q => !LL.contains q) && cloB LL as
theorem k_initB {X : KE} {pc : Nat} {lv : LV} {st stk : List AV} {F : List Tg} {ms : List (Nat × Nat × Nat)} {h h' hF : HH} {L K L1 LL as : List Tg} {cells slots : Nat} {z : Tg} {y : MethodName} {cc : ByteArray} {maxL fr lo mc sl x : Nat} (hb : inB F ms K L1 LL z as = true) (hK : X.K = K) (C : X.ok) (hd : decode X.code pc = .ok (.invokespecial x, 3)) (hC : IC y cc maxL fr lo mc sl z as LL hF) (hlk : Cond.methodLink X.own x y ∈ lw_gd) (hy : inok y cc maxL as.length) (hR : fr + 1 ≤ X.R.frames ∧ 8 + (maxL + 11) + lo ≤ X.R.locals) (hf : cells + mc ≤ X.R.cells ∧ slots + sl ≤ X.R.slots) (hL : L = L1 ++ [z]) (hst : stk = (as.map rfv).reverse ++ vr z.1 z.2 :: st) (haw : aw_ st ≤ 8) (hz0 : h z.1 z.2 = fun _ => 0) (hh : ∀ q ∈ LL, h' q.1 q.2 = hF q.1 q.2) (hh2 : ∀ q ∈ L1, h' q.1 q.2 = h q.1 q.2)
    (kk : KJ X (pc + 3) lv st (F ++ LL) ms h' (L1 ++ LL) (cells + mc) (slots + sl)) : KJ X pc lv stk F ms h L cells slots := by
  subst hK
  simp only [inB, Bool.and_eq_true, Bool.not_eq_true', List.all_eq_true] at hb
  obtain ⟨⟨⟨⟨⟨⟨b1, b2⟩, b3⟩, b4⟩, b5⟩, b6⟩, b7⟩ := hb
  exact k_init C hd hC hlk hy hR hf hL hst haw (by simpa using b1) (by simpa using b2) (by simpa using b3) (fun q hq e => by have := b4 q hq; rw [e] at this; simp at this) (fun q hq hne he => by
    have := b5 q hq
    rw [Bool.or_eq_true] at this
    rcases this with h1 | h1
    · exact hne (by simpa using h1)
    · rw [Bool.not_eq_true'] at h1
      exact absurd (by simpa using he) (by simpa using h1)) (fun q hq he => by have := b6 q hq; exact absurd he (by simpa using this)) (clo_of b7) hz0 hh hh2 kk
theorem nin_of {z : Tg} {K L : List Tg} {X : KE} (hK : X.K = K) (h : (K ++ L).contains z = false) : z ∉ X.K ++ L := by
  rw [hK]
  simpa using h

theorem aw_int : Cond.arrayClass .int ∈ lw_gd := gd_in (ti_1 (List.mem_of_getElem? (i := 42) rfl)) rfl
theorem aw_byte : Cond.arrayClass .byte ∈ lw_gd := gd_in (ti_4 (List.mem_of_getElem? (i := 218) rfl)) rfl
theorem ob_i : Cond.instanceMethod Lib.objectInit ∈ lw_gd := gd_in (ti_1 (List.mem_of_getElem? (i := 23) rfl)) rfl
theorem ob_c : Cond.code Lib.objectInit ⟨#[0xb1]⟩ 1 none ∈ lw_gd := gd_in (ti_1 (List.mem_of_getElem? (i := 24) rfl)) rfl
def tI_0 : List EN := [(0, .aload_n 0, 1, 1, 0), (1, .invokespecial 3, 3, 4, 0), (4, .aload_n 0, 1, 5, 0), (5, .bipush 15, 2, 7, 0), (7, .newarray .int, 2, 9, 0), (9, .putfield 9, 3, 12, 0), (12, .aload_n 0, 1, 13, 0), (13, .bipush 15, 2, 15, 0), (15, .newarray .int, 2, 17, 0), (17, .putfield 15, 3, 20, 0), (20, .return_, 1, 21, 0)]
theorem kI_0 : okc cX0_init tI_0 = true := by decide +kernel
theorem ii_0 : Cond.instantiable RX0 3 ∈ lw_gd := gd_in (ti_1 (List.mem_of_getElem? (i := 166) rfl)) rfl
theorem in_0 : Cond.initialized RX0 ∈ lw_gd := gd_in (ti_1 (List.mem_of_getElem? (i := 7) rfl)) rfl
theorem io_0 : inok yX0_init cX0_init 1 0 := ⟨gd_in (ti_1 (List.mem_of_getElem? (i := 169) rfl)) rfl, in_0, gd_in (ti_1 (List.mem_of_getElem? (i := 168) rfl)) rfl, rfl, by decide +kernel⟩
theorem df_0 (i : Nat) : ∀ j, j < 3 → defaultValue (tyX0 j) = dv 14 i j := fun j hj => match j, hj with
  | 0, _ => rfl
  | 1, _ => rfl
  | 2, _ => rfl
  | j + 3, hj => absurd hj (by omega)
theorem il_0_3 : Cond.methodLink RX0 3 Lib.objectInit ∈ lw_gd := gd_in (ti_1 (List.mem_of_getElem? (i := 170) rfl)) rfl
theorem pr_0_9 : fpr RX0 9 0 0 := ⟨_, _, rfl, by decide, gd_in (ti_1 (List.mem_of_getElem? (i := 171) rfl)) rfl, rfl, rfl, tyX0_ok 0 (by decide), fun _ => ⟨rfl, rfl⟩⟩
theorem pr_0_15 : fpr RX0 15 0 1 := ⟨_, _, rfl, by decide, gd_in (ti_1 (List.mem_of_getElem? (i := 172) rfl)) rfl, rfl, rfl, tyX0_ok 1 (by decide), fun _ => ⟨rfl, rfl⟩⟩
def tI_1 : List EN := [(0, .aload_n 0, 1, 1, 0), (1, .invokespecial 3, 3, 4, 0), (4, .aload_n 0, 1, 5, 0), (5, .bipush 8, 2, 7, 0), (7, .bipush 8, 2, 9, 0), (9, .multianewarray 9 2, 4, 13, 0), (13, .putfield 11, 3, 16, 0), (16, .aload_n 0, 1, 17, 0), (17, .bipush 8, 2, 19, 0), (19, .newarray .int, 2, 21, 0), (21, .putfield 16, 3, 24, 0), (24, .aload_n 0, 1, 25, 0), (25, .bipush 8, 2, 27, 0), (27, .newarray .int, 2, 29, 0), (29, .putfield 20, 3, 32, 0), (32, .aload_n 0, 1, 33, 0), (33, .bipush 8, 2, 35, 0), (35, .newarray .int, 2, 37, 0), (37, .putfield 23, 3, 40, 0), (40, .return_, 1, 41, 0)]
theorem kI_1 : okc cX1_init tI_1 = true := by decide +kernel
theorem ii_1 : Cond.instantiable RX1 6 ∈ lw_gd := gd_in (ti_1 (List.mem_of_getElem? (i := 239) rfl)) rfl
theorem in_1 : Cond.initialized RX1 ∈ lw_gd := gd_in (ti_1 (List.mem_of_getElem? (i := 10) rfl)) rfl
theorem io_1 : inok yX1_init cX1_init 1 0 := ⟨gd_in (ti_2 (List.mem_of_getElem? (i := 2) rfl)) rfl, in_1, gd_in (ti_2 (List.mem_of_getElem? (i := 1) rfl)) rfl, rfl, by decide +kernel⟩
theorem df_1 (i : Nat) : ∀ j, j < 6 → defaultValue (tyX1 j) = dv 25 i j := fun j hj => match j, hj with
  | 0, _ => rfl
  | 1, _ => rfl
  | 2, _ => rfl
  | 3, _ => rfl
  | 4, _ => rfl
  | 5, _ => rfl
  | j + 6, hj => absurd hj (by omega)
theorem il_1_3 : Cond.methodLink RX1 3 Lib.objectInit ∈ lw_gd := gd_in (ti_2 (List.mem_of_getElem? (i := 3) rfl)) rfl
theorem pr_1_11 : fpr RX1 11 1 0 := ⟨_, _, rfl, by decide, gd_in (ti_2 (List.mem_of_getElem? (i := 6) rfl)) rfl, rfl, rfl, tyX1_ok 0 (by decide), fun _ => ⟨rfl, rfl⟩⟩
theorem pr_1_16 : fpr RX1 16 1 1 := ⟨_, _, rfl, by decide, gd_in (ti_2 (List.mem_of_getElem? (i := 7) rfl)) rfl, rfl, rfl, tyX1_ok 1 (by decide), fun _ => ⟨rfl, rfl⟩⟩
theorem pr_1_20 : fpr RX1 20 1 2 := ⟨_, _, rfl, by decide, gd_in (ti_2 (List.mem_of_getElem? (i := 8) rfl)) rfl, rfl, rfl, tyX1_ok 2 (by decide), fun _ => ⟨rfl, rfl⟩⟩
theorem pr_1_23 : fpr RX1 23 1 3 := ⟨_, _, rfl, by decide, gd_in (ti_2 (List.mem_of_getElem? (i := 9) rfl)) rfl, rfl, rfl, tyX1_ok 3 (by decide), fun _ => ⟨rfl, rfl⟩⟩
def tI_2 : List EN := [(0, .aload_n 0, 1, 1, 0), (1, .invokespecial 3, 3, 4, 0), (4, .aload_n 0, 1, 5, 0), (5, .bipush 16, 2, 7, 0), (7, .anewarray 9, 3, 10, 0), (10, .putfield 11, 3, 13, 0), (13, .iconst 0, 1, 14, 0), (14, .istore_n 2, 1, 15, 0), (15, .iload_n 2, 1, 16, 0), (16, .bipush 16, 2, 18, 0), (18, .if_icmp .ge 23, 3, 21, 41), (21, .aload_n 0, 1, 22, 0), (22, .getfield 11, 3, 25, 0), (25, .iload_n 2, 1, 26, 0), (26, .new 9, 3, 29, 0), (29, .dup, 1, 30, 0), (30, .aload_n 1, 1, 31, 0), (31, .invokespecial 17, 3, 34, 0), (34, .aastore, 1, 35, 0), (35, .iinc 2 1, 3, 38, 0), (38, .goto (-23), 3, 41, 15), (41, .return_, 1, 42, 0)]
theorem kI_2 : okc cX2_init tI_2 = true := by decide +kernel
theorem ii_2 : Cond.instantiable RX2 3 ∈ lw_gd := gd_in (ti_1 (List.mem_of_getElem? (i := 146) rfl)) rfl
theorem in_2 : Cond.initialized RX2 ∈ lw_gd := gd_in (ti_1 (List.mem_of_getElem? (i := 6) rfl)) rfl
theorem io_2 : inok yX2_init cX2_init 3 1 := ⟨gd_in (ti_1 (List.mem_of_getElem? (i := 149) rfl)) rfl, in_2, gd_in (ti_1 (List.mem_of_getElem? (i := 148) rfl)) rfl, rfl, by decide +kernel⟩
theorem df_2 (i : Nat) : ∀ j, j < 3 → defaultValue (tyX2 j) = dv 10 i j := fun j hj => match j, hj with
  | 0, _ => rfl
  | 1, _ => rfl
  | 2, _ => rfl
  | j + 3, hj => absurd hj (by omega)
theorem il_2_3 : Cond.methodLink RX2 3 Lib.objectInit ∈ lw_gd := gd_in (ti_1 (List.mem_of_getElem? (i := 150) rfl)) rfl
theorem cl_2_9 : Cond.classLink RX2 9 RX9 ∈ lw_gd := gd_in (ti_1 (List.mem_of_getElem? (i := 151) rfl)) rfl
theorem pr_2_11 : fpr RX2 11 2 0 := ⟨_, _, rfl, by decide, gd_in (ti_1 (List.mem_of_getElem? (i := 154) rfl)) rfl, rfl, rfl, tyX2_ok 0 (by decide), fun _ => ⟨rfl, rfl⟩⟩
theorem il_2_17 : Cond.methodLink RX2 17 yX9_init ∈ lw_gd := gd_in (ti_1 (List.mem_of_getElem? (i := 153) rfl)) rfl
def tI_3 : List EN := [(0, .aload_n 0, 1, 1, 0), (1, .invokespecial 3, 3, 4, 0), (4, .aload_n 0, 1, 5, 0), (5, .bipush 16, 2, 7, 0), (7, .newarray .int, 2, 9, 0), (9, .putfield 9, 3, 12, 0), (12, .aload_n 0, 1, 13, 0), (13, .bipush 8, 2, 15, 0), (15, .newarray .int, 2, 17, 0), (17, .putfield 15, 3, 20, 0), (20, .aload_n 0, 1, 21, 0), (21, .bipush 8, 2, 23, 0), (23, .newarray .int, 2, 25, 0), (25, .putfield 18, 3, 28, 0), (28, .aload_n 0, 1, 29, 0), (29, .bipush 36, 2, 31, 0), (31, .newarray .int, 2, 33, 0), (33, .putfield 21, 3, 36, 0), (36, .return_, 1, 37, 0)]
theorem kI_3 : okc cX3_init tI_3 = true := by decide +kernel
theorem ii_3 : Cond.instantiable RX3 6 ∈ lw_gd := gd_in (ti_1 (List.mem_of_getElem? (i := 183) rfl)) rfl
theorem in_3 : Cond.initialized RX3 ∈ lw_gd := gd_in (ti_1 (List.mem_of_getElem? (i := 8) rfl)) rfl
theorem io_3 : inok yX3_init cX3_init 1 0 := ⟨gd_in (ti_1 (List.mem_of_getElem? (i := 186) rfl)) rfl, in_3, gd_in (ti_1 (List.mem_of_getElem? (i := 185) rfl)) rfl, rfl, by decide +kernel⟩
theorem df_3 (i : Nat) : ∀ j, j < 6 → defaultValue (tyX3 j) = dv 17 i j := fun j hj => match j, hj with
  | 0, _ => rfl
  | 1, _ => rfl
  | 2, _ => rfl
  | 3, _ => rfl
  | 4, _ => rfl
  | 5, _ => rfl
  | j + 6, hj => absurd hj (by omega)
theorem il_3_3 : Cond.methodLink RX3 3 Lib.objectInit ∈ lw_gd := gd_in (ti_1 (List.mem_of_getElem? (i := 187) rfl)) rfl
theorem pr_3_9 : fpr RX3 9 3 0 := ⟨_, _, rfl, by decide, gd_in (ti_1 (List.mem_of_getElem? (i := 188) rfl)) rfl, rfl, rfl, tyX3_ok 0 (by decide), fun _ => ⟨rfl, rfl⟩⟩
theorem pr_3_15 : fpr RX3 15 3 1 := ⟨_, _, rfl, by decide, gd_in (ti_1 (List.mem_of_getElem? (i := 189) rfl)) rfl, rfl, rfl, tyX3_ok 1 (by decide), fun _ => ⟨rfl, rfl⟩⟩
theorem pr_3_18 : fpr RX3 18 3 2 := ⟨_, _, rfl, by decide, gd_in (ti_1 (List.mem_of_getElem? (i := 190) rfl)) rfl, rfl, rfl, tyX3_ok 2 (by decide), fun _ => ⟨rfl, rfl⟩⟩
theorem pr_3_21 : fpr RX3 21 3 3 := ⟨_, _, rfl, by decide, gd_in (ti_1 (List.mem_of_getElem? (i := 191) rfl)) rfl, rfl, rfl, tyX3_ok 3 (by decide), fun _ => ⟨rfl, rfl⟩⟩
def tI_4 : List EN := [(0, .aload_n 0, 1, 1, 0), (1, .invokespecial 3, 3, 4, 0), (4, .aload_n 0, 1, 5, 0), (5, .bipush 26, 2, 7, 0), (7, .newarray .int, 2, 9, 0), (9, .putfield 9, 3, 12, 0), (12, .return_, 1, 13, 0)]
theorem kI_4 : okc cX4_init tI_4 = true := by decide +kernel
theorem ii_4 : Cond.instantiable RX4 3 ∈ lw_gd := gd_in (ti_1 (List.mem_of_getElem? (i := 26) rfl)) rfl
theorem in_4 : Cond.initialized RX4 ∈ lw_gd := gd_in (ti_1 (List.mem_of_getElem? (i := 2) rfl)) rfl
theorem io_4 : inok yX4_init cX4_init 1 0 := ⟨gd_in (ti_1 (List.mem_of_getElem? (i := 29) rfl)) rfl, in_4, gd_in (ti_1 (List.mem_of_getElem? (i := 28) rfl)) rfl, rfl, by decide +kernel⟩
theorem df_4 (i : Nat) : ∀ j, j < 3 → defaultValue (tyX4 j) = dv 1 i j := fun j hj => match j, hj with
  | 0, _ => rfl
  | 1, _ => rfl
  | 2, _ => rfl
  | j + 3, hj => absurd hj (by omega)
theorem il_4_3 : Cond.methodLink RX4 3 Lib.objectInit ∈ lw_gd := gd_in (ti_1 (List.mem_of_getElem? (i := 30) rfl)) rfl
theorem pr_4_9 : fpr RX4 9 4 0 := ⟨_, _, rfl, by decide, gd_in (ti_1 (List.mem_of_getElem? (i := 31) rfl)) rfl, rfl, rfl, tyX4_ok 0 (by decide), fun _ => ⟨rfl, rfl⟩⟩
def tI_5 : List EN := [(0, .aload_n 0, 1, 1, 0), (1, .invokespecial 3, 3, 4, 0), (4, .aload_n 0, 1, 5, 0), (5, .sipush 240, 3, 8, 0), (8, .newarray .int, 2, 10, 0), (10, .putfield 9, 3, 13, 0), (13, .aload_n 0, 1, 14, 0), (14, .aload_n 1, 1, 15, 0), (15, .putfield 15, 3, 18, 0), (18, .aload_n 0, 1, 19, 0), (19, .new 19, 3, 22, 0), (22, .dup, 1, 23, 0), (23, .invokespecial 21, 3, 26, 0), (26, .putfield 22, 3, 29, 0), (29, .aload_n 0, 1, 30, 0), (30, .bipush 16, 2, 32, 0), (32, .newarray .int, 2, 34, 0), (34, .putfield 26, 3, 37, 0), (37, .aload_n 0, 1, 38, 0), (38, .iconst (-1), 1, 39, 0), (39, .putfield 29, 3, 42, 0), (42, .return_, 1, 43, 0)]
theorem kI_5 : okc cX5_init tI_5 = true := by decide +kernel
theorem ii_5 : Cond.instantiable RX5 12 ∈ lw_gd := gd_in (ti_1 (List.mem_of_getElem? (i := 44) rfl)) rfl
theorem in_5 : Cond.initialized RX5 ∈ lw_gd := gd_in (ti_1 (List.mem_of_getElem? (i := 3) rfl)) rfl
theorem io_5 : inok yX5_init cX5_init 2 1 := ⟨gd_in (ti_1 (List.mem_of_getElem? (i := 100) rfl)) rfl, in_5, gd_in (ti_1 (List.mem_of_getElem? (i := 99) rfl)) rfl, rfl, by decide +kernel⟩
theorem df_5 (i : Nat) : ∀ j, j < 12 → defaultValue (tyX5 j) = dv 7 i j := fun j hj => match j, hj with
  | 0, _ => rfl
  | 1, _ => rfl
  | 2, _ => rfl
  | 3, _ => rfl
  | 4, _ => rfl
  | 5, _ => rfl
  | 6, _ => rfl
  | 7, _ => rfl
  | 8, _ => rfl
  | 9, _ => rfl
  | 10, _ => rfl
  | 11, _ => rfl
  | j + 12, hj => absurd hj (by omega)
theorem il_5_3 : Cond.methodLink RX5 3 Lib.objectInit ∈ lw_gd := gd_in (ti_1 (List.mem_of_getElem? (i := 101) rfl)) rfl
theorem pr_5_9 : fpr RX5 9 5 0 := ⟨_, _, rfl, by decide, gd_in (ti_1 (List.mem_of_getElem? (i := 104) rfl)) rfl, rfl, rfl, tyX5_ok 0 (by decide), fun _ => ⟨rfl, rfl⟩⟩
theorem pr_5_15 : fpr RX5 15 5 1 := ⟨_, _, rfl, by decide, gd_in (ti_1 (List.mem_of_getElem? (i := 105) rfl)) rfl, rfl, rfl, tyX5_ok 1 (by decide), fun _ => ⟨rfl, rfl⟩⟩
theorem cl_5_19 : Cond.classLink RX5 19 RX4 ∈ lw_gd := gd_in (ti_1 (List.mem_of_getElem? (i := 102) rfl)) rfl
theorem il_5_21 : Cond.methodLink RX5 21 yX4_init ∈ lw_gd := gd_in (ti_1 (List.mem_of_getElem? (i := 103) rfl)) rfl
theorem pr_5_22 : fpr RX5 22 5 2 := ⟨_, _, rfl, by decide, gd_in (ti_1 (List.mem_of_getElem? (i := 107) rfl)) rfl, rfl, rfl, tyX5_ok 2 (by decide), fun _ => ⟨rfl, rfl⟩⟩
theorem pr_5_26 : fpr RX5 26 5 3 := ⟨_, _, rfl, by decide, gd_in (ti_1 (List.mem_of_getElem? (i := 108) rfl)) rfl, rfl, rfl, tyX5_ok 3 (by decide), fun _ => ⟨rfl, rfl⟩⟩
theorem pi_5_29 : fp RX5 29 5 10 .int := ⟨_, rfl, by decide, gd_in (ti_1 (List.mem_of_getElem? (i := 116) rfl)) rfl, rfl, by decide +kernel⟩
def tI_6 : List EN := [(0, .aload_n 0, 1, 1, 0), (1, .invokespecial 3, 3, 4, 0), (4, .aload_n 0, 1, 5, 0), (5, .aload_n 1, 1, 6, 0), (6, .putfield 9, 3, 9, 0), (9, .aload_n 0, 1, 10, 0), (10, .bipush 16, 2, 12, 0), (12, .newarray .int, 2, 14, 0), (14, .putfield 15, 3, 17, 0), (17, .return_, 1, 18, 0)]
theorem kI_6 : okc cX6_init tI_6 = true := by decide +kernel
theorem ii_6 : Cond.instantiable RX6 4 ∈ lw_gd := gd_in (ti_1 (List.mem_of_getElem? (i := 53) rfl)) rfl
theorem in_6 : Cond.initialized RX6 ∈ lw_gd := gd_in (ti_1 (List.mem_of_getElem? (i := 5) rfl)) rfl
theorem io_6 : inok yX6_init cX6_init 2 1 := ⟨gd_in (ti_1 (List.mem_of_getElem? (i := 56) rfl)) rfl, in_6, gd_in (ti_1 (List.mem_of_getElem? (i := 55) rfl)) rfl, rfl, by decide +kernel⟩
theorem df_6 (i : Nat) : ∀ j, j < 4 → defaultValue (tyX6 j) = dv 5 i j := fun j hj => match j, hj with
  | 0, _ => rfl
  | 1, _ => rfl
  | 2, _ => rfl
  | 3, _ => rfl
  | j + 4, hj => absurd hj (by omega)
theorem il_6_3 : Cond.methodLink RX6 3 Lib.objectInit ∈ lw_gd := gd_in (ti_1 (List.mem_of_getElem? (i := 57) rfl)) rfl
theorem pr_6_9 : fpr RX6 9 6 0 := ⟨_, _, rfl, by decide, gd_in (ti_1 (List.mem_of_getElem? (i := 58) rfl)) rfl, rfl, rfl, tyX6_ok 0 (by decide), fun _ => ⟨rfl, rfl⟩⟩
theorem pr_6_15 : fpr RX6 15 6 1 := ⟨_, _, rfl, by decide, gd_in (ti_1 (List.mem_of_getElem? (i := 59) rfl)) rfl, rfl, rfl, tyX6_ok 1 (by decide), fun _ => ⟨rfl, rfl⟩⟩
def tI_7 : List EN := [(0, .aload_n 0, 1, 1, 0), (1, .invokespecial 3, 3, 4, 0), (4, .aload_n 0, 1, 5, 0), (5, .aload_n 1, 1, 6, 0), (6, .putfield 9, 3, 9, 0), (9, .aload_n 0, 1, 10, 0), (10, .bipush 16, 2, 12, 0), (12, .newarray .int, 2, 14, 0), (14, .putfield 15, 3, 17, 0), (17, .aload_n 0, 1, 18, 0), (18, .bipush 16, 2, 20, 0), (20, .newarray .int, 2, 22, 0), (22, .putfield 19, 3, 25, 0), (25, .return_, 1, 26, 0)]
theorem kI_7 : okc cX7_init tI_7 = true := by decide +kernel
theorem ii_7 : Cond.instantiable RX7 3 ∈ lw_gd := gd_in (ti_2 (List.mem_of_getElem? (i := 26) rfl)) rfl
theorem in_7 : Cond.initialized RX7 ∈ lw_gd := gd_in (ti_1 (List.mem_of_getElem? (i := 11) rfl)) rfl
theorem io_7 : inok yX7_init cX7_init 2 1 := ⟨gd_in (ti_2 (List.mem_of_getElem? (i := 29) rfl)) rfl, in_7, gd_in (ti_2 (List.mem_of_getElem? (i := 28) rfl)) rfl, rfl, by decide +kernel⟩
theorem df_7 (i : Nat) : ∀ j, j < 3 → defaultValue (tyX7 j) = dv 31 i j := fun j hj => match j, hj with
  | 0, _ => rfl
  | 1, _ => rfl
  | 2, _ => rfl
  | j + 3, hj => absurd hj (by omega)
theorem il_7_3 : Cond.methodLink RX7 3 Lib.objectInit ∈ lw_gd := gd_in (ti_2 (List.mem_of_getElem? (i := 30) rfl)) rfl
theorem pr_7_9 : fpr RX7 9 7 0 := ⟨_, _, rfl, by decide, gd_in (ti_2 (List.mem_of_getElem? (i := 31) rfl)) rfl, rfl, rfl, tyX7_ok 0 (by decide), fun _ => ⟨rfl, rfl⟩⟩
theorem pr_7_15 : fpr RX7 15 7 1 := ⟨_, _, rfl, by decide, gd_in (ti_2 (List.mem_of_getElem? (i := 32) rfl)) rfl, rfl, rfl, tyX7_ok 1 (by decide), fun _ => ⟨rfl, rfl⟩⟩
theorem pr_7_19 : fpr RX7 19 7 2 := ⟨_, _, rfl, by decide, gd_in (ti_2 (List.mem_of_getElem? (i := 33) rfl)) rfl, rfl, rfl, tyX7_ok 2 (by decide), fun _ => ⟨rfl, rfl⟩⟩
def tI_8 : List EN := [(0, .aload_n 0, 1, 1, 0), (1, .invokespecial 3, 3, 4, 0), (4, .aload_n 0, 1, 5, 0), (5, .sipush 256, 3, 8, 0), (8, .newarray .int, 2, 10, 0), (10, .putfield 9, 3, 13, 0), (13, .aload_n 0, 1, 14, 0), (14, .sipush 256, 3, 17, 0), (17, .newarray .int, 2, 19, 0), (19, .putfield 15, 3, 22, 0), (22, .return_, 1, 23, 0)]
theorem kI_8 : okc cX8_init tI_8 = true := by decide +kernel
theorem ii_8 : Cond.instantiable RX8 6 ∈ lw_gd := gd_in (ti_1 (List.mem_of_getElem? (i := 210) rfl)) rfl
theorem in_8 : Cond.initialized RX8 ∈ lw_gd := gd_in (ti_1 (List.mem_of_getElem? (i := 9) rfl)) rfl
theorem io_8 : inok yX8_init cX8_init 1 0 := ⟨gd_in (ti_1 (List.mem_of_getElem? (i := 213) rfl)) rfl, in_8, gd_in (ti_1 (List.mem_of_getElem? (i := 212) rfl)) rfl, rfl, by decide +kernel⟩
theorem df_8 (i : Nat) : ∀ j, j < 6 → defaultValue (tyX8 j) = dv 22 i j := fun j hj => match j, hj with
  | 0, _ => rfl
  | 1, _ => rfl
  | 2, _ => rfl
  | 3, _ => rfl
  | 4, _ => rfl
  | 5, _ => rfl
  | j + 6, hj => absurd hj (by omega)
theorem il_8_3 : Cond.methodLink RX8 3 Lib.objectInit ∈ lw_gd := gd_in (ti_1 (List.mem_of_getElem? (i := 214) rfl)) rfl
theorem pr_8_9 : fpr RX8 9 8 0 := ⟨_, _, rfl, by decide, gd_in (ti_1 (List.mem_of_getElem? (i := 215) rfl)) rfl, rfl, rfl, tyX8_ok 0 (by decide), fun _ => ⟨rfl, rfl⟩⟩
theorem pr_8_15 : fpr RX8 15 8 1 := ⟨_, _, rfl, by decide, gd_in (ti_1 (List.mem_of_getElem? (i := 216) rfl)) rfl, rfl, rfl, tyX8_ok 1 (by decide), fun _ => ⟨rfl, rfl⟩⟩
def tI_9 : List EN := [(0, .aload_n 0, 1, 1, 0), (1, .invokespecial 3, 3, 4, 0), (4, .aload_n 0, 1, 5, 0), (5, .iconst 5, 1, 6, 0), (6, .anewarray 9, 3, 9, 0), (9, .putfield 11, 3, 12, 0), (12, .iconst 0, 1, 13, 0), (13, .istore_n 2, 1, 14, 0), (14, .iload_n 2, 1, 15, 0), (15, .iconst 5, 1, 16, 0), (16, .if_icmp .ge 23, 3, 19, 39), (19, .aload_n 0, 1, 20, 0), (20, .getfield 11, 3, 23, 0), (23, .iload_n 2, 1, 24, 0), (24, .new 9, 3, 27, 0), (27, .dup, 1, 28, 0), (28, .aload_n 1, 1, 29, 0), (29, .invokespecial 17, 3, 32, 0), (32, .aastore, 1, 33, 0), (33, .iinc 2 1, 3, 36, 0), (36, .goto (-22), 3, 39, 14), (39, .return_, 1, 40, 0)]
theorem kI_9 : okc cX9_init tI_9 = true := by decide +kernel
theorem ii_9 : Cond.instantiable RX9 3 ∈ lw_gd := gd_in (ti_1 (List.mem_of_getElem? (i := 46) rfl)) rfl
theorem in_9 : Cond.initialized RX9 ∈ lw_gd := gd_in (ti_1 (List.mem_of_getElem? (i := 4) rfl)) rfl
theorem io_9 : inok yX9_init cX9_init 3 1 := ⟨gd_in (ti_1 (List.mem_of_getElem? (i := 49) rfl)) rfl, in_9, gd_in (ti_1 (List.mem_of_getElem? (i := 48) rfl)) rfl, rfl, by decide +kernel⟩
theorem df_9 (i : Nat) : ∀ j, j < 3 → defaultValue (tyX9 j) = dv 3 i j := fun j hj => match j, hj with
  | 0, _ => rfl
  | 1, _ => rfl
  | 2, _ => rfl
  | j + 3, hj => absurd hj (by omega)
theorem il_9_3 : Cond.methodLink RX9 3 Lib.objectInit ∈ lw_gd := gd_in (ti_1 (List.mem_of_getElem? (i := 50) rfl)) rfl
theorem cl_9_9 : Cond.classLink RX9 9 RX6 ∈ lw_gd := gd_in (ti_1 (List.mem_of_getElem? (i := 51) rfl)) rfl
theorem pr_9_11 : fpr RX9 11 9 0 := ⟨_, _, rfl, by decide, gd_in (ti_1 (List.mem_of_getElem? (i := 84) rfl)) rfl, rfl, rfl, tyX9_ok 0 (by decide), fun _ => ⟨rfl, rfl⟩⟩
theorem il_9_17 : Cond.methodLink RX9 17 yX6_init ∈ lw_gd := gd_in (ti_1 (List.mem_of_getElem? (i := 54) rfl)) rfl
def tI_10 : List EN := [(0, .aload_n 0, 1, 1, 0), (1, .invokespecial 1, 3, 4, 0), (4, .new 7, 3, 7, 0), (7, .dup, 1, 8, 0), (8, .invokespecial 9, 3, 11, 0), (11, .astore_n 1, 1, 12, 0), (12, .aload_n 0, 1, 13, 0), (13, .new 10, 3, 16, 0), (16, .dup, 1, 17, 0), (17, .new 12, 3, 20, 0), (20, .dup, 1, 21, 0), (21, .aload_n 1, 1, 22, 0), (22, .invokespecial 14, 3, 25, 0), (25, .invokespecial 17, 3, 28, 0), (28, .putfield 20, 3, 31, 0), (31, .aload_n 0, 1, 32, 0), (32, .new 12, 3, 35, 0), (35, .dup, 1, 36, 0), (36, .aload_n 1, 1, 37, 0), (37, .invokespecial 14, 3, 40, 0), (40, .putfield 26, 3, 43, 0), (43, .aload_n 0, 1, 44, 0), (44, .new 30, 3, 47, 0), (47, .dup, 1, 48, 0), (48, .aload_n 1, 1, 49, 0), (49, .invokespecial 32, 3, 52, 0), (52, .putfield 33, 3, 55, 0), (55, .aload_n 0, 1, 56, 0), (56, .iconst 2, 1, 57, 0), (57, .anewarray 12, 3, 60, 0), (60, .putfield 37, 3, 63, 0), (63, .iconst 0, 1, 64, 0), (64, .istore_n 2, 1, 65, 0), (65, .iload_n 2, 1, 66, 0), (66, .iconst 2, 1, 67, 0), (67, .if_icmp .ge 23, 3, 70, 90), (70, .aload_n 0, 1, 71, 0), (71, .getfield 37, 3, 74, 0), (74, .iload_n 2, 1, 75, 0), (75, .new 12, 3, 78, 0), (78, .dup, 1, 79, 0), (79, .aload_n 1, 1, 80, 0), (80, .invokespecial 14, 3, 83, 0), (83, .aastore, 1, 84, 0), (84, .iinc 2 1, 3, 87, 0), (87, .goto (-22), 3, 90, 65), (90, .aload_n 0, 1, 91, 0), (91, .iconst 2, 1, 92, 0), (92, .newarray .int, 2, 94, 0), (94, .putfield 41, 3, 97, 0), (97, .aload_n 0, 1, 98, 0), (98, .new 45, 3, 101, 0), (101, .dup, 1, 102, 0), (102, .invokespecial 47, 3, 105, 0), (105, .putfield 48, 3, 108, 0), (108, .aload_n 0, 1, 109, 0), (109, .new 52, 3, 112, 0), (112, .dup, 1, 113, 0), (113, .invokespecial 54, 3, 116, 0), (116, .putfield 55, 3, 119, 0), (119, .aload_n 0, 1, 120, 0), (120, .new 59, 3, 123, 0), (123, .dup, 1, 124, 0), (124, .invokespecial 61, 3, 127, 0), (127, .putfield 62, 3, 130, 0), (130, .aload_n 0, 1, 131, 0), (131, .new 66, 3, 134, 0), (134, .dup, 1, 135, 0), (135, .invokespecial 68, 3, 138, 0), (138, .putfield 69, 3, 141, 0), (141, .aload_n 0, 1, 142, 0), (142, .new 73, 3, 145, 0), (145, .dup, 1, 146, 0), (146, .aload_n 1, 1, 147, 0), (147, .invokespecial 75, 3, 150, 0), (150, .putfield 76, 3, 153, 0), (153, .aload_n 0, 1, 154, 0), (154, .iconst (-1), 1, 155, 0), (155, .putfield 80, 3, 158, 0), (158, .return_, 1, 159, 0)]
theorem kI_10 : okc cX10_init tI_10 = true := by decide +kernel
theorem ii_10 : Cond.instantiable RX10 14 ∈ lw_gd := gd_in (ti_1 (List.mem_of_getElem? (i := 18) rfl)) rfl
theorem in_10 : Cond.initialized RX10 ∈ lw_gd := gd_in (ti_1 (List.mem_of_getElem? (i := 1) rfl)) rfl
theorem io_10 : inok yX10_init cX10_init 3 0 := ⟨gd_in (ti_1 (List.mem_of_getElem? (i := 21) rfl)) rfl, in_10, gd_in (ti_1 (List.mem_of_getElem? (i := 20) rfl)) rfl, rfl, by decide +kernel⟩
theorem df_10 (i : Nat) : ∀ j, j < 14 → defaultValue (tyX10 j) = dv 0 i j := fun j hj => match j, hj with
  | 0, _ => rfl
  | 1, _ => rfl
  | 2, _ => rfl
  | 3, _ => rfl
  | 4, _ => rfl
  | 5, _ => rfl
  | 6, _ => rfl
  | 7, _ => rfl
  | 8, _ => rfl
  | 9, _ => rfl
  | 10, _ => rfl
  | 11, _ => rfl
  | 12, _ => rfl
  | 13, _ => rfl
  | j + 14, hj => absurd hj (by omega)
theorem il_10_1 : Cond.methodLink RX10 1 Lib.objectInit ∈ lw_gd := gd_in (ti_1 (List.mem_of_getElem? (i := 22) rfl)) rfl
theorem cl_10_7 : Cond.classLink RX10 7 RX4 ∈ lw_gd := gd_in (ti_1 (List.mem_of_getElem? (i := 25) rfl)) rfl
theorem il_10_9 : Cond.methodLink RX10 9 yX4_init ∈ lw_gd := gd_in (ti_1 (List.mem_of_getElem? (i := 27) rfl)) rfl
theorem cl_10_10 : Cond.classLink RX10 10 RX5 ∈ lw_gd := gd_in (ti_1 (List.mem_of_getElem? (i := 43) rfl)) rfl
theorem cl_10_12 : Cond.classLink RX10 12 RX9 ∈ lw_gd := gd_in (ti_1 (List.mem_of_getElem? (i := 45) rfl)) rfl
theorem il_10_14 : Cond.methodLink RX10 14 yX9_init ∈ lw_gd := gd_in (ti_1 (List.mem_of_getElem? (i := 47) rfl)) rfl
theorem il_10_17 : Cond.methodLink RX10 17 yX5_init ∈ lw_gd := gd_in (ti_1 (List.mem_of_getElem? (i := 98) rfl)) rfl
theorem pr_10_20 : fpr RX10 20 10 0 := ⟨_, _, rfl, by decide, gd_in (ti_2 (List.mem_of_getElem? (i := 41) rfl)) rfl, rfl, rfl, tyX10_ok 0 (by decide), fun _ => ⟨rfl, rfl⟩⟩
theorem pr_10_26 : fpr RX10 26 10 1 := ⟨_, _, rfl, by decide, gd_in (ti_2 (List.mem_of_getElem? (i := 42) rfl)) rfl, rfl, rfl, tyX10_ok 1 (by decide), fun _ => ⟨rfl, rfl⟩⟩
theorem cl_10_30 : Cond.classLink RX10 30 RX2 ∈ lw_gd := gd_in (ti_1 (List.mem_of_getElem? (i := 145) rfl)) rfl
theorem il_10_32 : Cond.methodLink RX10 32 yX2_init ∈ lw_gd := gd_in (ti_1 (List.mem_of_getElem? (i := 147) rfl)) rfl
theorem pr_10_33 : fpr RX10 33 10 2 := ⟨_, _, rfl, by decide, gd_in (ti_2 (List.mem_of_getElem? (i := 43) rfl)) rfl, rfl, rfl, tyX10_ok 2 (by decide), fun _ => ⟨rfl, rfl⟩⟩
theorem pr_10_37 : fpr RX10 37 10 3 := ⟨_, _, rfl, by decide, gd_in (ti_2 (List.mem_of_getElem? (i := 44) rfl)) rfl, rfl, rfl, tyX10_ok 3 (by decide), fun _ => ⟨rfl, rfl⟩⟩
theorem pr_10_41 : fpr RX10 41 10 4 := ⟨_, _, rfl, by decide, gd_in (ti_2 (List.mem_of_getElem? (i := 45) rfl)) rfl, rfl, rfl, tyX10_ok 4 (by decide), fun _ => ⟨rfl, rfl⟩⟩
theorem cl_10_45 : Cond.classLink RX10 45 RX0 ∈ lw_gd := gd_in (ti_1 (List.mem_of_getElem? (i := 165) rfl)) rfl
theorem il_10_47 : Cond.methodLink RX10 47 yX0_init ∈ lw_gd := gd_in (ti_1 (List.mem_of_getElem? (i := 167) rfl)) rfl
theorem pr_10_48 : fpr RX10 48 10 5 := ⟨_, _, rfl, by decide, gd_in (ti_2 (List.mem_of_getElem? (i := 46) rfl)) rfl, rfl, rfl, tyX10_ok 5 (by decide), fun _ => ⟨rfl, rfl⟩⟩
theorem cl_10_52 : Cond.classLink RX10 52 RX3 ∈ lw_gd := gd_in (ti_1 (List.mem_of_getElem? (i := 182) rfl)) rfl
theorem il_10_54 : Cond.methodLink RX10 54 yX3_init ∈ lw_gd := gd_in (ti_1 (List.mem_of_getElem? (i := 184) rfl)) rfl
theorem pr_10_55 : fpr RX10 55 10 6 := ⟨_, _, rfl, by decide, gd_in (ti_2 (List.mem_of_getElem? (i := 47) rfl)) rfl, rfl, rfl, tyX10_ok 6 (by decide), fun _ => ⟨rfl, rfl⟩⟩
theorem cl_10_59 : Cond.classLink RX10 59 RX8 ∈ lw_gd := gd_in (ti_1 (List.mem_of_getElem? (i := 209) rfl)) rfl
theorem il_10_61 : Cond.methodLink RX10 61 yX8_init ∈ lw_gd := gd_in (ti_1 (List.mem_of_getElem? (i := 211) rfl)) rfl
theorem pr_10_62 : fpr RX10 62 10 7 := ⟨_, _, rfl, by decide, gd_in (ti_2 (List.mem_of_getElem? (i := 48) rfl)) rfl, rfl, rfl, tyX10_ok 7 (by decide), fun _ => ⟨rfl, rfl⟩⟩
theorem cl_10_66 : Cond.classLink RX10 66 RX1 ∈ lw_gd := gd_in (ti_1 (List.mem_of_getElem? (i := 238) rfl)) rfl
theorem il_10_68 : Cond.methodLink RX10 68 yX1_init ∈ lw_gd := gd_in (ti_2 (List.mem_of_getElem? (i := 0) rfl)) rfl
theorem pr_10_69 : fpr RX10 69 10 8 := ⟨_, _, rfl, by decide, gd_in (ti_2 (List.mem_of_getElem? (i := 49) rfl)) rfl, rfl, rfl, tyX10_ok 8 (by decide), fun _ => ⟨rfl, rfl⟩⟩
theorem cl_10_73 : Cond.classLink RX10 73 RX7 ∈ lw_gd := gd_in (ti_2 (List.mem_of_getElem? (i := 25) rfl)) rfl
theorem il_10_75 : Cond.methodLink RX10 75 yX7_init ∈ lw_gd := gd_in (ti_2 (List.mem_of_getElem? (i := 27) rfl)) rfl
theorem pr_10_76 : fpr RX10 76 10 9 := ⟨_, _, rfl, by decide, gd_in (ti_2 (List.mem_of_getElem? (i := 50) rfl)) rfl, rfl, rfl, tyX10_ok 9 (by decide), fun _ => ⟨rfl, rfl⟩⟩
theorem pi_10_80 : fp RX10 80 10 12 .int := ⟨_, rfl, by decide, gd_in (ti_2 (List.mem_of_getElem? (i := 53) rfl)) rfl, rfl, by decide +kernel⟩
def tI_11 : List EN := [(0, .aload_n 0, 1, 1, 0), (1, .invokespecial 1, 3, 4, 0), (4, .aload_n 0, 1, 5, 0), (5, .sipush 1748, 3, 8, 0), (8, .newarray .int, 2, 10, 0), (10, .putfield 7, 3, 13, 0), (13, .aload_n 0, 1, 14, 0), (14, .iconst 2, 1, 15, 0), (15, .newarray .int, 2, 17, 0), (17, .putfield 13, 3, 20, 0), (20, .aload_n 0, 1, 21, 0), (21, .iconst 2, 1, 22, 0), (22, .newarray .int, 2, 24, 0), (24, .putfield 16, 3, 27, 0), (27, .aload_n 0, 1, 28, 0), (28, .sipush 240, 3, 31, 0), (31, .newarray .byte, 2, 33, 0), (33, .putfield 19, 3, 36, 0), (36, .aload_n 0, 1, 37, 0), (37, .iconst (-1), 1, 38, 0), (38, .putfield 23, 3, 41, 0), (41, .aload_n 0, 1, 42, 0), (42, .iconst 5, 1, 43, 0), (43, .newarray .int, 2, 45, 0), (45, .putfield 27, 3, 48, 0), (48, .aload_n 0, 1, 49, 0), (49, .bipush 80, 2, 51, 0), (51, .newarray .int, 2, 53, 0), (53, .putfield 30, 3, 56, 0), (56, .aload_n 0, 1, 57, 0), (57, .bipush 26, 2, 59, 0), (59, .newarray .int, 2, 61, 0), (61, .putfield 33, 3, 64, 0), (64, .aload_n 0, 1, 65, 0), (65, .bipush 15, 2, 67, 0), (67, .newarray .int, 2, 69, 0), (69, .putfield 36, 3, 72, 0), (72, .aload_n 0, 1, 73, 0), (73, .bipush 15, 2, 75, 0), (75, .newarray .int, 2, 77, 0), (77, .putfield 39, 3, 80, 0), (80, .aload_n 0, 1, 81, 0), (81, .bipush 16, 2, 83, 0), (83, .newarray .int, 2, 85, 0), (85, .putfield 42, 3, 88, 0), (88, .aload_n 0, 1, 89, 0), (89, .bipush 16, 2, 91, 0), (91, .newarray .int, 2, 93, 0), (93, .putfield 45, 3, 96, 0), (96, .aload_n 0, 1, 97, 0), (97, .bipush 16, 2, 99, 0), (99, .newarray .int, 2, 101, 0), (101, .putfield 48, 3, 104, 0), (104, .aload_n 0, 1, 105, 0), (105, .bipush 16, 2, 107, 0), (107, .newarray .int, 2, 109, 0), (109, .putfield 51, 3, 112, 0), (112, .aload_n 0, 1, 113, 0), (113, .sipush 256, 3, 116, 0), (116, .newarray .int, 2, 118, 0), (118, .putfield 54, 3, 121, 0), (121, .aload_n 0, 1, 122, 0), (122, .sipush 256, 3, 125, 0), (125, .newarray .int, 2, 127, 0), (127, .putfield 57, 3, 130, 0), (130, .aload_n 0, 1, 131, 0), (131, .bipush 8, 2, 133, 0), (133, .newarray .int, 2, 135, 0), (135, .putfield 60, 3, 138, 0), (138, .aload_n 0, 1, 139, 0), (139, .bipush 8, 2, 141, 0), (141, .newarray .int, 2, 143, 0), (143, .putfield 63, 3, 146, 0), (146, .aload_n 0, 1, 147, 0), (147, .bipush 64, 2, 149, 0), (149, .newarray .int, 2, 151, 0), (151, .putfield 66, 3, 154, 0), (154, .aload_n 0, 1, 155, 0), (155, .bipush 8, 2, 157, 0), (157, .newarray .int, 2, 159, 0), (159, .putfield 69, 3, 162, 0), (162, .aload_n 0, 1, 163, 0), (163, .bipush 8, 2, 165, 0), (165, .newarray .int, 2, 167, 0), (167, .putfield 72, 3, 170, 0), (170, .aload_n 0, 1, 171, 0), (171, .bipush 8, 2, 173, 0), (173, .newarray .int, 2, 175, 0), (175, .putfield 75, 3, 178, 0), (178, .aload_n 0, 1, 179, 0), (179, .iconst 0, 1, 180, 0), (180, .putfield 78, 3, 183, 0), (183, .return_, 1, 184, 0)]
theorem kI_11 : okc cX11_init tI_11 = true := by decide +kernel
theorem ii_11 : Cond.instantiable RX11 35 ∈ lw_gd := gd_in (ti_4 (List.mem_of_getElem? (i := 107) rfl)) rfl
theorem in_11 : Cond.initialized RX11 ∈ lw_gd := gd_in (ti_1 (List.mem_of_getElem? (i := 12) rfl)) rfl
theorem io_11 : inok yX11_init cX11_init 1 0 := ⟨gd_in (ti_4 (List.mem_of_getElem? (i := 110) rfl)) rfl, in_11, gd_in (ti_4 (List.mem_of_getElem? (i := 109) rfl)) rfl, rfl, by decide +kernel⟩
theorem df_11 (i : Nat) : ∀ j, j < 35 → defaultValue (tyX11 j) = dv 40 i j := fun j hj => match j, hj with
  | 0, _ => rfl
  | 1, _ => rfl
  | 2, _ => rfl
  | 3, _ => rfl
  | 4, _ => rfl
  | 5, _ => rfl
  | 6, _ => rfl
  | 7, _ => rfl
  | 8, _ => rfl
  | 9, _ => rfl
  | 10, _ => rfl
  | 11, _ => rfl
  | 12, _ => rfl
  | 13, _ => rfl
  | 14, _ => rfl
  | 15, _ => rfl
  | 16, _ => rfl
  | 17, _ => rfl
  | 18, _ => rfl
  | 19, _ => rfl
  | 20, _ => rfl
  | 21, _ => rfl
  | 22, _ => rfl
  | 23, _ => rfl
  | 24, _ => rfl
  | 25, _ => rfl
  | 26, _ => rfl
  | 27, _ => rfl
  | 28, _ => rfl
  | 29, _ => rfl
  | 30, _ => rfl
  | 31, _ => rfl
  | 32, _ => rfl
  | 33, _ => rfl
  | 34, _ => rfl
  | j + 35, hj => absurd hj (by omega)
theorem il_11_1 : Cond.methodLink RX11 1 Lib.objectInit ∈ lw_gd := gd_in (ti_4 (List.mem_of_getElem? (i := 111) rfl)) rfl
theorem pr_11_7 : fpr RX11 7 11 0 := ⟨_, _, rfl, by decide, gd_in (ti_4 (List.mem_of_getElem? (i := 112) rfl)) rfl, rfl, rfl, tyX11_ok 0 (by decide), fun _ => ⟨rfl, rfl⟩⟩
theorem pr_11_13 : fpr RX11 13 11 4 := ⟨_, _, rfl, by decide, gd_in (ti_4 (List.mem_of_getElem? (i := 116) rfl)) rfl, rfl, rfl, tyX11_ok 4 (by decide), fun _ => ⟨rfl, rfl⟩⟩
theorem pr_11_16 : fpr RX11 16 11 5 := ⟨_, _, rfl, by decide, gd_in (ti_4 (List.mem_of_getElem? (i := 117) rfl)) rfl, rfl, rfl, tyX11_ok 5 (by decide), fun _ => ⟨rfl, rfl⟩⟩
theorem pr_11_19 : fpr RX11 19 11 7 := ⟨_, _, rfl, by decide, gd_in (ti_4 (List.mem_of_getElem? (i := 119) rfl)) rfl, rfl, rfl, tyX11_ok 7 (by decide), fun _ => ⟨rfl, rfl⟩⟩
theorem pi_11_23 : fp RX11 23 11 11 .int := ⟨_, rfl, by decide, gd_in (ti_4 (List.mem_of_getElem? (i := 123) rfl)) rfl, rfl, by decide +kernel⟩
theorem pr_11_27 : fpr RX11 27 11 14 := ⟨_, _, rfl, by decide, gd_in (ti_4 (List.mem_of_getElem? (i := 126) rfl)) rfl, rfl, rfl, tyX11_ok 14 (by decide), fun _ => ⟨rfl, rfl⟩⟩
theorem pr_11_30 : fpr RX11 30 11 15 := ⟨_, _, rfl, by decide, gd_in (ti_4 (List.mem_of_getElem? (i := 127) rfl)) rfl, rfl, rfl, tyX11_ok 15 (by decide), fun _ => ⟨rfl, rfl⟩⟩
theorem pr_11_33 : fpr RX11 33 11 16 := ⟨_, _, rfl, by decide, gd_in (ti_4 (List.mem_of_getElem? (i := 128) rfl)) rfl, rfl, rfl, tyX11_ok 16 (by decide), fun _ => ⟨rfl, rfl⟩⟩
theorem pr_11_36 : fpr RX11 36 11 18 := ⟨_, _, rfl, by decide, gd_in (ti_4 (List.mem_of_getElem? (i := 130) rfl)) rfl, rfl, rfl, tyX11_ok 18 (by decide), fun _ => ⟨rfl, rfl⟩⟩
theorem pr_11_39 : fpr RX11 39 11 19 := ⟨_, _, rfl, by decide, gd_in (ti_4 (List.mem_of_getElem? (i := 131) rfl)) rfl, rfl, rfl, tyX11_ok 19 (by decide), fun _ => ⟨rfl, rfl⟩⟩
theorem pr_11_42 : fpr RX11 42 11 21 := ⟨_, _, rfl, by decide, gd_in (ti_4 (List.mem_of_getElem? (i := 133) rfl)) rfl, rfl, rfl, tyX11_ok 21 (by decide), fun _ => ⟨rfl, rfl⟩⟩
theorem pr_11_45 : fpr RX11 45 11 22 := ⟨_, _, rfl, by decide, gd_in (ti_4 (List.mem_of_getElem? (i := 134) rfl)) rfl, rfl, rfl, tyX11_ok 22 (by decide), fun _ => ⟨rfl, rfl⟩⟩
theorem pr_11_48 : fpr RX11 48 11 23 := ⟨_, _, rfl, by decide, gd_in (ti_4 (List.mem_of_getElem? (i := 135) rfl)) rfl, rfl, rfl, tyX11_ok 23 (by decide), fun _ => ⟨rfl, rfl⟩⟩
theorem pr_11_51 : fpr RX11 51 11 26 := ⟨_, _, rfl, by decide, gd_in (ti_4 (List.mem_of_getElem? (i := 138) rfl)) rfl, rfl, rfl, tyX11_ok 26 (by decide), fun _ => ⟨rfl, rfl⟩⟩
theorem pr_11_54 : fpr RX11 54 11 27 := ⟨_, _, rfl, by decide, gd_in (ti_4 (List.mem_of_getElem? (i := 139) rfl)) rfl, rfl, rfl, tyX11_ok 27 (by decide), fun _ => ⟨rfl, rfl⟩⟩
theorem pr_11_57 : fpr RX11 57 11 28 := ⟨_, _, rfl, by decide, gd_in (ti_4 (List.mem_of_getElem? (i := 140) rfl)) rfl, rfl, rfl, tyX11_ok 28 (by decide), fun _ => ⟨rfl, rfl⟩⟩
theorem pr_11_60 : fpr RX11 60 11 29 := ⟨_, _, rfl, by decide, gd_in (ti_4 (List.mem_of_getElem? (i := 141) rfl)) rfl, rfl, rfl, tyX11_ok 29 (by decide), fun _ => ⟨rfl, rfl⟩⟩
theorem pr_11_63 : fpr RX11 63 11 30 := ⟨_, _, rfl, by decide, gd_in (ti_4 (List.mem_of_getElem? (i := 142) rfl)) rfl, rfl, rfl, tyX11_ok 30 (by decide), fun _ => ⟨rfl, rfl⟩⟩
theorem pr_11_66 : fpr RX11 66 11 31 := ⟨_, _, rfl, by decide, gd_in (ti_4 (List.mem_of_getElem? (i := 143) rfl)) rfl, rfl, rfl, tyX11_ok 31 (by decide), fun _ => ⟨rfl, rfl⟩⟩
theorem pr_11_69 : fpr RX11 69 11 32 := ⟨_, _, rfl, by decide, gd_in (ti_4 (List.mem_of_getElem? (i := 144) rfl)) rfl, rfl, rfl, tyX11_ok 32 (by decide), fun _ => ⟨rfl, rfl⟩⟩
theorem pr_11_72 : fpr RX11 72 11 33 := ⟨_, _, rfl, by decide, gd_in (ti_4 (List.mem_of_getElem? (i := 145) rfl)) rfl, rfl, rfl, tyX11_ok 33 (by decide), fun _ => ⟨rfl, rfl⟩⟩
theorem pr_11_75 : fpr RX11 75 11 34 := ⟨_, _, rfl, by decide, gd_in (ti_4 (List.mem_of_getElem? (i := 146) rfl)) rfl, rfl, rfl, tyX11_ok 34 (by decide), fun _ => ⟨rfl, rfl⟩⟩
theorem pi_11_78 : fp RX11 78 11 3 .int := ⟨_, rfl, by decide, gd_in (ti_4 (List.mem_of_getElem? (i := 115) rfl)) rfl, rfl, by decide +kernel⟩
