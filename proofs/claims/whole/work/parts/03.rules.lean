theorem fb_rng_ (x : Int32) : -2147483648 ≤ x.toInt ∧ x.toInt < 2147483648 := by
  have h1 := Int32.le_toInt x
  have h2 := Int32.toInt_lt x
  omega
theorem fb_rngL_ (x : Int64) : -9223372036854775808 ≤ x.toInt ∧ x.toInt < 9223372036854775808 := by
  have h1 := Int64.le_toInt x
  have h2 := Int64.toInt_lt x
  omega
theorem fb_ofI_ {z : Int} (h1 : -2147483648 ≤ z) (h2 : z < 2147483648) : (Int32.ofInt z).toInt = z := by
  have e : z.bmod (2 ^ 32) = z := by rw [Int.bmod_eq_of_le (by omega) (by omega)]
  rw [Int32.toInt_ofInt]
  exact e
theorem fb_ofL_ {z : Int} (h1 : -9223372036854775808 ≤ z) (h2 : z < 9223372036854775808) : (Int64.ofInt z).toInt = z := by
  have e : z.bmod (2 ^ 64) = z := by rw [Int.bmod_eq_of_le (by omega) (by omega)]
  rw [Int64.toInt_ofInt]
  exact e
/-! numbers -/
def w3 (x : Int) : Int := (Int32.ofInt x).toInt
def w6 (x : Int) : Int := (Int64.ofInt x).toInt
theorem w3_of (x : Int) : Int32.ofInt (w3 x) = Int32.ofInt x := Int32.ofInt_toInt _
theorem w6_of (x : Int) : Int64.ofInt (w6 x) = Int64.ofInt x := Int64.ofInt_toInt _
theorem i3_of (z : Int32) : I3 z.toInt := fb_rng_ z
theorem i6_of (z : Int64) : I6 z.toInt := fb_rngL_ z
theorem i3_w (x : Int) : I3 (w3 x) := i3_of _
theorem i6_w (x : Int) : I6 (w6 x) := i6_of _
theorem to3 {a : Int} (h : I3 a) : (Int32.ofInt a).toInt = a := fb_ofI_ h.1 h.2
theorem to6 {a : Int} (h : I6 a) : (Int64.ofInt a).toInt = a := fb_ofL_ h.1 h.2
def ia (a b : Int) : Int := w3 (a + b)
def ib (a b : Int) : Int := w3 (a - b)
def im (a b : Int) : Int := w3 (a * b)
def iq (a b : Int) : Int := w3 (a.tdiv b)
def ir (a b : Int) : Int := w3 (a.tmod b)
def in_ (a : Int) : Int := w3 (-a)
def iand (a b : Int) : Int := (Int32.ofInt a &&& Int32.ofInt b).toInt
def ior (a b : Int) : Int := (Int32.ofInt a ||| Int32.ofInt b).toInt
def ixor (a b : Int) : Int := (Int32.ofInt a ^^^ Int32.ofInt b).toInt
def ishl (a b : Int) : Int := (Int32.ofInt a <<< (Int32.ofInt b &&& 31)).toInt
def ishr (a b : Int) : Int := (Int32.ofInt a >>> (Int32.ofInt b &&& 31)).toInt
def iushr (a b : Int) : Int := ((Int32.ofInt a).toUInt32 >>> ((Int32.ofInt b).toUInt32 &&& Int32.toUInt32 31)).toInt32.toInt
def la_ (a b : Int) : Int := w6 (a + b)
def lm (a b : Int) : Int := w6 (a * b)
def lq (a b : Int) : Int := w6 (a.tdiv b)
def lr (a b : Int) : Int := w6 (a.tmod b)
def land_ (a b : Int) : Int := (Int64.ofInt a &&& Int64.ofInt b).toInt
def sb (a : Int) : Int := (Int32.ofInt a).toInt8.toInt32.toInt
theorem cv_ia (a b : Int) : Int32.ofInt (ia a b) = Int32.ofInt a + Int32.ofInt b := by rw [ia, w3_of, Int32.ofInt_add]
theorem cv_ib (a b : Int) : Int32.ofInt (ib a b) = Int32.ofInt a - Int32.ofInt b := by rw [ib, w3_of, Int32.ofInt_sub]
theorem cv_im (a b : Int) : Int32.ofInt (im a b) = Int32.ofInt a * Int32.ofInt b := by rw [im, w3_of, Int32.ofInt_mul]
theorem cv_in (a : Int) : Int32.ofInt (in_ a) = -Int32.ofInt a := by rw [in_, w3_of, Int32.ofInt_neg]
theorem cv_iq {a b : Int} (ha : I3 a) (hb : I3 b) : Int32.ofInt (iq a b) = Int32.ofInt a / Int32.ofInt b := by
  rw [iq, w3_of]
  apply Int32.toInt_inj.mp
  rw [Int32.toInt_div, to3 ha, to3 hb, Int32.toInt_ofInt]
theorem cv_ir {a b : Int} (ha : I3 a) (hb : I3 b) : Int32.ofInt (ir a b) = Int32.ofInt a - Int32.ofInt a / Int32.ofInt b * Int32.ofInt b := by
  rw [← cv_iq ha hb, iq, ir, w3_of, w3_of, ← Int32.ofInt_mul, ← Int32.ofInt_sub]
  congr 1
  have := Int.mul_tdiv_add_tmod a b
  rw [Int.mul_comm] at this
  omega
theorem cv_la (a b : Int) : Int64.ofInt (la_ a b) = Int64.ofInt a + Int64.ofInt b := by rw [la_, w6_of, Int64.ofInt_add]
theorem cv_lm (a b : Int) : Int64.ofInt (lm a b) = Int64.ofInt a * Int64.ofInt b := by rw [lm, w6_of, Int64.ofInt_mul]
theorem cv_lq {a b : Int} (ha : I6 a) (hb : I6 b) : Int64.ofInt (lq a b) = Int64.ofInt a / Int64.ofInt b := by
  rw [lq, w6_of]
  apply Int64.toInt_inj.mp
  rw [Int64.toInt_div, to6 ha, to6 hb, Int64.toInt_ofInt]
theorem cv_lr {a b : Int} (ha : I6 a) (hb : I6 b) : Int64.ofInt (lr a b) = Int64.ofInt a - Int64.ofInt a / Int64.ofInt b * Int64.ofInt b := by
  rw [← cv_lq ha hb, lq, lr, w6_of, w6_of, ← Int64.ofInt_mul, ← Int64.ofInt_sub]
  congr 1
  have := Int.mul_tdiv_add_tmod a b
  rw [Int.mul_comm] at this
  omega
theorem cv_iand (a b : Int) : Int32.ofInt (iand a b) = Int32.ofInt a &&& Int32.ofInt b := Int32.ofInt_toInt _
theorem cv_ior (a b : Int) : Int32.ofInt (ior a b) = Int32.ofInt a ||| Int32.ofInt b := Int32.ofInt_toInt _
theorem cv_ixor (a b : Int) : Int32.ofInt (ixor a b) = Int32.ofInt a ^^^ Int32.ofInt b := Int32.ofInt_toInt _
theorem cv_ishl (a b : Int) : Int32.ofInt (ishl a b) = Int32.ofInt a <<< (Int32.ofInt b &&& 31) := Int32.ofInt_toInt _
theorem cv_ishr (a b : Int) : Int32.ofInt (ishr a b) = Int32.ofInt a >>> (Int32.ofInt b &&& 31) := Int32.ofInt_toInt _
theorem cv_iushr (a b : Int) : Int32.ofInt (iushr a b) = ((Int32.ofInt a).toUInt32 >>> ((Int32.ofInt b).toUInt32 &&& Int32.toUInt32 31)).toInt32 := Int32.ofInt_toInt _
theorem cv_land (a b : Int) : Int64.ofInt (land_ a b) = Int64.ofInt a &&& Int64.ofInt b := Int64.ofInt_toInt _
theorem cv_sb (a : Int) : Int32.ofInt (sb a) = (Int32.ofInt a).toInt8.toInt32 := Int32.ofInt_toInt _
theorem c3_lt {a b : Int} (ha : I3 a) (hb : I3 b) : Int32.ofInt a < Int32.ofInt b ↔ a < b := by rw [Int32.lt_iff_toInt_lt, to3 ha, to3 hb]
theorem c3_le {a b : Int} (ha : I3 a) (hb : I3 b) : Int32.ofInt a ≤ Int32.ofInt b ↔ a ≤ b := by rw [Int32.le_iff_toInt_le, to3 ha, to3 hb]
theorem c3_eq {a b : Int} (ha : I3 a) (hb : I3 b) : Int32.ofInt a = Int32.ofInt b ↔ a = b := by rw [← Int32.toInt_inj, to3 ha, to3 hb]
theorem c6_lt {a b : Int} (ha : I6 a) (hb : I6 b) : Int64.ofInt a < Int64.ofInt b ↔ a < b := by rw [Int64.lt_iff_toInt_lt, to6 ha, to6 hb]
theorem c6_eq {a b : Int} (ha : I6 a) (hb : I6 b) : Int64.ofInt a = Int64.ofInt b ↔ a = b := by rw [← Int64.toInt_inj, to6 ha, to6 hb]
theorem c0_3 : I3 0 := by unfold I3; omega
theorem ofI0 : Int32.ofInt 0 = 0 := rfl
theorem clamp3 {a : Int} (h : I3 a) : (Int32.ofInt a).toNatClampNeg = a.toNat := by rw [Int32.toNatClampNeg, to3 h]
theorem in_of {a : Int} {n : Nat} (h : I3 a) (h0 : 0 ≤ a) (h1 : a < n) : vp_in (Int32.ofInt a) n := vp_in_iff.mpr (by rw [to3 h]; exact ⟨h0, h1⟩)
theorem rg_c {st : List AV} {v : AV} (h : ∀ w ∈ v :: st, rg w) : rg v ∧ ∀ w ∈ st, rg w := ⟨h v List.mem_cons_self, fun w hw => h w (List.mem_cons_of_mem _ hw)⟩
theorem rg_k {st : List AV} {v : AV} (hv : rg v) (h : ∀ w ∈ st, rg w) : ∀ w ∈ v :: st, rg w := fun w hw => by
  rcases List.mem_cons.mp hw with rfl | hw
  · exact hv
  · exact h w hw
section AWR
variable {M : MD} {P : Option AV → HH → Prop} {lv : LV} {st : List AV} {h : HH} {k pc np tg : Nat}

theorem a_iadd {a b : Int} (hd : (tb M)[k]? = some (pc, .iadd, 1, np, tg)) (kk : AW M P np lv (vi (ia a b) :: st) h) : AW M P pc lv (vi b :: vi a :: st) h := by
  intro l p e s m args below meth c G A C hl hs hw H locs ls hP hD hS hv
  obtain ⟨d1, rfl, d3, d4⟩ := ok_at C.2.2.2.2.2.2.2.2.1 hd
  obtain ⟨r1, hs⟩ := rg_c hs
  obtain ⟨r2, hs⟩ := rg_c hs
  refine lv_iadd C.1 C.2.1 d1 ?_
  have z := kk l p e s m args below meth c G A C hl (rg_k (i3_of _) hs) hw H locs ls hP hD hS hv
  rw [← cv_ia a b]
  exact z

theorem a_isub {a b : Int} (hd : (tb M)[k]? = some (pc, .isub, 1, np, tg)) (kk : AW M P np lv (vi (ib a b) :: st) h) : AW M P pc lv (vi b :: vi a :: st) h := by
  intro l p e s m args below meth c G A C hl hs hw H locs ls hP hD hS hv
  obtain ⟨d1, rfl, d3, d4⟩ := ok_at C.2.2.2.2.2.2.2.2.1 hd
  obtain ⟨r1, hs⟩ := rg_c hs
  obtain ⟨r2, hs⟩ := rg_c hs
  refine lv_isub C.1 C.2.1 d1 ?_
  have z := kk l p e s m args below meth c G A C hl (rg_k (i3_of _) hs) hw H locs ls hP hD hS hv
  rw [← cv_ib a b]
  exact z

theorem a_imul {a b : Int} (hd : (tb M)[k]? = some (pc, .imul, 1, np, tg)) (kk : AW M P np lv (vi (im a b) :: st) h) : AW M P pc lv (vi b :: vi a :: st) h := by
  intro l p e s m args below meth c G A C hl hs hw H locs ls hP hD hS hv
  obtain ⟨d1, rfl, d3, d4⟩ := ok_at C.2.2.2.2.2.2.2.2.1 hd
  obtain ⟨r1, hs⟩ := rg_c hs
  obtain ⟨r2, hs⟩ := rg_c hs
  refine lv_imul C.1 C.2.1 d1 ?_
  have z := kk l p e s m args below meth c G A C hl (rg_k (i3_of _) hs) hw H locs ls hP hD hS hv
  rw [← cv_im a b]
  exact z

theorem a_iand {a b : Int} (hd : (tb M)[k]? = some (pc, .iand, 1, np, tg)) (kk : AW M P np lv (vi (iand a b) :: st) h) : AW M P pc lv (vi b :: vi a :: st) h := by
  intro l p e s m args below meth c G A C hl hs hw H locs ls hP hD hS hv
  obtain ⟨d1, rfl, d3, d4⟩ := ok_at C.2.2.2.2.2.2.2.2.1 hd
  obtain ⟨r1, hs⟩ := rg_c hs
  obtain ⟨r2, hs⟩ := rg_c hs
  refine lv_iand C.1 C.2.1 d1 ?_
  have z := kk l p e s m args below meth c G A C hl (rg_k (i3_of _) hs) hw H locs ls hP hD hS hv
  rw [← cv_iand a b]
  exact z

theorem a_ior {a b : Int} (hd : (tb M)[k]? = some (pc, .ior, 1, np, tg)) (kk : AW M P np lv (vi (ior a b) :: st) h) : AW M P pc lv (vi b :: vi a :: st) h := by
  intro l p e s m args below meth c G A C hl hs hw H locs ls hP hD hS hv
  obtain ⟨d1, rfl, d3, d4⟩ := ok_at C.2.2.2.2.2.2.2.2.1 hd
  obtain ⟨r1, hs⟩ := rg_c hs
  obtain ⟨r2, hs⟩ := rg_c hs
  refine lv_ior C.1 C.2.1 d1 ?_
  have z := kk l p e s m args below meth c G A C hl (rg_k (i3_of _) hs) hw H locs ls hP hD hS hv
  rw [← cv_ior a b]
  exact z

theorem a_ixor {a b : Int} (hd : (tb M)[k]? = some (pc, .ixor, 1, np, tg)) (kk : AW M P np lv (vi (ixor a b) :: st) h) : AW M P pc lv (vi b :: vi a :: st) h := by
  intro l p e s m args below meth c G A C hl hs hw H locs ls hP hD hS hv
  obtain ⟨d1, rfl, d3, d4⟩ := ok_at C.2.2.2.2.2.2.2.2.1 hd
  obtain ⟨r1, hs⟩ := rg_c hs
  obtain ⟨r2, hs⟩ := rg_c hs
  refine lv_ixor C.1 C.2.1 d1 ?_
  have z := kk l p e s m args below meth c G A C hl (rg_k (i3_of _) hs) hw H locs ls hP hD hS hv
  rw [← cv_ixor a b]
  exact z

theorem a_ishl {a b : Int} (hd : (tb M)[k]? = some (pc, .ishl, 1, np, tg)) (kk : AW M P np lv (vi (ishl a b) :: st) h) : AW M P pc lv (vi b :: vi a :: st) h := by
  intro l p e s m args below meth c G A C hl hs hw H locs ls hP hD hS hv
  obtain ⟨d1, rfl, d3, d4⟩ := ok_at C.2.2.2.2.2.2.2.2.1 hd
  obtain ⟨r1, hs⟩ := rg_c hs
  obtain ⟨r2, hs⟩ := rg_c hs
  refine lv_ishl C.1 C.2.1 d1 ?_
  have z := kk l p e s m args below meth c G A C hl (rg_k (i3_of _) hs) hw H locs ls hP hD hS hv
  rw [← cv_ishl a b]
  exact z

theorem a_ishr {a b : Int} (hd : (tb M)[k]? = some (pc, .ishr, 1, np, tg)) (kk : AW M P np lv (vi (ishr a b) :: st) h) : AW M P pc lv (vi b :: vi a :: st) h := by
  intro l p e s m args below meth c G A C hl hs hw H locs ls hP hD hS hv
  obtain ⟨d1, rfl, d3, d4⟩ := ok_at C.2.2.2.2.2.2.2.2.1 hd
  obtain ⟨r1, hs⟩ := rg_c hs
  obtain ⟨r2, hs⟩ := rg_c hs
  refine lv_ishr C.1 C.2.1 d1 ?_
  have z := kk l p e s m args below meth c G A C hl (rg_k (i3_of _) hs) hw H locs ls hP hD hS hv
  rw [← cv_ishr a b]
  exact z

theorem a_idiv {a b : Int} (hd : (tb M)[k]? = some (pc, .idiv, 1, np, tg)) (h0 : ¬ b = 0) (kk : AW M P np lv (vi (iq a b) :: st) h) : AW M P pc lv (vi b :: vi a :: st) h := by
  intro l p e s m args below meth c G A C hl hs hw H locs ls hP hD hS hv
  obtain ⟨d1, rfl, d3, d4⟩ := ok_at C.2.2.2.2.2.2.2.2.1 hd
  obtain ⟨r1, hs⟩ := rg_c hs
  obtain ⟨r2, hs⟩ := rg_c hs
  refine lv_idiv C.1 C.2.1 d1 (fun q => h0 ((c3_eq r1 c0_3).mp q)) ?_
  have z := kk l p e s m args below meth c G A C hl (rg_k (i3_of _) hs) hw H locs ls hP hD hS hv
  rw [← cv_iq r2 r1]
  exact z

theorem a_irem {a b : Int} (hd : (tb M)[k]? = some (pc, .irem, 1, np, tg)) (h0 : ¬ b = 0) (kk : AW M P np lv (vi (ir a b) :: st) h) : AW M P pc lv (vi b :: vi a :: st) h := by
  intro l p e s m args below meth c G A C hl hs hw H locs ls hP hD hS hv
  obtain ⟨d1, rfl, d3, d4⟩ := ok_at C.2.2.2.2.2.2.2.2.1 hd
  obtain ⟨r1, hs⟩ := rg_c hs
  obtain ⟨r2, hs⟩ := rg_c hs
  refine lv_irem C.1 C.2.1 d1 (fun q => h0 ((c3_eq r1 c0_3).mp q)) ?_
  have z := kk l p e s m args below meth c G A C hl (rg_k (i3_of _) hs) hw H locs ls hP hD hS hv
  rw [← cv_ir r2 r1]
  exact z

theorem a_ladd {a b : Int} (hd : (tb M)[k]? = some (pc, .ladd, 1, np, tg)) (kk : AW M P np lv (vl (la_ a b) :: st) h) : AW M P pc lv (vl b :: vl a :: st) h := by
  intro l p e s m args below meth c G A C hl hs hw H locs ls hP hD hS hv
  obtain ⟨d1, rfl, d3, d4⟩ := ok_at C.2.2.2.2.2.2.2.2.1 hd
  obtain ⟨r1, hs⟩ := rg_c hs
  obtain ⟨r2, hs⟩ := rg_c hs
  refine lv_ladd C.1 C.2.1 d1 ?_
  have z := kk l p e s m args below meth c G A C hl (rg_k (i6_of _) hs) hw H locs ls hP hD hS hv
  rw [← cv_la a b]
  exact z

theorem a_lmul {a b : Int} (hd : (tb M)[k]? = some (pc, .lmul, 1, np, tg)) (kk : AW M P np lv (vl (lm a b) :: st) h) : AW M P pc lv (vl b :: vl a :: st) h := by
  intro l p e s m args below meth c G A C hl hs hw H locs ls hP hD hS hv
  obtain ⟨d1, rfl, d3, d4⟩ := ok_at C.2.2.2.2.2.2.2.2.1 hd
  obtain ⟨r1, hs⟩ := rg_c hs
  obtain ⟨r2, hs⟩ := rg_c hs
  refine lv_lmul C.1 C.2.1 d1 ?_
  have z := kk l p e s m args below meth c G A C hl (rg_k (i6_of _) hs) hw H locs ls hP hD hS hv
  rw [← cv_lm a b]
  exact z

theorem a_land {a b : Int} (hd : (tb M)[k]? = some (pc, .land, 1, np, tg)) (kk : AW M P np lv (vl (land_ a b) :: st) h) : AW M P pc lv (vl b :: vl a :: st) h := by
  intro l p e s m args below meth c G A C hl hs hw H locs ls hP hD hS hv
  obtain ⟨d1, rfl, d3, d4⟩ := ok_at C.2.2.2.2.2.2.2.2.1 hd
  obtain ⟨r1, hs⟩ := rg_c hs
  obtain ⟨r2, hs⟩ := rg_c hs
  refine lv_land C.1 C.2.1 d1 ?_
  have z := kk l p e s m args below meth c G A C hl (rg_k (i6_of _) hs) hw H locs ls hP hD hS hv
  rw [← cv_land a b]
  exact z

theorem a_ldiv {a b : Int} (hd : (tb M)[k]? = some (pc, .ldiv, 1, np, tg)) (h0 : ¬ b = 0) (kk : AW M P np lv (vl (lq a b) :: st) h) : AW M P pc lv (vl b :: vl a :: st) h := by
  intro l p e s m args below meth c G A C hl hs hw H locs ls hP hD hS hv
  obtain ⟨d1, rfl, d3, d4⟩ := ok_at C.2.2.2.2.2.2.2.2.1 hd
  obtain ⟨r1, hs⟩ := rg_c hs
  obtain ⟨r2, hs⟩ := rg_c hs
  refine lv_ldiv C.1 C.2.1 d1 (fun q => h0 ((c6_eq r1 (by unfold I6; omega)).mp q)) ?_
  have z := kk l p e s m args below meth c G A C hl (rg_k (i6_of _) hs) hw H locs ls hP hD hS hv
  rw [← cv_lq r2 r1]
  exact z

theorem a_lrem {a b : Int} (hd : (tb M)[k]? = some (pc, .lrem, 1, np, tg)) (h0 : ¬ b = 0) (kk : AW M P np lv (vl (lr a b) :: st) h) : AW M P pc lv (vl b :: vl a :: st) h := by
  intro l p e s m args below meth c G A C hl hs hw H locs ls hP hD hS hv
  obtain ⟨d1, rfl, d3, d4⟩ := ok_at C.2.2.2.2.2.2.2.2.1 hd
  obtain ⟨r1, hs⟩ := rg_c hs
  obtain ⟨r2, hs⟩ := rg_c hs
  refine lv_lrem C.1 C.2.1 d1 (fun q => h0 ((c6_eq r1 (by unfold I6; omega)).mp q)) ?_
  have z := kk l p e s m args below meth c G A C hl (rg_k (i6_of _) hs) hw H locs ls hP hD hS hv
  rw [← cv_lr r2 r1]
  exact z

theorem a_ineg {a : Int} (hd : (tb M)[k]? = some (pc, .ineg, 1, np, tg)) (kk : AW M P np lv (vi (in_ a) :: st) h) : AW M P pc lv (vi a :: st) h := by
  intro l p e s m args below meth c G A C hl hs hw H locs ls hP hD hS hv
  obtain ⟨d1, rfl, d3, d4⟩ := ok_at C.2.2.2.2.2.2.2.2.1 hd
  obtain ⟨r1, hs⟩ := rg_c hs
  refine lv_ineg C.1 C.2.1 d1 ?_
  have z := kk l p e s m args below meth c G A C hl (rg_k (i3_of _) hs) hw H locs ls hP hD hS hv
  rw [← cv_in a]
  exact z
theorem a_iushr {a b : Int} (hd : (tb M)[k]? = some (pc, .iushr, 1, np, tg)) (kk : AW M P np lv (vi (iushr a b) :: st) h) : AW M P pc lv (vi b :: vi a :: st) h := by
  intro l p e s m args below meth c G A C hl hs hw H locs ls hP hD hS hv
  obtain ⟨d1, rfl, d3, d4⟩ := ok_at C.2.2.2.2.2.2.2.2.1 hd
  obtain ⟨r1, hs⟩ := rg_c hs
  obtain ⟨r2, hs⟩ := rg_c hs
  refine lv_iushr C.1 C.2.1 d1 (cv_iushr a b).symm ?_
  exact kk l p e s m args below meth c G A C hl (rg_k (i3_of _) hs) hw H locs ls hP hD hS hv
theorem a_i2l {a : Int} (hd : (tb M)[k]? = some (pc, .i2l, 1, np, tg)) (kk : AW M P np lv (vl a :: st) h) : AW M P pc lv (vi a :: st) h := by
  intro l p e s m args below meth c G A C hl hs hw H locs ls hP hD hS hv
  obtain ⟨d1, rfl, d3, d4⟩ := ok_at C.2.2.2.2.2.2.2.2.1 hd
  obtain ⟨r1, hs⟩ := rg_c hs
  have r1 : I3 a := r1
  refine lv_i2l C.1 C.2.1 d1 (v := Int64.ofInt a) ?_ ?_
  · apply Int64.toInt_inj.mp
    rw [Int32.toInt_toInt64, to3 r1, to6 (by unfold I3 at r1; unfold I6; omega)]
  exact kk l p e s m args below meth c G A C hl (rg_k (by unfold I3 at r1; show I6 a; unfold I6; omega) hs) hw H locs ls hP hD hS hv
theorem a_l2i {a : Int} (hd : (tb M)[k]? = some (pc, .l2i, 1, np, tg)) (kk : AW M P np lv (vi (w3 a) :: st) h) : AW M P pc lv (vl a :: st) h := by
  intro l p e s m args below meth c G A C hl hs hw H locs ls hP hD hS hv
  obtain ⟨d1, rfl, d3, d4⟩ := ok_at C.2.2.2.2.2.2.2.2.1 hd
  obtain ⟨r1, hs⟩ := rg_c hs
  have r1 : I6 a := r1
  refine lv_l2i C.1 C.2.1 d1 (v := Int32.ofInt (w3 a)) ?_ ?_
  · rw [w3_of]
    apply Int32.toInt_inj.mp
    rw [Int64.toInt_toInt32, to6 r1, Int32.toInt_ofInt]
  exact kk l p e s m args below meth c G A C hl (rg_k (i3_of _) hs) hw H locs ls hP hD hS hv
theorem a_i2b {a : Int} (hd : (tb M)[k]? = some (pc, .i2b, 1, np, tg)) (kk : AW M P np lv (vi (sb a) :: st) h) : AW M P pc lv (vi a :: st) h := by
  intro l p e s m args below meth c G A C hl hs hw H locs ls hP hD hS hv
  obtain ⟨d1, rfl, d3, d4⟩ := ok_at C.2.2.2.2.2.2.2.2.1 hd
  obtain ⟨r1, hs⟩ := rg_c hs
  refine lv_i2b C.1 C.2.1 d1 (cv_sb a).symm ?_
  exact kk l p e s m args below meth c G A C hl (rg_k (i3_of _) hs) hw H locs ls hP hD hS hv
theorem a_lcmp {a b : Int} (hd : (tb M)[k]? = some (pc, .lcmp, 1, np, tg)) (k1 : b < a → AW M P np lv (vi 1 :: st) h) (k2 : a = b → AW M P np lv (vi 0 :: st) h) (k3 : a < b → AW M P np lv (vi (-1) :: st) h) : AW M P pc lv (vl b :: vl a :: st) h := by
  intro l p e s m args below meth c G A C hl hs hw H locs ls hP hD hS hv
  obtain ⟨d1, rfl, d3, d4⟩ := ok_at C.2.2.2.2.2.2.2.2.1 hd
  obtain ⟨r1, hs⟩ := rg_c hs
  obtain ⟨r2, hs⟩ := rg_c hs
  refine W.lcmp C.1 C.2.1 d1 ?_
  have e1 : Int64.ofInt b < Int64.ofInt a ↔ b < a := c6_lt r1 r2
  have e2 : Int64.ofInt a = Int64.ofInt b ↔ a = b := c6_eq r2 r1
  by_cases q1 : b < a
  · have z := k1 q1 l p e s m args below meth c G A C hl (rg_k (show I3 1 by unfold I3; omega) hs) hw H locs ls hP hD hS hv
    have : lg_cmp (Int64.ofInt a) (Int64.ofInt b) = 1 := by simp [lg_cmp, e1, q1]
    rw [this]; exact z
  · by_cases q2 : a = b
    · have z := k2 q2 l p e s m args below meth c G A C hl (rg_k (show I3 0 by unfold I3; omega) hs) hw H locs ls hP hD hS hv
      have : lg_cmp (Int64.ofInt a) (Int64.ofInt b) = 0 := by simp [lg_cmp, e1, q1, e2, q2]
      rw [this]; exact z
    · have z := k3 (by omega) l p e s m args below meth c G A C hl (rg_k (show I3 (-1) by unfold I3; omega) hs) hw H locs ls hP hD hS hv
      have : lg_cmp (Int64.ofInt a) (Int64.ofInt b) = -1 := by simp [lg_cmp, e1, q1, e2, q2]
      rw [this]; exact z

theorem a_iconst {v : Int} (hd : (tb M)[k]? = some (pc, .iconst v, 1, np, tg)) (kk : AW M P np lv (vi v :: st) h) : AW M P pc lv st h := by
  intro l p e s m args below meth c G A C hl hs hw H locs ls hP hD hS hv
  obtain ⟨d1, rfl, d3, d4⟩ := ok_at C.2.2.2.2.2.2.2.2.1 hd
  simp only [cst_, Bool.and_eq_true, decide_eq_true_eq] at d3
  refine lv_iconst C.1 C.2.1 d1 rfl ?_
  exact kk l p e s m args below meth c G A C hl (rg_k ⟨d3.1, d3.2⟩ hs) hw H locs ls hP hD hS hv

theorem a_bipush {v : Int} (hd : (tb M)[k]? = some (pc, .bipush v, 2, np, tg)) (kk : AW M P np lv (vi v :: st) h) : AW M P pc lv st h := by
  intro l p e s m args below meth c G A C hl hs hw H locs ls hP hD hS hv
  obtain ⟨d1, rfl, d3, d4⟩ := ok_at C.2.2.2.2.2.2.2.2.1 hd
  simp only [cst_, Bool.and_eq_true, decide_eq_true_eq] at d3
  refine lv_bipush C.1 C.2.1 d1 d3.1.1 ?_
  exact kk l p e s m args below meth c G A C hl (rg_k ⟨d3.1.2, d3.2⟩ hs) hw H locs ls hP hD hS hv

theorem a_sipush {v : Int} (hd : (tb M)[k]? = some (pc, .sipush v, 3, np, tg)) (kk : AW M P np lv (vi v :: st) h) : AW M P pc lv st h := by
  intro l p e s m args below meth c G A C hl hs hw H locs ls hP hD hS hv
  obtain ⟨d1, rfl, d3, d4⟩ := ok_at C.2.2.2.2.2.2.2.2.1 hd
  simp only [cst_, Bool.and_eq_true, decide_eq_true_eq] at d3
  refine lv_sipush C.1 C.2.1 d1 d3.1.1 ?_
  exact kk l p e s m args below meth c G A C hl (rg_k ⟨d3.1.2, d3.2⟩ hs) hw H locs ls hP hD hS hv

theorem a_lconst {v : Fin 2} (hd : (tb M)[k]? = some (pc, .lconst v, 1, np, tg)) (kk : AW M P np lv (vl (v.val : Int) :: st) h) : AW M P pc lv st h := by
  intro l p e s m args below meth c G A C hl hs hw H locs ls hP hD hS hv
  obtain ⟨d1, rfl, d3, d4⟩ := ok_at C.2.2.2.2.2.2.2.2.1 hd
  refine lv_lconst C.1 C.2.1 d1 (v := Int64.ofInt (v.val : Int)) ?_ ?_
  · match v with
    | 0 => rfl
    | 1 => rfl
  exact kk l p e s m args below meth c G A C hl (rg_k (by have := v.isLt; show I6 _; unfold I6; omega) hs) hw H locs ls hP hD hS hv
theorem a_ldc {v : Int} {x : Nat} (hd : (tb M)[k]? = some (pc, .ldc x, 2, np, tg)) (hc : Cond.constant M.1.cls x (Int32.ofInt v) ∈ lw_gd) (hr : I3 v) (kk : AW M P np lv (vi v :: st) h) : AW M P pc lv st h := by
  intro l p e s m args below meth c G A C hl hs hw H locs ls hP hD hS hv
  obtain ⟨d1, rfl, d3, d4⟩ := ok_at C.2.2.2.2.2.2.2.2.1 hd
  refine W.ldc C.1 C.2.1 C.2.2.2.2.1 (C.2.2.2.2.2.1 _ (List.mem_cons_of_mem _ hc)) rfl d1 ?_
  exact kk l p e s m args below meth c G A C hl (rg_k hr hs) hw H locs ls hP hD hS hv
theorem a_ldcw {v : Int} {x : Nat} (hd : (tb M)[k]? = some (pc, .ldc_w x, 3, np, tg)) (hc : Cond.constant M.1.cls x (Int32.ofInt v) ∈ lw_gd) (hr : I3 v) (kk : AW M P np lv (vi v :: st) h) : AW M P pc lv st h := by
  intro l p e s m args below meth c G A C hl hs hw H locs ls hP hD hS hv
  obtain ⟨d1, rfl, d3, d4⟩ := ok_at C.2.2.2.2.2.2.2.2.1 hd
  refine lv_ldcw C.1 C.2.1 C.2.2.2.2.1 (C.2.2.2.2.2.1 _ (List.mem_cons_of_mem _ hc)) d1 ?_
  exact kk l p e s m args below meth c G A C hl (rg_k hr hs) hw H locs ls hP hD hS hv
theorem a_ldc2 {v : Int} {x : Nat} (hd : (tb M)[k]? = some (pc, .ldc2_w x, 3, np, tg)) (hc : Cond.constantLong M.1.cls x (Int64.ofInt v) ∈ lw_gd) (hr : I6 v) (kk : AW M P np lv (vl v :: st) h) : AW M P pc lv st h := by
  intro l p e s m args below meth c G A C hl hs hw H locs ls hP hD hS hv
  obtain ⟨d1, rfl, d3, d4⟩ := ok_at C.2.2.2.2.2.2.2.2.1 hd
  refine W.ldc2 C.1 C.2.1 C.2.2.2.2.1 (C.2.2.2.2.2.1 _ (List.mem_cons_of_mem _ hc)) rfl d1 ?_
  exact kk l p e s m args below meth c G A C hl (rg_k hr hs) hw H locs ls hP hD hS hv
theorem a_null (hd : (tb M)[k]? = some (pc, .aconst_null, 1, np, tg)) (kk : AW M P np lv (vn :: st) h) : AW M P pc lv st h := by
  intro l p e s m args below meth c G A C hl hs hw H locs ls hP hD hS hv
  obtain ⟨d1, rfl, d3, d4⟩ := ok_at C.2.2.2.2.2.2.2.2.1 hd
  refine lv_null C.1 C.2.1 d1 ?_
  exact kk l p e s m args below meth c G A C hl (rg_k trivial hs) hw H locs ls hP hD hS hv
/-- a local's value, by its place in the list -/
theorem lv_get {ls : Array Slot} {nL j i : Nat} {ad : Nat → Nat → Nat} {v : AV} (hv : lv_has ls nL (lvc ad lv)) (hj : lv[j]? = some (i, v)) : ls[i]? = some (.val (cv ad v)) := lv_at hv j (by simp [lvc, hj])
theorem lv_rgj {j i : Nat} {v : AV} (hl : ∀ q ∈ lv, rg q.2) (hj : lv[j]? = some (i, v)) : rg v := hl _ (List.mem_of_getElem? hj)

theorem a_iloadn {a : Int} {x : Fin 4} (j : Nat) (hd : (tb M)[k]? = some (pc, .iload_n x, 1, np, tg)) (hj : lv[j]? = some (x.val, vi a)) (kk : AW M P np lv (vi a :: st) h) : AW M P pc lv st h := by
  intro l p e s m args below meth c G A C hl hs hw H locs ls hP hD hS hv
  obtain ⟨d1, rfl, d3, d4⟩ := ok_at C.2.2.2.2.2.2.2.2.1 hd
  refine lv_iload_n C.1 C.2.1 d1 rfl (lv_get hv hj) ?_
  exact kk l p e s m args below meth c G A C hl (rg_k (lv_rgj hl hj) hs) hw H locs ls hP hD hS hv
theorem a_iload {a : Int} {x : Nat} (j : Nat) (hd : (tb M)[k]? = some (pc, .iload x, 2, np, tg)) (hj : lv[j]? = some (x, vi a)) (kk : AW M P np lv (vi a :: st) h) : AW M P pc lv st h := by
  intro l p e s m args below meth c G A C hl hs hw H locs ls hP hD hS hv
  obtain ⟨d1, rfl, d3, d4⟩ := ok_at C.2.2.2.2.2.2.2.2.1 hd
  refine lv_iload C.1 C.2.1 d1 (lv_get hv hj) ?_
  exact kk l p e s m args below meth c G A C hl (rg_k (lv_rgj hl hj) hs) hw H locs ls hP hD hS hv

theorem a_lloadn {a : Int} {x : Fin 4} (j : Nat) (hd : (tb M)[k]? = some (pc, .lload_n x, 1, np, tg)) (hj : lv[j]? = some (x.val, vl a)) (kk : AW M P np lv (vl a :: st) h) : AW M P pc lv st h := by
  intro l p e s m args below meth c G A C hl hs hw H locs ls hP hD hS hv
  obtain ⟨d1, rfl, d3, d4⟩ := ok_at C.2.2.2.2.2.2.2.2.1 hd
  refine lv_lload_n C.1 C.2.1 d1 rfl (lv_get hv hj) ?_
  exact kk l p e s m args below meth c G A C hl (rg_k (lv_rgj hl hj) hs) hw H locs ls hP hD hS hv
theorem a_lload {a : Int} {x : Nat} (j : Nat) (hd : (tb M)[k]? = some (pc, .lload x, 2, np, tg)) (hj : lv[j]? = some (x, vl a)) (kk : AW M P np lv (vl a :: st) h) : AW M P pc lv st h := by
  intro l p e s m args below meth c G A C hl hs hw H locs ls hP hD hS hv
  obtain ⟨d1, rfl, d3, d4⟩ := ok_at C.2.2.2.2.2.2.2.2.1 hd
  refine lv_lload C.1 C.2.1 d1 (lv_get hv hj) ?_
  exact kk l p e s m args below meth c G A C hl (rg_k (lv_rgj hl hj) hs) hw H locs ls hP hD hS hv

theorem a_aloadn {t i : Nat} {x : Fin 4} (j : Nat) (hd : (tb M)[k]? = some (pc, .aload_n x, 1, np, tg)) (hj : lv[j]? = some (x.val, vr t i)) (kk : AW M P np lv (vr t i :: st) h) : AW M P pc lv st h := by
  intro l p e s m args below meth c G A C hl hs hw H locs ls hP hD hS hv
  obtain ⟨d1, rfl, d3, d4⟩ := ok_at C.2.2.2.2.2.2.2.2.1 hd
  refine lv_aload_n C.1 C.2.1 d1 rfl (lv_get hv hj) ?_
  exact kk l p e s m args below meth c G A C hl (rg_k (lv_rgj hl hj) hs) hw H locs ls hP hD hS hv
theorem a_aload {t i : Nat} {x : Nat} (j : Nat) (hd : (tb M)[k]? = some (pc, .aload x, 2, np, tg)) (hj : lv[j]? = some (x, vr t i)) (kk : AW M P np lv (vr t i :: st) h) : AW M P pc lv st h := by
  intro l p e s m args below meth c G A C hl hs hw H locs ls hP hD hS hv
  obtain ⟨d1, rfl, d3, d4⟩ := ok_at C.2.2.2.2.2.2.2.2.1 hd
  refine lv_aload C.1 C.2.1 d1 (lv_get hv hj) ?_
  exact kk l p e s m args below meth c G A C hl (rg_k (lv_rgj hl hj) hs) hw H locs ls hP hD hS hv

/-- locals behind a store -/
def isl (v : AV) : Bool := match v with | .inr (.inl _) => true | _ => false
def s1 (lv : LV) (i : Nat) (v : AV) : LV := (i, v) :: lv.filter fun q => !(q.1 == i) && !(q.1 + 1 == i && isl q.2)
def s2 (lv : LV) (i : Nat) (v : AV) : LV := (i, v) :: lv.filter fun q => !(q.1 == i) && (!(q.1 == i + 1) && !(q.1 + 1 == i && isl q.2))
theorem cat_cv (ad : Nat → Nat → Nat) (v : AV) : ((cv ad v).category == 2) = isl v := by
  match v with
  | .inl a => rfl
  | .inr (.inl a) => rfl
  | .inr (.inr (some q)) => rfl
  | .inr (.inr none) => rfl
theorem s1_cv (ad : Nat → Nat → Nat) (lv : LV) (i : Nat) (v : AV) : (i, cv ad v) :: (lvc ad lv).filter (fun q => !(q.1 == i) && !(q.1 + 1 == i && q.2.category == 2)) = lvc ad (s1 lv i v) := by
  unfold s1 lvc
  rw [List.map_cons, List.filter_map]
  congr 2
  apply List.filter_congr
  intro q _
  simp only [Function.comp, cat_cv]
theorem s2_cv (ad : Nat → Nat → Nat) (lv : LV) (i : Nat) (v : AV) : (i, cv ad v) :: (lvc ad lv).filter (fun q => !(q.1 == i) && (!(q.1 == i + 1) && !(q.1 + 1 == i && q.2.category == 2))) = lvc ad (s2 lv i v) := by
  unfold s2 lvc
  rw [List.map_cons, List.filter_map]
  congr 2
  apply List.filter_congr
  intro q _
  simp only [Function.comp, cat_cv]
theorem s1_rg {lv : LV} {i : Nat} {v : AV} (hv : rg v) (hl : ∀ q ∈ lv, rg q.2) : ∀ q ∈ s1 lv i v, rg q.2 := fun q hq => by
  rcases List.mem_cons.mp hq with rfl | hq
  · exact hv
  · exact hl q (List.mem_filter.mp hq).1
theorem s2_rg {lv : LV} {i : Nat} {v : AV} (hv : rg v) (hl : ∀ q ∈ lv, rg q.2) : ∀ q ∈ s2 lv i v, rg q.2 := fun q hq => by
  rcases List.mem_cons.mp hq with rfl | hq
  · exact hv
  · exact hl q (List.mem_filter.mp hq).1

theorem a_istoren {a : Int} {x : Fin 4} {lv' : LV} (hd : (tb M)[k]? = some (pc, .istore_n x, 1, np, tg)) (hn : x.val < M.2.2.1) (hl' : s1 lv x.val (vi a) = lv') (kk : AW M P np lv' st h) : AW M P pc lv (vi a :: st) h := by
  intro l p e s m args below meth c G A C hl hs hw H locs ls hP hD hS hv
  obtain ⟨d1, rfl, d3, d4⟩ := ok_at C.2.2.2.2.2.2.2.2.1 hd
  obtain ⟨r1, hs⟩ := rg_c hs
  subst hl'
  refine lv_istore_n C.1 C.2.1 d1 rfl hv hn (s1_cv G.2.2 lv x.val (vi a)) fun ls' hv' => ?_
  exact kk l p e s m args below meth c G A C (s1_rg r1 hl) hs hw H locs ls' hP hD hS hv'

theorem a_istore {a : Int} {x : Nat} {lv' : LV} (hd : (tb M)[k]? = some (pc, .istore x, 2, np, tg)) (hn : x < M.2.2.1) (hl' : s1 lv x (vi a) = lv') (kk : AW M P np lv' st h) : AW M P pc lv (vi a :: st) h := by
  intro l p e s m args below meth c G A C hl hs hw H locs ls hP hD hS hv
  obtain ⟨d1, rfl, d3, d4⟩ := ok_at C.2.2.2.2.2.2.2.2.1 hd
  obtain ⟨r1, hs⟩ := rg_c hs
  subst hl'
  refine lv_istore C.1 C.2.1 d1 hv hn (s1_cv G.2.2 lv x (vi a)) fun ls' hv' => ?_
  exact kk l p e s m args below meth c G A C (s1_rg r1 hl) hs hw H locs ls' hP hD hS hv'

theorem a_astoren {t i : Nat} {x : Fin 4} {lv' : LV} (hd : (tb M)[k]? = some (pc, .astore_n x, 1, np, tg)) (hn : x.val < M.2.2.1) (hl' : s1 lv x.val (vr t i) = lv') (kk : AW M P np lv' st h) : AW M P pc lv (vr t i :: st) h := by
  intro l p e s m args below meth c G A C hl hs hw H locs ls hP hD hS hv
  obtain ⟨d1, rfl, d3, d4⟩ := ok_at C.2.2.2.2.2.2.2.2.1 hd
  obtain ⟨r1, hs⟩ := rg_c hs
  subst hl'
  refine lv_astore_n C.1 C.2.1 d1 rfl hv hn (s1_cv G.2.2 lv x.val (vr t i)) fun ls' hv' => ?_
  exact kk l p e s m args below meth c G A C (s1_rg r1 hl) hs hw H locs ls' hP hD hS hv'

theorem a_astore {t i : Nat} {x : Nat} {lv' : LV} (hd : (tb M)[k]? = some (pc, .astore x, 2, np, tg)) (hn : x < M.2.2.1) (hl' : s1 lv x (vr t i) = lv') (kk : AW M P np lv' st h) : AW M P pc lv (vr t i :: st) h := by
  intro l p e s m args below meth c G A C hl hs hw H locs ls hP hD hS hv
  obtain ⟨d1, rfl, d3, d4⟩ := ok_at C.2.2.2.2.2.2.2.2.1 hd
  obtain ⟨r1, hs⟩ := rg_c hs
  subst hl'
  refine lv_astore C.1 C.2.1 d1 hv hn (s1_cv G.2.2 lv x (vr t i)) fun ls' hv' => ?_
  exact kk l p e s m args below meth c G A C (s1_rg r1 hl) hs hw H locs ls' hP hD hS hv'

theorem a_lstoren {a : Int} {x : Fin 4} {lv' : LV} (hd : (tb M)[k]? = some (pc, .lstore_n x, 1, np, tg)) (hn : x.val + 1 < M.2.2.1) (hl' : s2 lv x.val (vl a) = lv') (kk : AW M P np lv' st h) : AW M P pc lv (vl a :: st) h := by
  intro l p e s m args below meth c G A C hl hs hw H locs ls hP hD hS hv
  obtain ⟨d1, rfl, d3, d4⟩ := ok_at C.2.2.2.2.2.2.2.2.1 hd
  obtain ⟨r1, hs⟩ := rg_c hs
  subst hl'
  refine lv_lstore_n C.1 C.2.1 d1 rfl hv hn (s2_cv G.2.2 lv x.val (vl a)) fun ls' hv' => ?_
  exact kk l p e s m args below meth c G A C (s2_rg r1 hl) hs hw H locs ls' hP hD hS hv'

theorem a_lstore {a : Int} {x : Nat} {lv' : LV} (hd : (tb M)[k]? = some (pc, .lstore x, 2, np, tg)) (hn : x + 1 < M.2.2.1) (hl' : s2 lv x (vl a) = lv') (kk : AW M P np lv' st h) : AW M P pc lv (vl a :: st) h := by
  intro l p e s m args below meth c G A C hl hs hw H locs ls hP hD hS hv
  obtain ⟨d1, rfl, d3, d4⟩ := ok_at C.2.2.2.2.2.2.2.2.1 hd
  obtain ⟨r1, hs⟩ := rg_c hs
  subst hl'
  refine lv_lstore C.1 C.2.1 d1 hv hn (s2_cv G.2.2 lv x (vl a)) fun ls' hv' => ?_
  exact kk l p e s m args below meth c G A C (s2_rg r1 hl) hs hw H locs ls' hP hD hS hv'

theorem a_astoreN {x : Nat} {lv' : LV} (hd : (tb M)[k]? = some (pc, .astore x, 2, np, tg)) (kk : AW M P np lv' st h) (hf : False) : AW M P pc lv (vn :: st) h := hf.elim
theorem a_iinc {a : Int} {x : Nat} {n : Int} {lv' : LV} (j : Nat) (hd : (tb M)[k]? = some (pc, .iinc x n, 3, np, tg)) (hj : lv[j]? = some (x, vi a)) (hn : x < M.2.2.1) (hl' : s1 lv x (vi (ia a n)) = lv') (kk : AW M P np lv' st h) : AW M P pc lv st h := by
  intro l p e s m args below meth c G A C hl hs hw H locs ls hP hD hS hv
  obtain ⟨d1, rfl, d3, d4⟩ := ok_at C.2.2.2.2.2.2.2.2.1 hd
  subst hl'
  refine lv_iinc C.1 C.2.1 d1 hv (k := j) (x := Int32.ofInt a) (by simp [lvc, hj]; rfl) (cv_ia a n).symm hn (s1_cv G.2.2 lv x (vi (ia a n))) fun ls' hv' => ?_
  exact kk l p e s m args below meth c G A C (s1_rg (i3_of _) hl) hs hw H locs ls' hP hD hS hv'
theorem cat1_cv {ad : Nat → Nat → Nat} {v : AV} (h : isl v = false) : (cv ad v).category = 1 := by
  match v, h with
  | .inl a, _ => rfl
  | .inr (.inr (some q)), _ => rfl
  | .inr (.inr none), _ => rfl
theorem a_dup {v : AV} (hd : (tb M)[k]? = some (pc, .dup, 1, np, tg)) (hc : isl v = false) (kk : AW M P np lv (v :: v :: st) h) : AW M P pc lv (v :: st) h := by
  intro l p e s m args below meth c G A C hl hs hw H locs ls hP hD hS hv
  obtain ⟨d1, rfl, d3, d4⟩ := ok_at C.2.2.2.2.2.2.2.2.1 hd
  refine lv_dup C.1 C.2.1 d1 (cat1_cv hc) ?_
  exact kk l p e s m args below meth c G A C hl (rg_k (rg_c hs).1 hs) hw H locs ls hP hD hS hv
theorem a_dup2 {v w : AV} (hd : (tb M)[k]? = some (pc, .dup2, 1, np, tg)) (hc : isl v = false) (hc2 : isl w = false) (kk : AW M P np lv (v :: w :: v :: w :: st) h) : AW M P pc lv (v :: w :: st) h := by
  intro l p e s m args below meth c G A C hl hs hw H locs ls hP hD hS hv
  obtain ⟨d1, rfl, d3, d4⟩ := ok_at C.2.2.2.2.2.2.2.2.1 hd
  refine lv_dup2_11 C.1 C.2.1 d1 (cat1_cv hc) (cat1_cv hc2) ?_
  exact kk l p e s m args below meth c G A C hl (rg_k (rg_c hs).1 (rg_k (rg_c (rg_c hs).2).1 hs)) hw H locs ls hP hD hS hv
theorem a_pop {v : AV} (hd : (tb M)[k]? = some (pc, .pop, 1, np, tg)) (hc : isl v = false) (kk : AW M P np lv st h) : AW M P pc lv (v :: st) h := by
  intro l p e s m args below meth c G A C hl hs hw H locs ls hP hD hS hv
  obtain ⟨d1, rfl, d3, d4⟩ := ok_at C.2.2.2.2.2.2.2.2.1 hd
  refine lv_pop C.1 C.2.1 d1 (cat1_cv hc) ?_
  exact kk l p e s m args below meth c G A C hl (rg_c hs).2 hw H locs ls hP hD hS hv
theorem a_goto {o : Int} (hd : (tb M)[k]? = some (pc, .goto o, 3, np, tg)) (kk : AW M P tg lv st h) : AW M P pc lv st h := by
  intro l p e s m args below meth c G A C hl hs hw H locs ls hP hD hS hv
  obtain ⟨d1, rfl, d3, d4⟩ := ok_at C.2.2.2.2.2.2.2.2.1 hd
  refine lv_goto C.1 C.2.1 d1 (d4 _ rfl) ?_
  exact kk l p e s m args below meth c G A C hl hs hw H locs ls hP hD hS hv

theorem a_icmp_eq {a b o : Int} (hd : (tb M)[k]? = some (pc, .if_icmp .eq o, 3, np, tg)) (k1 : a = b → AW M P tg lv st h) (k2 : ¬ a = b → AW M P np lv st h) : AW M P pc lv (vi b :: vi a :: st) h := by
  intro l p e s m args below meth c G A C hl hs hw H locs ls hP hD hS hv
  obtain ⟨d1, rfl, d3, d4⟩ := ok_at C.2.2.2.2.2.2.2.2.1 hd
  obtain ⟨r1, hs⟩ := rg_c hs
  obtain ⟨r2, hs⟩ := rg_c hs
  exact lv_icmp_eq C.1 C.2.1 d1 (d4 _ rfl) (fun q => k1 ((c3_eq r2 r1).mp q) l p e s m args below meth c G A C hl hs hw H locs ls hP hD hS hv) (fun q => k2 ((not_congr (c3_eq r2 r1)).mp q) l p e s m args below meth c G A C hl hs hw H locs ls hP hD hS hv)

theorem a_icmp_ne {a b o : Int} (hd : (tb M)[k]? = some (pc, .if_icmp .ne o, 3, np, tg)) (k1 : ¬ a = b → AW M P tg lv st h) (k2 : a = b → AW M P np lv st h) : AW M P pc lv (vi b :: vi a :: st) h := by
  intro l p e s m args below meth c G A C hl hs hw H locs ls hP hD hS hv
  obtain ⟨d1, rfl, d3, d4⟩ := ok_at C.2.2.2.2.2.2.2.2.1 hd
  obtain ⟨r1, hs⟩ := rg_c hs
  obtain ⟨r2, hs⟩ := rg_c hs
  exact lv_icmp_ne C.1 C.2.1 d1 (d4 _ rfl) (fun q => k1 ((not_congr (c3_eq r2 r1)).mp q) l p e s m args below meth c G A C hl hs hw H locs ls hP hD hS hv) (fun q => k2 ((c3_eq r2 r1).mp q) l p e s m args below meth c G A C hl hs hw H locs ls hP hD hS hv)

theorem a_icmp_lt {a b o : Int} (hd : (tb M)[k]? = some (pc, .if_icmp .lt o, 3, np, tg)) (k1 : a < b → AW M P tg lv st h) (k2 : ¬ a < b → AW M P np lv st h) : AW M P pc lv (vi b :: vi a :: st) h := by
  intro l p e s m args below meth c G A C hl hs hw H locs ls hP hD hS hv
  obtain ⟨d1, rfl, d3, d4⟩ := ok_at C.2.2.2.2.2.2.2.2.1 hd
  obtain ⟨r1, hs⟩ := rg_c hs
  obtain ⟨r2, hs⟩ := rg_c hs
  exact lv_icmp_lt C.1 C.2.1 d1 (d4 _ rfl) (fun q => k1 ((c3_lt r2 r1).mp q) l p e s m args below meth c G A C hl hs hw H locs ls hP hD hS hv) (fun q => k2 ((not_congr (c3_lt r2 r1)).mp q) l p e s m args below meth c G A C hl hs hw H locs ls hP hD hS hv)

theorem a_icmp_ge {a b o : Int} (hd : (tb M)[k]? = some (pc, .if_icmp .ge o, 3, np, tg)) (k1 : b ≤ a → AW M P tg lv st h) (k2 : ¬ b ≤ a → AW M P np lv st h) : AW M P pc lv (vi b :: vi a :: st) h := by
  intro l p e s m args below meth c G A C hl hs hw H locs ls hP hD hS hv
  obtain ⟨d1, rfl, d3, d4⟩ := ok_at C.2.2.2.2.2.2.2.2.1 hd
  obtain ⟨r1, hs⟩ := rg_c hs
  obtain ⟨r2, hs⟩ := rg_c hs
  exact lv_icmp_ge C.1 C.2.1 d1 (d4 _ rfl) (fun q => k1 ((c3_le r1 r2).mp q) l p e s m args below meth c G A C hl hs hw H locs ls hP hD hS hv) (fun q => k2 ((not_congr (c3_le r1 r2)).mp q) l p e s m args below meth c G A C hl hs hw H locs ls hP hD hS hv)

theorem a_icmp_gt {a b o : Int} (hd : (tb M)[k]? = some (pc, .if_icmp .gt o, 3, np, tg)) (k1 : b < a → AW M P tg lv st h) (k2 : ¬ b < a → AW M P np lv st h) : AW M P pc lv (vi b :: vi a :: st) h := by
  intro l p e s m args below meth c G A C hl hs hw H locs ls hP hD hS hv
  obtain ⟨d1, rfl, d3, d4⟩ := ok_at C.2.2.2.2.2.2.2.2.1 hd
  obtain ⟨r1, hs⟩ := rg_c hs
  obtain ⟨r2, hs⟩ := rg_c hs
  exact lv_icmp_gt C.1 C.2.1 d1 (d4 _ rfl) (fun q => k1 ((c3_lt r1 r2).mp q) l p e s m args below meth c G A C hl hs hw H locs ls hP hD hS hv) (fun q => k2 ((not_congr (c3_lt r1 r2)).mp q) l p e s m args below meth c G A C hl hs hw H locs ls hP hD hS hv)

theorem a_icmp_le {a b o : Int} (hd : (tb M)[k]? = some (pc, .if_icmp .le o, 3, np, tg)) (k1 : a ≤ b → AW M P tg lv st h) (k2 : ¬ a ≤ b → AW M P np lv st h) : AW M P pc lv (vi b :: vi a :: st) h := by
  intro l p e s m args below meth c G A C hl hs hw H locs ls hP hD hS hv
  obtain ⟨d1, rfl, d3, d4⟩ := ok_at C.2.2.2.2.2.2.2.2.1 hd
  obtain ⟨r1, hs⟩ := rg_c hs
  obtain ⟨r2, hs⟩ := rg_c hs
  exact lv_icmp_le C.1 C.2.1 d1 (d4 _ rfl) (fun q => k1 ((c3_le r2 r1).mp q) l p e s m args below meth c G A C hl hs hw H locs ls hP hD hS hv) (fun q => k2 ((not_congr (c3_le r2 r1)).mp q) l p e s m args below meth c G A C hl hs hw H locs ls hP hD hS hv)

theorem a_if_eq {a o : Int} (hd : (tb M)[k]? = some (pc, .ifCond .eq o, 3, np, tg)) (k1 : a = 0 → AW M P tg lv st h) (k2 : ¬ a = 0 → AW M P np lv st h) : AW M P pc lv (vi a :: st) h := by
  intro l p e s m args below meth c G A C hl hs hw H locs ls hP hD hS hv
  obtain ⟨d1, rfl, d3, d4⟩ := ok_at C.2.2.2.2.2.2.2.2.1 hd
  obtain ⟨r1, hs⟩ := rg_c hs
  exact lv_if_eq C.1 C.2.1 d1 (d4 _ rfl) (fun q => k1 ((c3_eq r1 c0_3).mp q) l p e s m args below meth c G A C hl hs hw H locs ls hP hD hS hv) (fun q => k2 ((not_congr (c3_eq r1 c0_3)).mp q) l p e s m args below meth c G A C hl hs hw H locs ls hP hD hS hv)

theorem a_if_ne {a o : Int} (hd : (tb M)[k]? = some (pc, .ifCond .ne o, 3, np, tg)) (k1 : ¬ a = 0 → AW M P tg lv st h) (k2 : a = 0 → AW M P np lv st h) : AW M P pc lv (vi a :: st) h := by
  intro l p e s m args below meth c G A C hl hs hw H locs ls hP hD hS hv
  obtain ⟨d1, rfl, d3, d4⟩ := ok_at C.2.2.2.2.2.2.2.2.1 hd
  obtain ⟨r1, hs⟩ := rg_c hs
  exact lv_if_ne C.1 C.2.1 d1 (d4 _ rfl) (fun q => k1 ((not_congr (c3_eq r1 c0_3)).mp q) l p e s m args below meth c G A C hl hs hw H locs ls hP hD hS hv) (fun q => k2 ((c3_eq r1 c0_3).mp q) l p e s m args below meth c G A C hl hs hw H locs ls hP hD hS hv)

theorem a_if_lt {a o : Int} (hd : (tb M)[k]? = some (pc, .ifCond .lt o, 3, np, tg)) (k1 : a < 0 → AW M P tg lv st h) (k2 : ¬ a < 0 → AW M P np lv st h) : AW M P pc lv (vi a :: st) h := by
  intro l p e s m args below meth c G A C hl hs hw H locs ls hP hD hS hv
  obtain ⟨d1, rfl, d3, d4⟩ := ok_at C.2.2.2.2.2.2.2.2.1 hd
  obtain ⟨r1, hs⟩ := rg_c hs
  exact lv_if_lt C.1 C.2.1 d1 (d4 _ rfl) (fun q => k1 ((c3_lt r1 c0_3).mp q) l p e s m args below meth c G A C hl hs hw H locs ls hP hD hS hv) (fun q => k2 ((not_congr (c3_lt r1 c0_3)).mp q) l p e s m args below meth c G A C hl hs hw H locs ls hP hD hS hv)

theorem a_if_ge {a o : Int} (hd : (tb M)[k]? = some (pc, .ifCond .ge o, 3, np, tg)) (k1 : 0 ≤ a → AW M P tg lv st h) (k2 : ¬ 0 ≤ a → AW M P np lv st h) : AW M P pc lv (vi a :: st) h := by
  intro l p e s m args below meth c G A C hl hs hw H locs ls hP hD hS hv
  obtain ⟨d1, rfl, d3, d4⟩ := ok_at C.2.2.2.2.2.2.2.2.1 hd
  obtain ⟨r1, hs⟩ := rg_c hs
  exact lv_if_ge C.1 C.2.1 d1 (d4 _ rfl) (fun q => k1 ((c3_le c0_3 r1).mp q) l p e s m args below meth c G A C hl hs hw H locs ls hP hD hS hv) (fun q => k2 ((not_congr (c3_le c0_3 r1)).mp q) l p e s m args below meth c G A C hl hs hw H locs ls hP hD hS hv)

theorem a_if_gt {a o : Int} (hd : (tb M)[k]? = some (pc, .ifCond .gt o, 3, np, tg)) (k1 : 0 < a → AW M P tg lv st h) (k2 : ¬ 0 < a → AW M P np lv st h) : AW M P pc lv (vi a :: st) h := by
  intro l p e s m args below meth c G A C hl hs hw H locs ls hP hD hS hv
  obtain ⟨d1, rfl, d3, d4⟩ := ok_at C.2.2.2.2.2.2.2.2.1 hd
  obtain ⟨r1, hs⟩ := rg_c hs
  exact lv_if_gt C.1 C.2.1 d1 (d4 _ rfl) (fun q => k1 ((c3_lt c0_3 r1).mp q) l p e s m args below meth c G A C hl hs hw H locs ls hP hD hS hv) (fun q => k2 ((not_congr (c3_lt c0_3 r1)).mp q) l p e s m args below meth c G A C hl hs hw H locs ls hP hD hS hv)

theorem a_if_le {a o : Int} (hd : (tb M)[k]? = some (pc, .ifCond .le o, 3, np, tg)) (k1 : a ≤ 0 → AW M P tg lv st h) (k2 : ¬ a ≤ 0 → AW M P np lv st h) : AW M P pc lv (vi a :: st) h := by
  intro l p e s m args below meth c G A C hl hs hw H locs ls hP hD hS hv
  obtain ⟨d1, rfl, d3, d4⟩ := ok_at C.2.2.2.2.2.2.2.2.1 hd
  obtain ⟨r1, hs⟩ := rg_c hs
  exact lv_if_le C.1 C.2.1 d1 (d4 _ rfl) (fun q => k1 ((c3_le r1 c0_3).mp q) l p e s m args below meth c G A C hl hs hw H locs ls hP hD hS hv) (fun q => k2 ((not_congr (c3_le r1 c0_3)).mp q) l p e s m args below meth c G A C hl hs hw H locs ls hP hD hS hv)

theorem a_nullR {t i : Nat} {o : Int} (hd : (tb M)[k]? = some (pc, .ifnull o, 3, np, tg)) (kk : AW M P np lv st h) : AW M P pc lv (vr t i :: st) h := by
  intro l p e s m args below meth c G A C hl hs hw H locs ls hP hD hS hv
  obtain ⟨d1, rfl, d3, d4⟩ := ok_at C.2.2.2.2.2.2.2.2.1 hd
  refine lv_ifnull C.1 C.2.1 d1 ?_
  exact kk l p e s m args below meth c G A C hl (rg_c hs).2 hw H locs ls hP hD hS hv

theorem a_nullN {o : Int} (hd : (tb M)[k]? = some (pc, .ifnull o, 3, np, tg)) (kk : AW M P tg lv st h) : AW M P pc lv (vn :: st) h := by
  intro l p e s m args below meth c G A C hl hs hw H locs ls hP hD hS hv
  obtain ⟨d1, rfl, d3, d4⟩ := ok_at C.2.2.2.2.2.2.2.2.1 hd
  refine lv_ifnullN C.1 C.2.1 d1 (d4 _ rfl) ?_
  exact kk l p e s m args below meth c G A C hl (rg_c hs).2 hw H locs ls hP hD hS hv

theorem a_nonnullR {t i : Nat} {o : Int} (hd : (tb M)[k]? = some (pc, .ifnonnull o, 3, np, tg)) (kk : AW M P tg lv st h) : AW M P pc lv (vr t i :: st) h := by
  intro l p e s m args below meth c G A C hl hs hw H locs ls hP hD hS hv
  obtain ⟨d1, rfl, d3, d4⟩ := ok_at C.2.2.2.2.2.2.2.2.1 hd
  refine lv_ifnonnull C.1 C.2.1 d1 (d4 _ rfl) ?_
  exact kk l p e s m args below meth c G A C hl (rg_c hs).2 hw H locs ls hP hD hS hv

theorem a_nonnullN {o : Int} (hd : (tb M)[k]? = some (pc, .ifnonnull o, 3, np, tg)) (kk : AW M P np lv st h) : AW M P pc lv (vn :: st) h := by
  intro l p e s m args below meth c G A C hl hs hw H locs ls hP hD hS hv
  obtain ⟨d1, rfl, d3, d4⟩ := ok_at C.2.2.2.2.2.2.2.2.1 hd
  refine lv_ifnonnullN C.1 C.2.1 d1 ?_
  exact kk l p e s m args below meth c G A C hl (rg_c hs).2 hw H locs ls hP hD hS hv

theorem a_tabIn {a dflt lo hi o : Int} {offs : Array Int} {n t : Nat} (hd : (tb M)[k]? = some (pc, .tableswitch dflt lo hi offs, n, np, tg)) (h1 : ¬ a < lo) (h2 : ¬ hi < a) (ho : offs[(a - lo).toNat]? = some o) (ht : (pc : Int) + o = (t : Int)) (kk : AW M P t lv st h) : AW M P pc lv (vi a :: st) h := by
  intro l p e s m args below meth c G A C hl hs hw H locs ls hP hD hS hv
  obtain ⟨d1, rfl, d3, d4⟩ := ok_at C.2.2.2.2.2.2.2.2.1 hd
  obtain ⟨r1, hs⟩ := rg_c hs
  refine lv_tableIn C.1 C.2.1 d1 (by rw [to3 r1]; exact h1) (by rw [to3 r1]; exact h2) (by rw [to3 r1]; exact ho) ht ?_
  exact kk l p e s m args below meth c G A C hl hs hw H locs ls hP hD hS hv
theorem a_tabOut {a dflt lo hi : Int} {offs : Array Int} {n t : Nat} (hd : (tb M)[k]? = some (pc, .tableswitch dflt lo hi offs, n, np, tg)) (h1 : a < lo ∨ hi < a) (ht : (pc : Int) + dflt = (t : Int)) (kk : AW M P t lv st h) : AW M P pc lv (vi a :: st) h := by
  intro l p e s m args below meth c G A C hl hs hw H locs ls hP hD hS hv
  obtain ⟨d1, rfl, d3, d4⟩ := ok_at C.2.2.2.2.2.2.2.2.1 hd
  obtain ⟨r1, hs⟩ := rg_c hs
  refine lv_tableOut C.1 C.2.1 d1 (by rw [to3 r1]; exact h1) ht ?_
  exact kk l p e s m args below meth c G A C hl hs hw H locs ls hP hD hS hv
/-- fewer locals, by their places -/
theorem a_sub {lv' : LV} (ks : List Nat) (hk : ks.filterMap (fun j => lv[j]?) = lv') (kk : AW M P pc lv' st h) : AW M P pc lv st h := by
  intro l p e s m args below meth c G A C hl hs hw H locs ls hP hD hS hv
  subst hk
  refine kk l p e s m args below meth c G A C (fun q hq => ?_) hs hw H locs ls hP hD hS ⟨hv.1, hv.2.1, fun q hq => ?_⟩
  · obtain ⟨j, -, hj⟩ := List.mem_filterMap.mp hq
    exact hl q (List.mem_of_getElem? hj)
  · obtain ⟨r, hr, rfl⟩ := List.mem_map.mp hq
    obtain ⟨j, -, hj⟩ := List.mem_filterMap.mp hr
    exact hv.2.2 _ (List.mem_map.mpr ⟨r, List.mem_of_getElem? hj, rfl⟩)
/-- what is known of all numbers -/
theorem a_know (kk : (∀ q ∈ lv, rg q.2) → (∀ v ∈ st, rg v) → HW h → AW M P pc lv st h) : AW M P pc lv st h := fun l p e s m args below meth c G A C hl hs hw => kk hl hs hw l p e s m args below meth c G A C hl hs hw
theorem a_eq {pc' : Nat} {lv' : LV} {st' : List AV} {h' : HH} (kk : AW M P pc' lv' st' h') (e1 : pc' = pc) (e2 : lv' = lv) (e3 : st' = st) (e4 : h' = h) : AW M P pc lv st h := by
  subst e1 e2 e3 e4; exact kk
end AWR
