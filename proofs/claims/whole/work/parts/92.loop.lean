/-! the law's loop -/
theorem sub4 {L i : Nat} (hL : L ≤ 256) (hi : i ≤ L) (h : ¬ nI L - 4 < nI i) : i + 4 ≤ L := by
  rw [Int32.lt_iff_toInt_lt, Int32.toInt_sub, nI_toInt (by omega), nI_toInt (by omega), show (4 : Int32).toInt = 4 from rfl, Int.bmod_eq_of_le (by omega) (by omega)] at h
  omega
theorem and31 (x : Int32) : ∃ j : Nat, j < 32 ∧ (x &&& 31).toInt = (j : Int) := by
  have h : (x.toBitVec &&& 31#32).toNat < 32 := by
    rw [BitVec.toNat_and]
    exact Nat.and_lt_two_pow (n := 5) _ (by decide)
  refine ⟨(x.toBitVec &&& 31#32).toNat, h, ?_⟩
  show (x.toBitVec &&& 31#32).toInt = _
  rw [BitVec.toInt_eq_toNat_of_lt (by omega)]
theorem law_loop {L : Nat} {xs : Nat → Int32} (hL : L ≤ 256) : ∀ (n i B : Nat) (σ : AS) (h : HH), i ≤ L → L + 1 ≤ i + n → 99 ≤ B → B ≤ 99 + i → WA B σ → CR σ h → MR σ h → LJ L xs i 18 [] h := by
  intro n
  induction n with
  | zero =>
    intro i B σ h h1 h2
    exact absurd h2 (by omega)
  | succ n ih =>
    intro i B σ h hi hin hB hB2 hW hC hM p l e s m below meth c b G H locs ls C0 hK hs hw hP hD hS hl
    obtain ⟨d18, -, -, -⟩ := ok_at (k := 10) kL_h rfl
    obtain ⟨d19, -, -, -⟩ := ok_at (k := 11) kL_h rfl
    obtain ⟨d20, -, -, -⟩ := ok_at (k := 12) kL_h rfl
    obtain ⟨d21, -, -, -⟩ := ok_at (k := 13) kL_h rfl
    obtain ⟨d22, -, -, -⟩ := ok_at (k := 14) kL_h rfl
    obtain ⟨d23, -, -, -⟩ := ok_at (k := 15) kL_h rfl
    obtain ⟨d26, -, -, -⟩ := ok_at (k := 16) kL_h rfl
    obtain ⟨d27, -, -, -⟩ := ok_at (k := 17) kL_h rfl
    obtain ⟨d28, -, -, -⟩ := ok_at (k := 18) kL_h rfl
    obtain ⟨d29, -, -, -⟩ := ok_at (k := 19) kL_h rfl
    obtain ⟨d31, -, -, -⟩ := ok_at (k := 20) kL_h rfl
    obtain ⟨d32, -, -, -⟩ := ok_at (k := 21) kL_h rfl
    obtain ⟨d1030, -, -, -⟩ := ok_at (k := 0) kL_e rfl
    obtain ⟨d1033, -, -, -⟩ := ok_at (k := 1) kL_e rfl
    obtain ⟨d1036, -, -, -⟩ := ok_at (k := 2) kL_e rfl
    obtain ⟨d1037, -, -, -⟩ := ok_at (k := 3) kL_e rfl
    obtain ⟨hx, hb, hr, hml, hown, hts, hX, hbl, hlocks, hgv⟩ := id C0
    have hbA : ¬ (fun q : Nat => s.heap.size ≤ q) b := Nat.not_le.mpr hbl
    refine lv_iload_n hx hb d18 rfl (lv_at hl 3 rfl) ?_
    refine lv_aload_n hx hb d19 rfl (lv_at hl 0 rfl) ?_
    refine va_slen hx hb hX hbl hbA hS d20 ?_
    refine lv_iconst (v := 4) hx hb d21 rfl ?_
    refine lv_isub hx hb d22 ?_
    refine lv_icmp_gt (tgt := 1036) hx hb d23 (by decide) (fun q => ?_) (fun q => ?_)
    · refine lv_iconst (v := 1) hx hb d1036 rfl ?_
      refine va_forget (fun q hq => hS.2.2 q hq) ?_
      exact lw_ret hx hb hr hlocks d1037
    · have hi4 : i + 4 ≤ L := sub4 hL hi q
      refine lv_aload_n hx hb d26 rfl (lv_at hl 0 rfl) ?_
      refine lv_iload_n hx hb d27 rfl (lv_at hl 3 rfl) ?_
      refine va_sld hx hb hX hbl hbA hS (vp_in_nI (show i < L by omega) (by omega)) d28 ?_
      refine lv_bipush (v := 31) hx hb d29 rfl ?_
      refine lv_iand hx hb d31 ?_
      have K : ∀ (g : HH) (B1 : Nat) (σ1 : AS), 99 ≤ B1 → B1 ≤ B + 1 → WA B1 σ1 → CR σ1 g → MR σ1 g → LJ L xs i 1030 [] g := by
        intro g B1 σ1 b1 b2 hW1 hC1 hM1 p l e s m below meth c b G H locs ls C0 hK hs hw hP hD hS hl
        obtain ⟨hx, hb, -⟩ := id C0
        refine lv_iinc (v := nI (i + 4)) (lv' := [(3, .int (nI (i + 4))), (0, .ref b), (1, .ref (G.2.2 0 0)), (2, .ref (G.2.2 40 0))]) hx hb d1030 hl (k := 3) rfl (nI_add i 4) (by decide) rfl (fun ls hl => ?_)
        refine lv_goto (tgt := 18) hx hb d1033 (by decide) ?_
        exact ih (i + 4) B1 σ1 g hi4 (by omega) b1 (by omega) hW1 hC1 hM1 p l e s m below meth c b G H locs ls C0 hK hs hw hP hD hS (lv_sub hl [1, 2, 3, 0] rfl)
      obtain ⟨j, hj, ej⟩ := and31 (xs (nI i).toNatClampNeg)
      by_cases h30 : j < 30
      · have go : ∀ tgt : Nat, (∃ off : Int, (#[136, 159, 172, 185, 208, 241, 274, 307, 350, 409, 442, 465, 488, 511, 544, 603, 626, 639, 672, 705, 738, 771, 804, 837, 870, 903, 916, 929, 952, 975] : Array Int)[j]? = some off ∧ (32 : Int) + off = (tgt : Int)) → LJ L xs i tgt [] h → W p l e room_1 s m #[Value.ref b] below meth c H locs 600000 7302250 (lw_Z below #[Value.ref b] s) (F0 m 32 ls [.int (xs (nI i).toNatClampNeg &&& 31)]) := by
          intro tgt ⟨off, ho, ht⟩ kk
          refine lv_tableIn (off := off) (tgt := tgt) hx hb d32 (by rw [ej]; omega) (by rw [ej]; omega) (by rw [ej]; simpa using ho) ht ?_
          exact kk p l e s m below meth c b G H locs ls C0 hK hs hw hP hD hS hl
        match j, h30, go with
        | 0, _, go => exact go 168 ⟨_, rfl, by decide⟩ (q_feed K hL hi4 hB hB2 hW hC hM)
        | 1, _, go => exact go 191 ⟨_, rfl, by decide⟩ (q_tray K hL hi4 hB hB2 hW hC hM)
        | 2, _, go => exact go 204 ⟨_, rfl, by decide⟩ (q_fault K hL hi4 hB hB2 hW hC hM)
        | 3, _, go => exact go 217 ⟨_, rfl, by decide⟩ (q_told K hL hi4 hB hB2 hW hC hM)
        | 4, _, go => exact go 240 ⟨_, rfl, by decide⟩ (q_pretzel K hL hi4 hB hB2 hW hC hM)
        | 5, _, go => exact go 273 ⟨_, rfl, by decide⟩ (q_pass K hL hi4 hB hB2 hW hC hM)
        | 6, _, go => exact go 306 ⟨_, rfl, by decide⟩ (q_moves K hL hi4 hB hB2 hW hC hM)
        | 7, _, go => exact go 339 ⟨_, rfl, by decide⟩ (q_shake K hL hi4 hB hB2 hW hC hM)
        | 8, _, go => exact go 382 ⟨_, rfl, by decide⟩ (q_curl K hL hi4 hB hB2 hW hC hM)
        | 9, _, go => exact go 441 ⟨_, rfl, by decide⟩ (q_turn K hL hi4 hB hB2 hW hC hM)
        | 10, _, go => exact go 474 ⟨_, rfl, by decide⟩ (q_reverse K hL hi4 hB hB2 hW hC hM)
        | 11, _, go => exact go 497 ⟨_, rfl, by decide⟩ (q_mirror K hL hi4 hB hB2 hW hC hM)
        | 12, _, go => exact go 520 ⟨_, rfl, by decide⟩ (q_roll K hL hi4 hB hB2 hW hC hM)
        | 13, _, go => exact go 543 ⟨_, rfl, by decide⟩ (q_join K hL hi4 hB hB2 hW hC hM)
        | 14, _, go => exact go 576 ⟨_, rfl, by decide⟩ (q_salt K hL hi4 hB hB2 hW hC hM)
        | 15, _, go => exact go 635 ⟨_, rfl, by decide⟩ (q_drift K hL hi4 hB hB2 hW hC hM)
        | 16, _, go => exact go 658 ⟨_, rfl, by decide⟩ (q_undo K hL hi4 hB hB2 hW hC hM)
        | 17, _, go => exact go 671 ⟨_, rfl, by decide⟩ (q_toShake K hL hi4 hB hB2 hW hC hM)
        | 18, _, go => exact go 704 ⟨_, rfl, by decide⟩ (q_within K hL hi4 hB hB2 hW hC hM)
        | 19, _, go => exact go 737 ⟨_, rfl, by decide⟩ (q_same K hL hi4 hB hB2 hW hC hM)
        | 20, _, go => exact go 770 ⟨_, rfl, by decide⟩ (q_tells K hL hi4 hB hB2 hW hC hM)
        | 21, _, go => exact go 803 ⟨_, rfl, by decide⟩ (q_words K hL hi4 hB hB2 hW hC hM)
        | 22, _, go => exact go 836 ⟨_, rfl, by decide⟩ (q_colour K hL hi4 hB hB2 hW hC hM)
        | 23, _, go => exact go 869 ⟨_, rfl, by decide⟩ (q_whole K hL hi4 hB hB2 hW hC hM)
        | 24, _, go => exact go 902 ⟨_, rfl, by decide⟩ (q_write K hL hi4 hB hB2 hW hC hM)
        | 25, _, go => exact go 935 ⟨_, rfl, by decide⟩ (q_tear K hL hi4 hB hB2 hW hC hM)
        | 26, _, go => exact go 948 ⟨_, rfl, by decide⟩ (q_judge K hL hi4 hB hB2 hW hC hM)
        | 27, _, go => exact go 961 ⟨_, rfl, by decide⟩ (q_seed K hL hi4 hB hB2 hW hC hM)
        | 28, _, go => exact go 984 ⟨_, rfl, by decide⟩ (q_keep K hL hi4 hB hB2 hW hC hM)
        | 29, _, go => exact go 1007 ⟨_, rfl, by decide⟩ (q_goBack K hL hi4 hB hB2 hW hC hM)
        | j + 30, h, _ => exact absurd h (by omega)
      · refine lv_tableOut (tgt := 1030) hx hb d32 (Or.inr (by rw [ej]; omega)) (by decide) ?_
        exact K h B σ hB (by omega) hW hC hM p l e s m below meth c b G H locs ls C0 hK hs hw hP hD hS hl
