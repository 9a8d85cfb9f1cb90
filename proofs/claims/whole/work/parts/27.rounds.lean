/-! Rounds -/
def ps (n : Nat) (b : Bool) (q : Nat) : Nat → Nat
  | 0 => q
  | i + 1 => if b then (if ps n b q i = 0 then n - 1 else ps n b q i - 1) else (if ps n b q i + 1 = n then 0 else ps n b q i + 1)
theorem ps_s (n : Nat) (b : Bool) (q i : Nat) : ps n b q (i + 1) = if b then (if ps n b q i = 0 then n - 1 else ps n b q i - 1) else (if ps n b q i + 1 = n then 0 else ps n b q i + 1) := rfl
theorem ps_lt {n : Nat} {b : Bool} {q : Nat} (hq : q < n) : ∀ i, ps n b q i < n
  | 0 => hq
  | i + 1 => by
    have := ps_lt (b := b) hq i
    unfold ps
    split <;> split <;> omega
def gq (f : Nat → Nat) (n : Nat) (b : Bool) (q i : Nat) : Nat := f (ps n b q i)
def ga (f : Nat → Nat) (n : Nat) (b : Bool) (q fl i : Nat) : Nat := 2 * cr (gq f n b q) i + (gq f n b q i % 2 ^^^ fl)
theorem xor01 : ∀ a, a < 2 → ∀ b, b < 2 → a ^^^ b < 2 := by decide
def trn : List (Nat × Nat) := [(1, 0), (2, 0), (32, 0)]
theorem x_goAlong (j c s q fl : Nat) (b : Bool) (f : Nat → Nat) (h : HH) (hR : RP j c f s h) (hq : q < 2 * c) (hfl : fl < 2) :
    Sp mX7_goAlong [vr 31 0, vr 5 j, vi q, vi (b01 b), vi fl] h (fun r g => r = none ∧ (∀ i, i < 2 * c → g 32 0 i = (ga f (2 * c) b q fl i : Int)) ∧ Fr trn [] h g) := by
  refine Sp.of rfl kX7_goAlong (Nat.le_of_ble_eq_true rfl) ?_
  have L : ∀ (m n : Nat) (g : HH), n + m = 2 * c → NM 0 (gq f (2 * c) b q) n g → (∀ i, i < n → g 32 0 i = (ga f (2 * c) b q fl i : Int)) → Fr trn [] h g → AW mX7_goAlong (fun r g => r = none ∧ (∀ i, i < 2 * c → g 32 0 i = (ga f (2 * c) b q fl i : Int)) ∧ Fr trn [] h g) 19 [(0, vr 31 0), (1, vr 5 j), (3, vi (b01 b)), (4, vi fl), (5, vi ((2 * c : Nat) : Int)), (6, vi (ps (2 * c) b q n)), (7, vi n)] [] g := by
    intro m
    induction m with
    | zero =>
      intro n g hn hN hp hF
      have hn : n = 2 * c := by omega
      subst hn
      refine u_iload (k := 10) rfl rfl ?_
      refine u_iload (k := 11) rfl rfl ?_
      refine a_icmp_ge (k := 12) rfl (fun c_23 => ?_) (fun c_23 => ?_)
      · refine a_return (k := 60) rfl rfl ?_
        exact ⟨rfl, hp, hF⟩
      · omega
    | succ m ih =>
      intro n g hn hN hp hF
      have hR' : RP j c f s g := hR.fr hF (by simp [trn]) (by simp [trn]) (by simp) (by simp)
      obtain ⟨r1, r2, r3, r4, r5, r6⟩ := hR'
      have hps := ps_lt (b := b) hq n
      have hfn := r6 _ hps
      have e8 : f (ps (2 * c) b q n) / 2 % 8 = gq f (2 * c) b q n / 2 := by unfold gq; omega
      have epa : (if (0 : Int) ≤ (ps (2 * c) b q n : Int) ∧ (ps (2 * c) b q n : Int) < 2 * (c : Int) then g 6 j (ps (2 * c) b q n : Int).toNat else -1) = (f (ps (2 * c) b q n) : Int) := by
        rw [if_pos (by omega), Int.toNat_natCast, r5 _ hps]
      have hcr := cr_lt (f := gq f (2 * c) b q) n
      have hx2 := xor01 (f (ps (2 * c) b q n) % 2) (by omega) fl hfl
      have nxt : ∀ (g2 : HH) (p2 : Int), NM 0 (gq f (2 * c) b q) (n + 1) g2 → g2 32 0 n = (ga f (2 * c) b q fl n : Int) → (∀ i, i < n → g2 32 0 i = g 32 0 i) → Fr trn [] h g2 → p2 = (ps (2 * c) b q (n + 1) : Int) → AW mX7_goAlong (fun r g => r = none ∧ (∀ i, i < 2 * c → g 32 0 i = (ga f (2 * c) b q fl i : Int)) ∧ Fr trn [] h g) 107 [(0, vr 31 0), (1, vr 5 j), (3, vi (b01 b)), (4, vi fl), (5, vi ((2 * c : Nat) : Int)), (6, vi p2), (7, vi n)] [] g2 := by
        intro g2 p2 hN2 hn2 hk2 hF2 hp2
        subst hp2
        refine u_iinc (k := 58) (lv' := [(7, _), (0, _), (1, _), (3, _), (4, _), (5, _), (6, _)]) rfl rfl (Nat.le_of_ble_eq_true rfl) (by omega) rfl ?_
        refine a_goto (k := 59) rfl ?_
        refine a_sub [1, 2, 3, 4, 5, 6, 0] rfl ?_
        exact ih (n + 1) g2 (by omega) hN2 (fun i hi => by by_cases he : i = n; (subst he; exact hn2); (rw [hk2 i (by omega)]; exact hp i (by omega))) hF2
      refine u_iload (k := 10) rfl rfl ?_
      refine u_iload (k := 11) rfl rfl ?_
      refine a_icmp_ge (k := 12) rfl (fun c_23 => ?_) (fun c_23 => ?_)
      · omega
      · refine u_aloadn (k := 13) rfl rfl ?_
        refine u_iload (k := 14) rfl rfl ?_
        refine i_virt1 (M' := mX6_passAt) (k := 15) rfl lRX7_58 oX6_passAt vX6_passAt ⟨Nat.le_of_ble_eq_true rfl, Nat.le_of_ble_eq_true rfl⟩ rfl rfl (Nat.le_of_ble_eq_true rfl) (x_passAt j c _ g r1 r2) ?_
        rw [epa]
        refine a_istore (k := 16) (lv' := [(8, _), (0, _), (1, _), (3, _), (4, _), (5, _), (6, _), (7, _)]) rfl (Nat.le_of_ble_eq_true rfl) rfl ?_
        refine u_aloadn (k := 17) rfl rfl ?_
        refine a_getr (k := 18) rfl fRX7_15 rfl rfl rfl ?_
        refine u_iload (k := 19) rfl rfl ?_
        refine a_iconst (k := 20) rfl ?_
        refine u_aloadn (k := 21) rfl rfl ?_
        refine a_getr (k := 22) rfl fRX7_9 rfl rfl rfl ?_
        refine u_iload (k := 23) rfl rfl ?_
        refine i_statN1 (M' := mX10_crossingOf) (k := 24) rfl lRX7_62 oX10_crossingOf vX10_crossingOf ⟨Nat.le_of_ble_eq_true rfl, Nat.le_of_ble_eq_true rfl⟩ rfl (Nat.le_of_ble_eq_true rfl) (x_crossingOf (f (ps (2 * c) b q n)) g (by omega)) ?_
        rw [e8]
        refine ui_virt1 (M' := mX4_numberOf) (k := 25) rfl lRX7_65 oX4_numberOf vX4_numberOf ⟨Nat.le_of_ble_eq_true rfl, Nat.le_of_ble_eq_true rfl⟩ rfl rfl (Nat.le_of_ble_eq_true rfl) (x_numberOf 0 (gq f (2 * c) b q) n g hN (by unfold gq; omega) (by omega)) (by intro r g hp; exact ⟨_, hp.1⟩) (fun r g1 hg1 => ?_)
        obtain ⟨e1, hN1, hF1⟩ := hg1; cases e1
        refine u_imul (k := 26) rfl (by omega) ?_
        refine u_iload (k := 27) rfl rfl ?_
        refine a_iconst (k := 28) rfl ?_
        refine a_iand (k := 29) rfl ?_
        rw [iand1 (by omega)]
        refine u_iload (k := 30) rfl rfl ?_
        refine a_ixor (k := 31) rfl ?_
        rw [ixor_nat (by omega) (by omega)]
        refine u_iadd (k := 32) rfl (by omega) ?_
        refine u_iast (k := 33) rfl rfl rfl (by omega) ?_
        refine u_iloadn (k := 34) rfl rfl ?_
        refine a_if_eq (k := 35) rfl (fun c_64 => ?_) (fun c_64 => ?_)
        · have hb : b = false := by cases b <;> simp_all [b01]
          refine u_iload (k := 47) rfl rfl ?_
          refine a_iconst (k := 48) rfl ?_
          refine u_iadd (k := 49) rfl (by omega) ?_
          refine u_iload (k := 50) rfl rfl ?_
          refine a_icmp_ne (k := 51) rfl (fun c_94 => ?_) (fun c_94 => ?_)
          · refine u_iload (k := 54) rfl rfl ?_
            refine a_iconst (k := 55) rfl ?_
            refine u_iadd (k := 56) rfl (by omega) ?_
            refine a_istore (k := 57) (lv' := [(6, _), (8, _), (0, _), (1, _), (3, _), (4, _), (5, _), (7, _)]) rfl (Nat.le_of_ble_eq_true rfl) rfl ?_
            refine a_sub [2, 3, 4, 5, 6, 0, 7] rfl ?_
            refine nxt _ _ (hN1.keep (fun k => by simp only [put_apply, Nat.reduceEqDiff, reduceIte, false_and, and_false, true_and, and_true, and_self, if_false, if_true, not_false_eq_true, not_true_eq_false, ne_eq]) (fun k => by simp only [put_apply, Nat.reduceEqDiff, reduceIte, false_and, and_false, true_and, and_true, and_self, if_false, if_true, not_false_eq_true, not_true_eq_false, ne_eq])) (by rw [put_eq, ga]; unfold gq; push_cast; rfl) (fun i hi => by rw [put_ne (by simp; omega), hF1 32 0 i (by simp) (by simp)]) ((hF.tr hF1 (by simp [trn]) (by simp)).p1 (by simp [trn])) ?_
            rw [ps_s]
            first | (rw [if_pos hb]; split <;> omega) | (rw [if_neg (by rw [hb]; decide)]; split <;> omega)
          · refine a_iconst (k := 52) rfl ?_
            refine a_goto (k := 53) rfl ?_
            refine a_istore (k := 57) (lv' := [(6, _), (8, _), (0, _), (1, _), (3, _), (4, _), (5, _), (7, _)]) rfl (Nat.le_of_ble_eq_true rfl) rfl ?_
            refine a_sub [2, 3, 4, 5, 6, 0, 7] rfl ?_
            refine nxt _ _ (hN1.keep (fun k => by simp only [put_apply, Nat.reduceEqDiff, reduceIte, false_and, and_false, true_and, and_true, and_self, if_false, if_true, not_false_eq_true, not_true_eq_false, ne_eq]) (fun k => by simp only [put_apply, Nat.reduceEqDiff, reduceIte, false_and, and_false, true_and, and_true, and_self, if_false, if_true, not_false_eq_true, not_true_eq_false, ne_eq])) (by rw [put_eq, ga]; unfold gq; push_cast; rfl) (fun i hi => by rw [put_ne (by simp; omega), hF1 32 0 i (by simp) (by simp)]) ((hF.tr hF1 (by simp [trn]) (by simp)).p1 (by simp [trn])) ?_
            rw [ps_s]
            first | (rw [if_pos hb]; split <;> omega) | (rw [if_neg (by rw [hb]; decide)]; split <;> omega)
        · have hb : b = true := by cases b <;> simp_all [b01]
          refine u_iload (k := 36) rfl rfl ?_
          refine a_if_ne (k := 37) rfl (fun c_69 => ?_) (fun c_69 => ?_)
          · refine u_iload (k := 42) rfl rfl ?_
            refine a_iconst (k := 43) rfl ?_
            refine u_isub (k := 44) rfl (by omega) ?_
            refine a_istore (k := 45) (lv' := [(6, _), (8, _), (0, _), (1, _), (3, _), (4, _), (5, _), (7, _)]) rfl (Nat.le_of_ble_eq_true rfl) rfl ?_
            refine a_goto (k := 46) rfl ?_
            refine a_sub [2, 3, 4, 5, 6, 0, 7] rfl ?_
            refine nxt _ _ (hN1.keep (fun k => by simp only [put_apply, Nat.reduceEqDiff, reduceIte, false_and, and_false, true_and, and_true, and_self, if_false, if_true, not_false_eq_true, not_true_eq_false, ne_eq]) (fun k => by simp only [put_apply, Nat.reduceEqDiff, reduceIte, false_and, and_false, true_and, and_true, and_self, if_false, if_true, not_false_eq_true, not_true_eq_false, ne_eq])) (by rw [put_eq, ga]; unfold gq; push_cast; rfl) (fun i hi => by rw [put_ne (by simp; omega), hF1 32 0 i (by simp) (by simp)]) ((hF.tr hF1 (by simp [trn]) (by simp)).p1 (by simp [trn])) ?_
            rw [ps_s]
            first | (rw [if_pos hb]; split <;> omega) | (rw [if_neg (by rw [hb]; decide)]; split <;> omega)
          · refine u_iload (k := 38) rfl rfl ?_
            refine a_iconst (k := 39) rfl ?_
            refine u_isub (k := 40) rfl (by omega) ?_
            refine a_goto (k := 41) rfl ?_
            refine a_istore (k := 45) (lv' := [(6, _), (8, _), (0, _), (1, _), (3, _), (4, _), (5, _), (7, _)]) rfl (Nat.le_of_ble_eq_true rfl) rfl ?_
            refine a_goto (k := 46) rfl ?_
            refine a_sub [2, 3, 4, 5, 6, 0, 7] rfl ?_
            refine nxt _ _ (hN1.keep (fun k => by simp only [put_apply, Nat.reduceEqDiff, reduceIte, false_and, and_false, true_and, and_true, and_self, if_false, if_true, not_false_eq_true, not_true_eq_false, ne_eq]) (fun k => by simp only [put_apply, Nat.reduceEqDiff, reduceIte, false_and, and_false, true_and, and_true, and_self, if_false, if_true, not_false_eq_true, not_true_eq_false, ne_eq])) (by rw [put_eq, ga]; unfold gq; push_cast; rfl) (fun i hi => by rw [put_ne (by simp; omega), hF1 32 0 i (by simp) (by simp)]) ((hF.tr hF1 (by simp [trn]) (by simp)).p1 (by simp [trn])) ?_
            rw [ps_s]
            first | (rw [if_pos hb]; split <;> omega) | (rw [if_neg (by rw [hb]; decide)]; split <;> omega)
  refine u_aloadn (k := 0) rfl rfl ?_
  refine i_virt0 (M' := mX6_length) (k := 1) rfl lRX7_32 oX6_length vX6_length ⟨Nat.le_of_ble_eq_true rfl, Nat.le_of_ble_eq_true rfl⟩ rfl rfl (Nat.le_of_ble_eq_true rfl) (x_length j c h hR.1 hR.2.1) ?_
  refine a_istore (k := 2) (lv' := [(5, _), (0, _), (1, _), (2, _), (3, _), (4, _)]) rfl (Nat.le_of_ble_eq_true rfl) rfl ?_
  refine u_iloadn (k := 3) rfl rfl ?_
  refine a_istore (k := 4) (lv' := [(6, _), (5, _), (0, _), (1, _), (2, _), (3, _), (4, _)]) rfl (Nat.le_of_ble_eq_true rfl) rfl ?_
  refine u_aloadn (k := 5) rfl rfl ?_
  refine a_getr (k := 6) rfl fRX7_9 rfl rfl rfl ?_
  refine v_virt0 (M' := mX4_begin) (k := 7) rfl lRX7_53 oX4_begin vX4_begin ⟨Nat.le_of_ble_eq_true rfl, Nat.le_of_ble_eq_true rfl⟩ rfl rfl (Nat.le_of_ble_eq_true rfl) (x_begin 0 h) ?_
  refine a_iconst (k := 8) rfl ?_
  refine a_istore (k := 9) (lv' := [(7, _), (6, _), (5, _), (0, _), (1, _), (2, _), (3, _), (4, _)]) rfl (Nat.le_of_ble_eq_true rfl) rfl ?_
  refine a_sub [3, 4, 6, 7, 2, 1, 0] rfl ?_
  exact L (2 * c) 0 _ (by omega) (NM.zero (by simp only [put_apply, Nat.reduceEqDiff, reduceIte, false_and, and_false, true_and, and_true, and_self, if_false, if_true, not_false_eq_true, not_true_eq_false, ne_eq]) (by simp only [put_apply, Nat.reduceEqDiff, reduceIte, false_and, and_false, true_and, and_true, and_self, if_false, if_true, not_false_eq_true, not_true_eq_false, ne_eq])) (fun i hi => absurd hi (Nat.not_lt_zero i)) ((Fr.rf.p1 (by simp [trn])).p1 (by simp [trn]))
/-- number by number -/
def cmpL (A B : Nat → Int) : Nat → Nat → Int
  | 0, _ => 0
  | m + 1, i => if A i = B i then cmpL A B m (i + 1) else if A i < B i then -1 else 1
theorem x_compare (t i n : Nat) (A B : Nat → Int) (h : HH) (ho : ko t = none) (hk : ka t = some (0, 16)) (hn : n ≤ 16) (hA : ∀ q, q < n → h 32 0 q = A q) (hB : ∀ q, q < n → h t i q = B q) : SpI mX7_compare [vr 32 0, vr t i, vi n] h (cmpL A B n 0) h := by
  refine Sp.of rfl kX7_compare (Nat.le_of_ble_eq_true rfl) ?_
  have L : ∀ (m q : Nat), q + m = n → AW mX7_compare (fun r g => r = some (vi (cmpL A B n 0)) ∧ g = h) 2 [(0, vr 32 0), (1, vr t i), (2, vi n), (3, vi q)] [] h → True := fun _ _ _ _ => trivial
  have L : ∀ (m q : Nat), q + m = n → cmpL A B n 0 = cmpL A B m q → AW mX7_compare (fun r g => r = some (vi (cmpL A B n 0)) ∧ g = h) 2 [(0, vr 32 0), (1, vr t i), (2, vi n), (3, vi q)] [] h := by
    intro m
    induction m with
    | zero =>
      intro q hq he
      refine u_iloadn (k := 2) rfl rfl ?_
      refine u_iloadn (k := 3) rfl rfl ?_
      refine a_icmp_ge (k := 4) rfl (fun c_4 => ?_) (fun c_4 => ?_)
      · refine a_iconst (k := 33) rfl ?_
        refine a_ireturn (k := 34) rfl rfl ?_
        exact ⟨by rw [he]; rfl, rfl⟩
      · omega
    | succ m ih =>
      intro q hq he
      have e1 : cmpL A B (m + 1) q = if A q = B q then cmpL A B m (q + 1) else if A q < B q then -1 else 1 := rfl
      have ha := hA q (by omega)
      have hb := hB q (by omega)
      rw [e1] at he
      refine u_iloadn (k := 2) rfl rfl ?_
      refine u_iloadn (k := 3) rfl rfl ?_
      refine a_icmp_ge (k := 4) rfl (fun c_4 => ?_) (fun c_4 => ?_)
      · omega
      refine u_iloadn (k := 5) rfl rfl ?_
      refine u_aloadn (k := 6) rfl rfl ?_
      refine a_alen (k := 7) rfl rfl rfl (by decide) (by decide) ?_
      refine a_icmp_ge (k := 8) rfl (fun c_10 => ?_) (fun c_10 => ?_)
      · omega
      refine u_iloadn (k := 9) rfl rfl ?_
      refine u_aloadn (k := 10) rfl rfl ?_
      refine a_alen (k := 11) rfl ho hk (by decide) (by decide) ?_
      refine a_icmp_ge (k := 12) rfl (fun c_16 => ?_) (fun c_16 => ?_)
      · omega
      refine u_aloadn (k := 13) rfl rfl ?_
      refine u_iloadn (k := 14) rfl rfl ?_
      refine u_iald (k := 15) rfl rfl rfl (by omega) ?_
      refine u_aloadn (k := 16) rfl rfl ?_
      refine u_iloadn (k := 17) rfl rfl ?_
      refine u_iald (k := 18) rfl ho hk (by omega) ?_
      rw [ha, hb]
      refine a_icmp_eq (k := 19) rfl (fun c_25 => ?_) (fun c_25 => ?_)
      · rw [if_pos c_25] at he
        refine u_iinc (k := 31) (lv' := [(3, _), (0, _), (1, _), (2, _)]) rfl rfl (Nat.le_of_ble_eq_true rfl) (by omega) rfl ?_
        refine a_goto (k := 32) rfl ?_
        refine a_sub [1, 2, 3, 0] rfl ?_
        exact ih (q + 1) (by omega) he
      · rw [if_neg c_25] at he
        refine u_aloadn (k := 20) rfl rfl ?_
        refine u_iloadn (k := 21) rfl rfl ?_
        refine u_iald (k := 22) rfl rfl rfl (by omega) ?_
        refine u_aloadn (k := 23) rfl rfl ?_
        refine u_iloadn (k := 24) rfl rfl ?_
        refine u_iald (k := 25) rfl ho hk (by omega) ?_
        rw [ha, hb]
        refine a_icmp_ge (k := 26) rfl (fun c_34 => ?_) (fun c_34 => ?_)
        · refine a_iconst (k := 29) rfl ?_
          refine a_ireturn (k := 30) rfl rfl ?_
          exact ⟨by rw [he]; congr 2; split <;> omega, rfl⟩
        · refine a_iconst (k := 27) rfl ?_
          refine a_goto (k := 28) rfl ?_
          refine a_ireturn (k := 30) rfl rfl ?_
          exact ⟨by rw [he]; congr 2; split <;> omega, rfl⟩
  refine a_iconst (k := 0) rfl ?_
  refine a_istoren (k := 1) (lv' := [(3, _), (0, _), (1, _), (2, _)]) rfl (Nat.le_of_ble_eq_true rfl) rfl ?_
  refine a_sub [1, 2, 3, 0] rfl ?_
  exact L n 0 (by omega) rfl
/-- does a rolling of f, gone back (b), flipped (fl), come to f2; from q on, m of them -/
def cmT (f f2 : Nat → Nat) (n : Nat) (b : Bool) (fl : Nat) : Nat → Nat → Bool
  | 0, _ => decide (n = 0)
  | m + 1, q => if cmpL (fun i => (ga f n b q fl i : Int)) (fun i => (f2 i : Int)) n 0 = 0 then true else cmT f f2 n b fl m (q + 1)
theorem x_comesTo (j c s j2 fl : Nat) (b : Bool) (f f2 : Nat → Nat) (h : HH) (hR : RP j c f s h) (hf2 : ∀ i, i < 2 * c → h 6 j2 i = (f2 i : Int)) (hfl : fl < 2) :
    Sp mX7_comesTo [vr 31 0, vr 5 j, vr 5 j2, vi (b01 b), vi fl] h (fun r g => r = some (vi (b01 (cmT f f2 (2 * c) b fl (2 * c) 0))) ∧ Fr trn [] h g) := by
  refine Sp.of rfl kX7_comesTo (Nat.le_of_ble_eq_true rfl) ?_
  have L : ∀ (m q : Nat) (g : HH), q + m = 2 * c → Fr trn [] h g → AW mX7_comesTo (fun r g => r = some (vi (b01 (cmT f f2 (2 * c) b fl m q))) ∧ Fr trn [] h g) 9 [(0, vr 31 0), (1, vr 5 j), (2, vr 5 j2), (3, vi (b01 b)), (4, vi fl), (5, vi ((2 * c : Nat) : Int)), (6, vi q)] [] g := by
    intro m
    induction m with
    | zero =>
      intro q g hq hF
      refine u_iload (k := 5) rfl rfl ?_
      refine u_iload (k := 6) rfl rfl ?_
      refine a_icmp_ge (k := 7) rfl (fun c_13 => ?_) (fun c_13 => ?_)
      · refine u_iload (k := 25) rfl rfl ?_
        refine a_if_ne (k := 26) rfl (fun c_52 => ?_) (fun c_52 => ?_)
        · have e9 : b01 (cmT f f2 (2 * c) b fl 0 q) = 0 := by unfold cmT; rw [decide_eq_false (by omega)]; rfl
          refine a_iconst (k := 29) rfl ?_
          refine a_zreturn (k := 30) rfl rfl (by omega) ?_
          exact ⟨by rw [e9], hF⟩
        · have e9 : b01 (cmT f f2 (2 * c) b fl 0 q) = 1 := by unfold cmT; rw [decide_eq_true (by omega)]; rfl
          refine a_iconst (k := 27) rfl ?_
          refine a_goto (k := 28) rfl ?_
          refine a_zreturn (k := 30) rfl rfl (by omega) ?_
          exact ⟨by rw [e9], hF⟩
      · omega
    | succ m ih =>
      intro q g hq hF
      have hR' : RP j c f s g := hR.fr hF (by simp [trn]) (by simp [trn]) (by simp) (by simp)
      have e1 : cmT f f2 (2 * c) b fl (m + 1) q = if cmpL (fun i => (ga f (2 * c) b q fl i : Int)) (fun i => (f2 i : Int)) (2 * c) 0 = 0 then true else cmT f f2 (2 * c) b fl m (q + 1) := rfl
      have h8 := hR.2.1
      refine u_iload (k := 5) rfl rfl ?_
      refine u_iload (k := 6) rfl rfl ?_
      refine a_icmp_ge (k := 7) rfl (fun c_13 => ?_) (fun c_13 => ?_)
      · omega
      · refine u_aloadn (k := 8) rfl rfl ?_
        refine u_aloadn (k := 9) rfl rfl ?_
        refine u_iload (k := 10) rfl rfl ?_
        refine u_iloadn (k := 11) rfl rfl ?_
        refine u_iload (k := 12) rfl rfl ?_
        refine uv_virt4 (M' := mX7_goAlong) (k := 13) rfl lRX7_36 oX7_goAlong vX7_goAlong ⟨Nat.le_of_ble_eq_true rfl, Nat.le_of_ble_eq_true rfl⟩ rfl rfl (Nat.le_of_ble_eq_true rfl) (x_goAlong j c s q fl b f g hR' (by omega) hfl) (by intro r g hp; exact hp.1) (fun g1 hg1 => ?_)
        obtain ⟨-, b1, b2⟩ := hg1
        refine u_aloadn (k := 14) rfl rfl ?_
        refine a_getr (k := 15) rfl fRX7_15 rfl rfl rfl ?_
        refine u_aloadn (k := 16) rfl rfl ?_
        refine a_getr (k := 17) rfl fRX7_50 rfl rfl rfl ?_
        refine u_iload (k := 18) rfl rfl ?_
        refine i_stat3 (M' := mX7_compare) (k := 19) rfl lRX7_40 oX7_compare vX7_compare ⟨Nat.le_of_ble_eq_true rfl, Nat.le_of_ble_eq_true rfl⟩ rfl (Nat.le_of_ble_eq_true rfl) (x_compare 6 j2 (2 * c) _ (fun i => (f2 i : Int)) g1 rfl rfl (by omega) b1 (fun i hi => by rw [b2 6 j2 i (by simp [trn]) (by simp), hF 6 j2 i (by simp [trn]) (by simp)]; exact hf2 i hi)) ?_
        refine a_if_ne (k := 20) rfl (fun c_39 => ?_) (fun c_39 => ?_)
        · refine u_iinc (k := 23) (lv' := [(6, _), (0, _), (1, _), (2, _), (3, _), (4, _), (5, _)]) rfl rfl (Nat.le_of_ble_eq_true rfl) (by omega) rfl ?_
          refine a_goto (k := 24) rfl ?_
          refine a_sub [1, 2, 3, 4, 5, 6, 0] rfl ?_
          rw [e1, if_neg (by assumption)]; exact ih (q + 1) g1 (by omega) (hF.tr b2 (fun q hq => hq) (by simp))
        · refine a_iconst (k := 21) rfl ?_
          refine a_zreturn (k := 22) rfl rfl (by omega) ?_
          exact ⟨by rw [e1, if_pos (by assumption)]; rfl, hF.tr b2 (fun q hq => hq) (by simp)⟩
  refine u_aloadn (k := 0) rfl rfl ?_
  refine i_virt0 (M' := mX6_length) (k := 1) rfl lRX7_32 oX6_length vX6_length ⟨Nat.le_of_ble_eq_true rfl, Nat.le_of_ble_eq_true rfl⟩ rfl rfl (Nat.le_of_ble_eq_true rfl) (x_length j c h hR.1 hR.2.1) ?_
  refine a_istore (k := 2) (lv' := [(5, _), (0, _), (1, _), (2, _), (3, _), (4, _)]) rfl (Nat.le_of_ble_eq_true rfl) rfl ?_
  refine a_iconst (k := 3) rfl ?_
  refine a_istore (k := 4) (lv' := [(6, _), (5, _), (0, _), (1, _), (2, _), (3, _), (4, _)]) rfl (Nat.le_of_ble_eq_true rfl) rfl ?_
  refine a_sub [2, 3, 4, 5, 6, 1, 0] rfl ?_
  exact L (2 * c) 0 h (by omega) Fr.rf
def wys (f f2 : Nat → Nat) (n : Nat) : Nat → Nat
  | 0 => 0
  | w + 1 => if cmT f f2 n (decide (w % 2 = 1)) (w / 2) n 0 then wys f f2 n w ||| 2 ^ w else wys f f2 n w
theorem wys_lt (f f2 : Nat → Nat) (n : Nat) : ∀ w, wys f f2 n w < 2 ^ w
  | 0 => by unfold wys; omega
  | w + 1 => by
    have := wys_lt f f2 n w
    have h2 : 2 ^ w < 2 ^ (w + 1) := Nat.pow_lt_pow_right (by omega) (by omega)
    unfold wys
    split
    · exact Nat.or_lt_two_pow (by omega) h2
    · omega
theorem x_waysInto (j c s j2 : Nat) (f f2 : Nat → Nat) (h : HH) (hR : RP j c f s h) (hc2 : h 5 j2 2 = (c : Int)) (hf2 : ∀ i, i < 2 * c → h 6 j2 i = (f2 i : Int)) :
    Sp mX7_waysInto [vr 31 0, vr 5 j, vr 5 j2] h (fun r g => r = some (vi (wys f f2 (2 * c) 4)) ∧ Fr trn [] h g) := by
  refine Sp.of rfl kX7_waysInto (Nat.le_of_ble_eq_true rfl) ?_
  have L : ∀ (m w : Nat) (g : HH), w + m = 4 → Fr trn [] h g → AW mX7_waysInto (fun r g => r = some (vi (wys f f2 (2 * c) 4)) ∧ Fr trn [] h g) 18 [(0, vr 31 0), (1, vr 5 j), (2, vr 5 j2), (3, vi (wys f f2 (2 * c) w)), (4, vi w)] [] g := by
    intro m
    induction m with
    | zero =>
      intro w g hw hF
      have hw : w = 4 := by omega
      subst hw
      refine u_iload (k := 11) rfl rfl ?_
      refine a_iconst (k := 12) rfl ?_
      refine a_icmp_ge (k := 13) rfl (fun c_21 => ?_) (fun c_21 => ?_)
      · refine u_iloadn (k := 38) rfl rfl ?_
        refine a_ireturn (k := 39) rfl rfl ?_
        exact ⟨rfl, hF⟩
      · omega
    | succ m ih =>
      intro w g hw hF
      have hR' : RP j c f s g := hR.fr hF (by simp [trn]) (by simp [trn]) (by simp) (by simp)
      have hwl := wys_lt f f2 (2 * c) w
      have hw2 : 2 ^ w ≤ 2 ^ 4 := Nat.pow_le_pow_right (by omega) (by omega)
      have hw3 : 2 ^ w < 2 ^ 31 := by omega
      have e1 : wys f f2 (2 * c) (w + 1) = if cmT f f2 (2 * c) (decide (w % 2 = 1)) (w / 2) (2 * c) 0 then wys f f2 (2 * c) w ||| 2 ^ w else wys f f2 (2 * c) w := rfl
      have es : ishr (w : Int) 1 = ((w / 2 : Nat) : Int) := by
        have := ishr_nat (n := w) (k := 1) (by omega) (by omega)
        rw [Nat.shiftRight_eq_div_pow] at this
        exact this
      have body : AW mX7_waysInto (fun r g => r = some (vi (wys f f2 (2 * c) 4)) ∧ Fr trn [] h g) 40 [(0, vr 31 0), (1, vr 5 j), (2, vr 5 j2), (3, vi (wys f f2 (2 * c) w)), (4, vi w)] [vi (b01 (decide (w % 2 = 1))), vr 5 j2, vr 5 j, vr 31 0] g := by
        refine u_iload (k := 25) rfl rfl ?_
        refine a_iconst (k := 26) rfl ?_
        refine a_ishr (k := 27) rfl ?_
        rw [es]
        refine ui_virt4 (M' := mX7_comesTo) (k := 28) rfl lRX7_28 oX7_comesTo vX7_comesTo ⟨Nat.le_of_ble_eq_true rfl, Nat.le_of_ble_eq_true rfl⟩ rfl rfl (Nat.le_of_ble_eq_true rfl) (x_comesTo j c s j2 (w / 2) (decide (w % 2 = 1)) f f2 g hR' (fun i hi => by rw [hF 6 j2 i (by simp [trn]) (by simp)]; exact hf2 i hi) (by omega)) (by intro r g hp; exact ⟨_, hp.1⟩) (fun r g1 hg1 => ?_)
        obtain ⟨e2, b2⟩ := hg1; cases e2
        refine a_if_eq (k := 29) rfl (fun c_47 => ?_) (fun c_47 => ?_)
        · have hc : ¬ cmT f f2 (2 * c) (decide (w % 2 = 1)) (w / 2) (2 * c) 0 = true := fun z => by rw [z] at c_47; cases c_47
          rw [if_neg hc] at e1
          refine u_iinc (k := 36) (lv' := [(4, _), (0, _), (1, _), (2, _), (3, _)]) rfl rfl (Nat.le_of_ble_eq_true rfl) (by omega) rfl ?_
          refine a_goto (k := 37) rfl ?_
          refine a_sub [1, 2, 3, 4, 0] rfl ?_
          rw [← e1]; exact ih (w + 1) g1 (by omega) (hF.tr b2 (fun q hq => hq) (by simp))
        · have hc : cmT f f2 (2 * c) (decide (w % 2 = 1)) (w / 2) (2 * c) 0 = true := by
            cases hz : cmT f f2 (2 * c) (decide (w % 2 = 1)) (w / 2) (2 * c) 0 with
            | true => rfl
            | false => rw [hz] at c_47; exact absurd rfl c_47
          rw [if_pos hc] at e1
          refine u_iloadn (k := 30) rfl rfl ?_
          refine a_iconst (k := 31) rfl ?_
          refine u_iload (k := 32) rfl rfl ?_
          refine a_ishl (k := 33) rfl ?_
          refine a_ior (k := 34) rfl ?_
          rw [shl1 (by omega), ior_nat (by omega) hw3]
          refine a_istoren (k := 35) (lv' := [(3, _), (0, _), (1, _), (2, _), (4, _)]) rfl (Nat.le_of_ble_eq_true rfl) rfl ?_
          refine u_iinc (k := 36) (lv' := [(4, _), (3, _), (0, _), (1, _), (2, _)]) rfl rfl (Nat.le_of_ble_eq_true rfl) (by omega) rfl ?_
          refine a_goto (k := 37) rfl ?_
          refine a_sub [2, 3, 4, 1, 0] rfl ?_
          rw [← e1]; exact ih (w + 1) g1 (by omega) (hF.tr b2 (fun q hq => hq) (by simp))
      refine u_iload (k := 11) rfl rfl ?_
      refine a_iconst (k := 12) rfl ?_
      refine a_icmp_ge (k := 13) rfl (fun c_21 => ?_) (fun c_21 => ?_)
      · omega
      · refine u_aloadn (k := 14) rfl rfl ?_
        refine u_aloadn (k := 15) rfl rfl ?_
        refine u_aloadn (k := 16) rfl rfl ?_
        refine u_iload (k := 17) rfl rfl ?_
        refine a_iconst (k := 18) rfl ?_
        refine a_iand (k := 19) rfl ?_
        rw [iand1 (by omega)]
        refine a_iconst (k := 20) rfl ?_
        refine a_icmp_ne (k := 21) rfl (fun c_32 => ?_) (fun c_32 => ?_)
        · have e9 : (0 : Int) = b01 (decide (w % 2 = 1)) := by rw [decide_eq_false (by omega)]; rfl
          refine a_iconst (k := 24) rfl ?_
          rw [e9]; exact body
        · have e9 : (1 : Int) = b01 (decide (w % 2 = 1)) := by rw [decide_eq_true (by omega)]; rfl
          refine a_iconst (k := 22) rfl ?_
          refine a_goto (k := 23) rfl ?_
          rw [e9]; exact body
  refine u_aloadn (k := 0) rfl rfl ?_
  refine a_geti (k := 1) rfl fRX7_22 rfl rfl ?_
  refine u_aloadn (k := 2) rfl rfl ?_
  refine a_geti (k := 3) rfl fRX7_22 rfl rfl ?_
  refine a_icmp_eq (k := 4) rfl (fun c_8 => ?_) (fun c_8 => ?_)
  · refine a_iconst (k := 7) rfl ?_
    refine a_istoren (k := 8) (lv' := [(3, _), (0, _), (1, _), (2, _)]) rfl (Nat.le_of_ble_eq_true rfl) rfl ?_
    refine a_iconst (k := 9) rfl ?_
    refine a_istore (k := 10) (lv' := [(4, _), (3, _), (0, _), (1, _), (2, _)]) rfl (Nat.le_of_ble_eq_true rfl) rfl ?_
    refine a_sub [2, 3, 4, 1, 0] rfl ?_
    exact L 4 0 h (by omega) Fr.rf
  · exact absurd (hR.1.trans hc2.symm) c_8
theorem x_waysNo (j j2 : Nat) (h : HH) (hne : ¬ h 5 j 2 = h 5 j2 2) : SpI mX7_waysInto [vr 31 0, vr 5 j, vr 5 j2] h 0 h := by
  refine Sp.of rfl kX7_waysInto (Nat.le_of_ble_eq_true rfl) ?_
  refine u_aloadn (k := 0) rfl rfl ?_
  refine a_geti (k := 1) rfl fRX7_22 rfl rfl ?_
  refine u_aloadn (k := 2) rfl rfl ?_
  refine a_geti (k := 3) rfl fRX7_22 rfl rfl ?_
  refine a_icmp_eq (k := 4) rfl (fun c_8 => ?_) (fun c_8 => ?_)
  · exact absurd c_8 hne
  · refine a_iconst (k := 5) rfl ?_
    refine a_ireturn (k := 6) rfl rfl ?_
    exact ⟨rfl, rfl⟩
/-- the least row, n rollings along -/
def lwd (f : Nat → Nat) (n : Nat) : Nat → Nat → Nat
  | 0 => fun _ => 0
  | q + 1 => if q = 0 ∨ cmpL (fun i => (ga f n false q 0 i : Int)) (fun i => (lwd f n q i : Int)) n 0 < 0 then ga f n false q 0 else lwd f n q
theorem x_leastWord (j c s : Nat) (d : Int) (f : Nat → Nat) (h : HH) (hR : RP j c f s h) :
    Sp mX7_leastWordAt [vr 31 0, vr 5 j, vi d] h (fun r g => r = some (vi (if 0 ≤ d ∧ d < 2 * c then (lwd f (2 * c) (2 * c) d.toNat : Int) else -1)) ∧ Fr [(1, 0), (2, 0), (32, 0), (33, 0)] [] h g) := by
  refine Sp.of rfl kX7_leastWordAt (Nat.le_of_ble_eq_true rfl) ?_
  have h8 := hR.2.1
  have L : ∀ (m q : Nat) (g : HH), q + m = 2 * c → (0 < q → ∀ i, i < 2 * c → g 33 0 i = (lwd f (2 * c) q i : Int)) → Fr [(1, 0), (2, 0), (32, 0), (33, 0)] [] h g → AW mX7_leastWordAt (fun r g => r = some (vi (if 0 ≤ d ∧ d < 2 * c then (lwd f (2 * c) (2 * c) d.toNat : Int) else -1)) ∧ Fr [(1, 0), (2, 0), (32, 0), (33, 0)] [] h g) 8 [(0, vr 31 0), (1, vr 5 j), (2, vi d), (3, vi ((2 * c : Nat) : Int)), (4, vi q)] [] g := by
    intro m
    induction m with
    | zero =>
      intro q g hq hl hF
      have hq : q = 2 * c := by omega
      subst hq
      refine u_iload (k := 5) rfl rfl ?_
      refine u_iloadn (k := 6) rfl rfl ?_
      refine a_icmp_ge (k := 7) rfl (fun c_11 => ?_) (fun c_11 => ?_)
      · refine u_iloadn (k := 33) rfl rfl ?_
        refine a_if_lt (k := 34) rfl (fun c_64 => ?_) (fun c_64 => ?_)
        · refine a_iconst (k := 43) rfl ?_
          refine a_ireturn (k := 44) rfl rfl ?_
          exact ⟨by congr 2; split <;> omega, hF⟩
        · refine u_iloadn (k := 35) rfl rfl ?_
          refine u_iloadn (k := 36) rfl rfl ?_
          refine a_icmp_ge (k := 37) rfl (fun c_69 => ?_) (fun c_69 => ?_)
          · refine a_iconst (k := 43) rfl ?_
            refine a_ireturn (k := 44) rfl rfl ?_
            exact ⟨by congr 2; split <;> omega, hF⟩
          · refine u_aloadn (k := 38) rfl rfl ?_
            refine a_getr (k := 39) rfl fRX7_19 rfl rfl rfl ?_
            refine u_iloadn (k := 40) rfl rfl ?_
            refine a_iald (k := 41) rfl rfl rfl (by omega) (by omega) ?_
            rw [hl (by omega) d.toNat (by omega)]
            refine a_goto (k := 42) rfl ?_
            refine a_ireturn (k := 44) rfl rfl ?_
            exact ⟨by congr 2; split <;> omega, hF⟩
      · omega
    | succ m ih =>
      intro q g hq hl hF
      have hR' : RP j c f s g := hR.fr hF (by simp) (by simp) (by simp) (by simp)
      have e1 : lwd f (2 * c) (q + 1) = if q = 0 ∨ cmpL (fun i => (ga f (2 * c) false q 0 i : Int)) (fun i => (lwd f (2 * c) q i : Int)) (2 * c) 0 < 0 then ga f (2 * c) false q 0 else lwd f (2 * c) q := rfl
      have cp : ∀ g1 : HH, (q = 0 ∨ cmpL (fun i => (ga f (2 * c) false q 0 i : Int)) (fun i => (lwd f (2 * c) q i : Int)) (2 * c) 0 < 0) → (∀ i, i < 2 * c → g1 32 0 i = (ga f (2 * c) false q 0 i : Int)) → Fr [(1, 0), (2, 0), (32, 0), (33, 0)] [] h g1 → AW mX7_leastWordAt (fun r g => r = some (vi (if 0 ≤ d ∧ d < 2 * c then (lwd f (2 * c) (2 * c) d.toNat : Int) else -1)) ∧ Fr [(1, 0), (2, 0), (32, 0), (33, 0)] [] h g) 43 [(0, vr 31 0), (1, vr 5 j), (2, vi d), (3, vi ((2 * c : Nat) : Int)), (4, vi q)] [] g1 := by
        intro g1 hc b1 hF1
        refine u_aloadn (k := 23) rfl rfl ?_
        refine a_getr (k := 24) rfl fRX7_15 rfl rfl rfl ?_
        refine a_iconst (k := 25) rfl ?_
        refine u_aloadn (k := 26) rfl rfl ?_
        refine a_getr (k := 27) rfl fRX7_19 rfl rfl rfl ?_
        refine a_iconst (k := 28) rfl ?_
        refine u_iloadn (k := 29) rfl rfl ?_
        refine a_copy (k := 30) (sp := 0) (dp := 0) (n := 2 * c) rfl nt_l7 rfl rfl rfl rfl (by omega) (by omega) (by decide) (by decide) ⟨by decide +kernel, by decide +kernel⟩ ?_
        refine u_iinc (k := 31) (lv' := [(4, _), (0, _), (1, _), (2, _), (3, _)]) rfl rfl (Nat.le_of_ble_eq_true rfl) (by omega) rfl ?_
        refine a_goto (k := 32) rfl ?_
        refine a_sub [1, 2, 3, 4, 0] rfl ?_
        refine ih (q + 1) _ (by omega) (fun _ i hi => ?_) (fun t2 i2 k2 p1 p2 => ?_)
        · rw [e1, if_pos hc]
          unfold cpy
          rw [if_pos ⟨rfl, rfl, by omega, by omega⟩, show 0 + (i - 0) = i by omega]
          exact b1 i hi
        · rw [cpy_oc _ _ _ _ _ _ _ _ _ _ (fun z => p1 (by simp [z.1, z.2]))]
          exact hF1 t2 i2 k2 p1 p2
      refine u_iload (k := 5) rfl rfl ?_
      refine u_iloadn (k := 6) rfl rfl ?_
      refine a_icmp_ge (k := 7) rfl (fun c_11 => ?_) (fun c_11 => ?_)
      · omega
      · refine u_aloadn (k := 8) rfl rfl ?_
        refine u_aloadn (k := 9) rfl rfl ?_
        refine u_iload (k := 10) rfl rfl ?_
        refine a_iconst (k := 11) rfl ?_
        refine a_iconst (k := 12) rfl ?_
        refine uv_virt4 (M' := mX7_goAlong) (k := 13) rfl lRX7_36 oX7_goAlong vX7_goAlong ⟨Nat.le_of_ble_eq_true rfl, Nat.le_of_ble_eq_true rfl⟩ rfl rfl (Nat.le_of_ble_eq_true rfl) (x_goAlong j c s q 0 false f g hR' (by omega) (by omega)) (by intro r g hp; exact hp.1) (fun g1 hg1 => ?_)
        obtain ⟨-, b1, b2⟩ := hg1; have hF1 : Fr [(1, 0), (2, 0), (32, 0), (33, 0)] [] h g1 := hF.tr b2 (by simp [trn]) (by simp)
        refine u_iload (k := 14) rfl rfl ?_
        refine a_if_eq (k := 15) rfl (fun c_25 => ?_) (fun c_25 => ?_)
        · exact cp g1 (by omega) b1 hF1
        · refine u_aloadn (k := 16) rfl rfl ?_
          refine a_getr (k := 17) rfl fRX7_15 rfl rfl rfl ?_
          refine u_aloadn (k := 18) rfl rfl ?_
          refine a_getr (k := 19) rfl fRX7_19 rfl rfl rfl ?_
          refine u_iloadn (k := 20) rfl rfl ?_
          refine i_stat3 (M' := mX7_compare) (k := 21) rfl lRX7_40 oX7_compare vX7_compare ⟨Nat.le_of_ble_eq_true rfl, Nat.le_of_ble_eq_true rfl⟩ rfl (Nat.le_of_ble_eq_true rfl) (x_compare 33 0 (2 * c) _ (fun i => (lwd f (2 * c) q i : Int)) g1 rfl rfl (by omega) b1 (fun i hi => by rw [b2 33 0 i (by simp [trn]) (by simp)]; exact hl (by omega) i hi)) ?_
          refine a_if_ge (k := 22) rfl (fun c_40 => ?_) (fun c_40 => ?_)
          · refine u_iinc (k := 31) (lv' := [(4, _), (0, _), (1, _), (2, _), (3, _)]) rfl rfl (Nat.le_of_ble_eq_true rfl) (by omega) rfl ?_
            refine a_goto (k := 32) rfl ?_
            refine a_sub [1, 2, 3, 4, 0] rfl ?_
            refine ih (q + 1) g1 (by omega) (fun _ i hi => ?_) hF1
            rw [e1, if_neg (by omega), b2 33 0 i (by simp [trn]) (by simp)]
            exact hl (by omega) i hi
          · exact cp g1 (by omega) b1 hF1
  refine u_aloadn (k := 0) rfl rfl ?_
  refine i_virt0 (M' := mX6_length) (k := 1) rfl lRX7_32 oX6_length vX6_length ⟨Nat.le_of_ble_eq_true rfl, Nat.le_of_ble_eq_true rfl⟩ rfl rfl (Nat.le_of_ble_eq_true rfl) (x_length j c h hR.1 hR.2.1) ?_
  refine a_istoren (k := 2) (lv' := [(3, _), (0, _), (1, _), (2, _)]) rfl (Nat.le_of_ble_eq_true rfl) rfl ?_
  refine a_iconst (k := 3) rfl ?_
  refine a_istore (k := 4) (lv' := [(4, _), (3, _), (0, _), (1, _), (2, _)]) rfl (Nat.le_of_ble_eq_true rfl) rfl ?_
  refine a_sub [2, 3, 4, 1, 0] rfl ?_
  exact L (2 * c) 0 h (by omega) (fun z => absurd z (Nat.not_lt_zero 0)) Fr.rf
