/-! rows of moves of the reference -/
def oG (G : Nat → Nat) (S c x : Nat) : Nat := (tr_ G S 0 (pos G (2 * x + 1) (2 * c))).length
def uG (G : Nat → Nat) (S c x : Nat) : Nat := (tr_ G S 0 (pos G (2 * x) (2 * c))).length
def rmv (G : Nat → Nat) (c S H a b : Nat) : Bool := imv (tr_ G S 0 (2 * c)).length (oG G S c) (uG G S c) S H a b
theorem LH.ou {c S x : Nat} {G : Nat → Nat} {g : HH} (hV : VT c G) (h8 : c ≤ 8) (hL : LH G S (2 * c) g) (hx : x < c) (hS : S.testBit x = true) : OU (oG G S c) (uG G S c) x g := by
  obtain ⟨a1, a2⟩ := pos_ok (VT_sur hV (v := 2 * x + 1) (by omega))
  obtain ⟨b1, b2⟩ := pos_ok (VT_sur hV (v := 2 * x) (by omega))
  have e1 := hL.2 _ a1 (by rw [a2, show (2 * x + 1) / 2 = x by omega]; exact hS)
  have e2 := hL.2 _ b1 (by rw [b2, show 2 * x / 2 = x by omega]; exact hS)
  rw [a2, show (2 * x + 1) / 2 = x by omega] at e1
  rw [b2, show 2 * x / 2 = x by omega] at e2
  have l1 := tr_len G S 0 (pos G (2 * x + 1) (2 * c))
  have l2 := tr_len G S 0 (pos G (2 * x) (2 * c))
  exact ⟨e1.1 (by omega), e2.2 (by omega), by unfold oG; omega, by unfold uG; omega⟩
theorem lt_tb {S c x : Nat} (hS : S < 2 ^ c) (h : S.testBit x = true) : x < c := by
  refine Classical.byContradiction (fun hn => ?_)
  have := Nat.testBit_lt_two_pow (Nat.lt_of_lt_of_le hS (Nat.pow_le_pow_right (by omega) (show c ≤ x by omega)))
  rw [this] at h
  cases h
/-- isMove over what is left -/
theorem m_move {c S H a b : Nat} {G : Nat → Nat} {g : HH} (hV : VT c G) (h8 : c ≤ 8) (hL : LH G S (2 * c) g) (hS : S < 2 ^ c) (hH : H < 2 ^ 31) (ha : a < 8) (hb : b < 8) : SpI mX11_isMove [vr 40 0, vi S, vi H, vi a, vi b] g (b01 (rmv G c S H a b)) g := by
  have hl := tr_len G S 0 (2 * c)
  have hp : 2 ^ c ≤ 2 ^ 8 := Nat.pow_le_pow_right (by omega) h8
  exact m_isMove _ S H a b _ _ g hL.1 (by omega) (by omega) hH ha hb (fun z => hL.ou hV h8 (lt_tb hS z) z) (fun z => hL.ou hV h8 (lt_tb hS z) z)
def mm (p : Nat → Nat → Bool) (m : Nat) : List Nat := ((List.range m).filter (fun m => decide (m / 8 ≤ m % 8) && p (m / 8) (m % 8))).map (fun m => 10 * (m / 8) + m % 8)
theorem mm_s (p : Nat → Nat → Bool) (m : Nat) : mm p (m + 1) = mm p m ++ (if m / 8 ≤ m % 8 ∧ p (m / 8) (m % 8) = true then [10 * (m / 8) + m % 8] else []) := by
  unfold mm
  rw [List.range_succ, List.filter_append, List.map_append]
  congr 1
  by_cases h : m / 8 ≤ m % 8 ∧ p (m / 8) (m % 8) = true
  · rw [if_pos h]; simp [h.1, h.2]
  · rw [if_neg h]
    by_cases h1 : m / 8 ≤ m % 8
    · have h2 : p (m / 8) (m % 8) = false := by
        cases hh : p (m / 8) (m % 8) with
        | false => rfl
        | true => exact absurd ⟨h1, hh⟩ h
      simp [h2]
    · simp [h1]
theorem mm_row (p : Nat → Nat → Bool) (c : Nat) : ∀ d, d ≤ 8 → mm p (8 * c + d) = mm p (8 * c) ++ mrow p c d
  | 0, _ => by unfold mrow; simp
  | d + 1, h => by
    rw [← Nat.add_assoc, mm_s, mm_row p c d (by omega), mrow_s, show (8 * c + d) / 8 = c by omega, show (8 * c + d) % 8 = d by omega, List.append_assoc]
theorem mm_pre (p : Nat → Nat → Bool) : ∀ c, mm p (8 * c) = mpre p c
  | 0 => rfl
  | c + 1 => by
    rw [show 8 * (c + 1) = 8 * c + 8 by omega, mm_row p c 8 (Nat.le_refl 8), mm_pre p c]
    rfl
theorem mrow_cong {p p' : Nat → Nat → Bool} {c : Nat} : ∀ {n : Nat}, (∀ d, d < n → c ≤ d → p c d = p' c d) → mrow p c n = mrow p' c n
  | 0, _ => by unfold mrow; rfl
  | n + 1, h => by
    rw [mrow_s, mrow_s, mrow_cong (fun d hd => h d (by omega))]
    congr 1
    by_cases hc : c ≤ n
    · rw [h n (by omega) hc]
    · rw [if_neg (by omega), if_neg (by omega)]
theorem mpre_cong {p p' : Nat → Nat → Bool} : ∀ {c : Nat}, (∀ a d, a < c → d < 8 → a ≤ d → p a d = p' a d) → mpre p c = mpre p' c
  | 0, _ => rfl
  | c + 1, h => by
    unfold mpre
    rw [mpre_cong (fun a d ha => h a d (by omega)), mrow_cong (fun d hd hc => h c d (by omega) hd hc)]
def NLn (l : List Nat) : Nat := l.length
theorem rli_app {S a v : Nat} {l : List Nat} {x : FB} : ∀ i, i ≤ l.length → rli S a (l ++ [v]) x i = rli S a l x i
  | 0, _ => rfl
  | i + 1, h => by
    unfold rli
    rw [rli_app i (by omega), fn_app1 (by omega)]
theorem rli_add {S a v : Nat} {l : List Nat} {x : FB} : rli S a (l ++ [v]) x (l ++ [v]).length = rl1 S a v (rli S a l x l.length) := by
  rw [List.length_append, List.length_singleton]
  show rl1 S a (fn (l ++ [v]) l.length) (rli S a (l ++ [v]) x l.length) = _
  rw [fn_app2, rli_app _ (Nat.le_refl _)]
theorem mm_ML {p : Nat → Nat → Bool} {S m : Nat} (hm : m ≤ 64) (h : ∀ a b, p a b = true → S.testBit a = true) : ML S (mm p m) := by
  intro i hi
  have hmem : fn (mm p m) i ∈ mm p m := by rw [fn_lt hi]; exact List.getElem_mem hi
  unfold mm at hmem
  rw [List.mem_map] at hmem
  obtain ⟨q, hq, he⟩ := hmem
  rw [List.mem_filter, List.mem_range] at hq
  have h2 := hq.2
  rw [Bool.and_eq_true] at h2
  exact ⟨q / 8, q % 8, by omega, by omega, he.symm, h _ _ h2.2⟩
theorem imv_S {n S H a b : Nat} {o u : Nat → Nat} (h : imv n o u S H a b = true) : S.testBit a = true ∧ S.testBit b = true ∧ H.testBit a = false ∧ H.testBit b = false := by
  unfold imv at h
  revert h
  cases S.testBit a <;> cases S.testBit b <;> cases H.testBit a <;> cases H.testBit b <;> simp
/-! the search of the reference -/
def HM (c : Nat) (x : FB) (g : HH) : Prop := ∀ T, T < 2 ^ c → g 54 0 T = x.1 T ∧ g 55 0 T = x.2 T
def CC (T : Nat) (mv fs : Int) (h : HH) : Prop := h 54 0 T < 0 ∨ mv < h 54 0 T ∨ (mv = h 54 0 T ∧ fs < h 55 0 T)
theorem m_comesTo (T : Nat) (mv fs : Int) (h : HH) (hT : T < 256) : Sp mX11_comesTo [vr 40 0, vi T, vi mv, vi fs] h (fun z g => z = none ∧ (CC T mv fs h → g = put (put h 55 0 T fs) 54 0 T mv) ∧ (¬ CC T mv fs h → g = h)) := by
  refine Sp.of rfl kX11_comesTo (Nat.le_of_ble_eq_true rfl) ?_
  refine u_aloadn (k := 0) rfl rfl ?_
  refine a_getr (k := 1) rfl fRX11_54 rfl rfl rfl ?_
  refine u_iloadn (k := 2) rfl rfl ?_
  refine u_iald (k := 3) rfl rfl rfl (by omega) ?_
  refine a_if_lt (k := 4) rfl (fun c_6 => ?_) (fun c_6 => ?_)
  · refine u_aloadn (k := 23) rfl rfl ?_
    refine a_getr (k := 24) rfl fRX11_57 rfl rfl rfl ?_
    refine u_iloadn (k := 25) rfl rfl ?_
    refine u_iloadn (k := 26) rfl rfl ?_
    refine u_iast (k := 27) rfl rfl rfl (by omega) ?_
    refine u_aloadn (k := 28) rfl rfl ?_
    refine a_getr (k := 29) rfl fRX11_54 rfl rfl rfl ?_
    refine u_iloadn (k := 30) rfl rfl ?_
    refine u_iloadn (k := 31) rfl rfl ?_
    refine u_iast (k := 32) rfl rfl rfl (by omega) ?_
    refine a_return (k := 33) rfl rfl ?_
    first
      | exact ⟨rfl, fun _ => rfl, fun z => absurd (show CC T mv fs h by unfold CC; omega) z⟩
      | exact ⟨rfl, fun z => absurd z (show ¬ CC T mv fs h by unfold CC; omega), fun _ => rfl⟩
  · refine u_iloadn (k := 5) rfl rfl ?_
    refine u_aloadn (k := 6) rfl rfl ?_
    refine a_getr (k := 7) rfl fRX11_54 rfl rfl rfl ?_
    refine u_iloadn (k := 8) rfl rfl ?_
    refine u_iald (k := 9) rfl rfl rfl (by omega) ?_
    refine a_icmp_lt (k := 10) rfl (fun c_16 => ?_) (fun c_16 => ?_)
    · refine u_aloadn (k := 23) rfl rfl ?_
      refine a_getr (k := 24) rfl fRX11_57 rfl rfl rfl ?_
      refine u_iloadn (k := 25) rfl rfl ?_
      refine u_iloadn (k := 26) rfl rfl ?_
      refine u_iast (k := 27) rfl rfl rfl (by omega) ?_
      refine u_aloadn (k := 28) rfl rfl ?_
      refine a_getr (k := 29) rfl fRX11_54 rfl rfl rfl ?_
      refine u_iloadn (k := 30) rfl rfl ?_
      refine u_iloadn (k := 31) rfl rfl ?_
      refine u_iast (k := 32) rfl rfl rfl (by omega) ?_
      refine a_return (k := 33) rfl rfl ?_
      first
        | exact ⟨rfl, fun _ => rfl, fun z => absurd (show CC T mv fs h by unfold CC; omega) z⟩
        | exact ⟨rfl, fun z => absurd z (show ¬ CC T mv fs h by unfold CC; omega), fun _ => rfl⟩
    · refine u_iloadn (k := 11) rfl rfl ?_
      refine u_aloadn (k := 12) rfl rfl ?_
      refine a_getr (k := 13) rfl fRX11_54 rfl rfl rfl ?_
      refine u_iloadn (k := 14) rfl rfl ?_
      refine u_iald (k := 15) rfl rfl rfl (by omega) ?_
      refine a_icmp_ne (k := 16) rfl (fun c_26 => ?_) (fun c_26 => ?_)
      · refine a_return (k := 33) rfl rfl ?_
        first
          | exact ⟨rfl, fun _ => rfl, fun z => absurd (show CC T mv fs h by unfold CC; omega) z⟩
          | exact ⟨rfl, fun z => absurd z (show ¬ CC T mv fs h by unfold CC; omega), fun _ => rfl⟩
      · refine u_iloadn (k := 17) rfl rfl ?_
        refine u_aloadn (k := 18) rfl rfl ?_
        refine a_getr (k := 19) rfl fRX11_57 rfl rfl rfl ?_
        refine u_iloadn (k := 20) rfl rfl ?_
        refine u_iald (k := 21) rfl rfl rfl (by omega) ?_
        refine a_icmp_ge (k := 22) rfl (fun c_36 => ?_) (fun c_36 => ?_)
        · refine a_return (k := 33) rfl rfl ?_
          first
            | exact ⟨rfl, fun _ => rfl, fun z => absurd (show CC T mv fs h by unfold CC; omega) z⟩
            | exact ⟨rfl, fun z => absurd z (show ¬ CC T mv fs h by unfold CC; omega), fun _ => rfl⟩
        · refine u_aloadn (k := 23) rfl rfl ?_
          refine a_getr (k := 24) rfl fRX11_57 rfl rfl rfl ?_
          refine u_iloadn (k := 25) rfl rfl ?_
          refine u_iloadn (k := 26) rfl rfl ?_
          refine u_iast (k := 27) rfl rfl rfl (by omega) ?_
          refine u_aloadn (k := 28) rfl rfl ?_
          refine a_getr (k := 29) rfl fRX11_54 rfl rfl rfl ?_
          refine u_iloadn (k := 30) rfl rfl ?_
          refine u_iloadn (k := 31) rfl rfl ?_
          refine u_iast (k := 32) rfl rfl rfl (by omega) ?_
          refine a_return (k := 33) rfl rfl ?_
          first
            | exact ⟨rfl, fun _ => rfl, fun z => absurd (show CC T mv fs h by unfold CC; omega) z⟩
            | exact ⟨rfl, fun z => absurd z (show ¬ CC T mv fs h by unfold CC; omega), fun _ => rfl⟩
noncomputable def fstep (f : Nat → Nat) (c s a n : Nat) (x : FB) : FB := by
  classical
  exact if x.1 n ≠ -1 then rli n a (mls f c n 0 s) x (mls f c n 0 s).length else x
theorem fstep_p {f : Nat → Nat} {c s a n : Nat} {x : FB} (h : x.1 n ≠ -1) : fstep f c s a n x = rli n a (mls f c n 0 s) x (mls f c n 0 s).length := by unfold fstep; exact if_pos h
theorem fstep_n {f : Nat → Nat} {c s a n : Nat} {x : FB} (h : x.1 n = -1) : fstep f c s a n x = x := by unfold fstep; exact if_neg (fun z => z h)
noncomputable def fta (f : Nat → Nat) (c s a : Nat) : Nat → FB → FB
  | 0, x => x
  | n + 1, x => fta f c s a n (fstep f c s a n x)
theorem mls_zero (f : Nat → Nat) (c W H : Nat) : mls f c 0 W H = [] := by
  cases hm : mls f c 0 W H with
  | nil => rfl
  | cons v l =>
    obtain ⟨a, b, _, _, _, h⟩ := mls_ML f c 0 W H 0 (by rw [hm]; simp)
    simp at h
theorem fstep_0 (f : Nat → Nat) (c s a : Nat) (x : FB) : fstep f c s a 0 x = x := by
  by_cases h : x.1 0 = -1
  · exact fstep_n h
  · rw [fstep_p h, mls_zero]; rfl
theorem FO.fstep {f : Nat → Nat} {c s a n : Nat} {x : FB} (h : FO x) (hn : n < 256) : FO (fstep f c s a n x) ∧ (fstep f c s a n x).1 n = x.1 n ∧ (fstep f c s a n x).2 n = x.2 n := by
  by_cases h1 : x.1 n = -1
  · rw [fstep_n h1]; exact ⟨h, rfl, rfl⟩
  · rw [fstep_p h1]
    have := h n hn
    exact rli_ok (mls_ML f c n 0 s) h hn (by omega) _ (Nat.le_refl _)
theorem FO.fta {f : Nat → Nat} {c s a : Nat} : ∀ {n : Nat} {x : FB}, FO x → n ≤ 256 → FO (fta f c s a n x)
  | 0, _, h, _ => h
  | n + 1, x, h, hn => FO.fta (n := n) (h.fstep (f := f) (c := c) (s := s) (a := a) (n := n) (by omega)).1 (by omega)
theorem fstep_T {f : Nat → Nat} {c s a n T : Nat} {x : FB} (hT : n ≤ T) : (fstep f c s a n x).1 T = x.1 T ∧ (fstep f c s a n x).2 T = x.2 T := by
  by_cases h1 : x.1 n = -1
  · rw [fstep_n h1]; exact ⟨rfl, rfl⟩
  · rw [fstep_p h1]
    have key : ∀ i, i ≤ (mls f c n 0 s).length → (rli n a (mls f c n 0 s) x i).1 T = x.1 T ∧ (rli n a (mls f c n 0 s) x i).2 T = x.2 T := by
      intro i
      induction i with
      | zero => intro _; exact ⟨rfl, rfl⟩
      | succ i ih =>
        intro hi
        obtain ⟨p, q, hp, hq, ev, hb⟩ := mls_ML f c n 0 s i (by omega)
        have hlt : ndiff n (tkb (fn (mls f c n 0 s) i)) < n := by rw [ev, tkb_ab hq]; exact ndiff_lt hb
        have ih := ih (by omega)
        show (rl1 n a _ _).1 T = _ ∧ (rl1 n a _ _).2 T = _
        by_cases hc : RC n a (fn (mls f c n 0 s) i) (rli n a (mls f c n 0 s) x i)
        · rw [rl1_p hc]
          unfold ui
          dsimp only
          rw [if_neg (by omega), if_neg (by omega)]
          exact ih
        · rw [rl1_n hc]; exact ih
    exact key _ (Nat.le_refl _)
theorem fta_T {f : Nat → Nat} {c s a T : Nat} : ∀ {n : Nat} {x : FB}, n ≤ T → (fta f c s a n x).1 T = x.1 T ∧ (fta f c s a n x).2 T = x.2 T
  | 0, _, _ => ⟨rfl, rfl⟩
  | n + 1, x, h => by
    have h1 := fta_T (f := f) (c := c) (s := s) (a := a) (T := T) (n := n) (x := fstep f c s a n x) (by omega)
    have h2 := fstep_T (f := f) (c := c) (s := s) (a := a) (n := n) (T := T) (x := x) (by omega)
    exact ⟨h1.1.trans h2.1, h1.2.trans h2.2⟩
noncomputable def wta (x : FB) : Nat → WT → WT := by
  classical
  exact fun n => Nat.rec (fun w => w) (fun n ih w => ih (if x.1 n ≠ -1 then wg x n (w.1 + 1, w.2) else w)) n
theorem wta_p {x : FB} {n : Nat} {w : WT} (h : x.1 n ≠ -1) : wta x (n + 1) w = wta x n (wg x n (w.1 + 1, w.2)) := by
  show wta x n (if _ then _ else _) = _
  rw [if_pos h]
theorem wta_n {x : FB} {n : Nat} {w : WT} (h : x.1 n = -1) : wta x (n + 1) w = wta x n w := by
  show wta x n (if _ then _ else _) = _
  rw [if_neg (fun z => z h)]
theorem wg_cong {x y : FB} {S : Nat} {w : WT} (h1 : x.1 S = y.1 S) (h2 : x.2 S = y.2 S) : wg x S w = wg y S w := by unfold wg; rw [h1, h2]
theorem ta_wta {f : Nat → Nat} {c s a : Nat} : ∀ {n : Nat} {x : FB} {w : WT}, (ta f c s a n (x, w)).2 = wta (fta f c s a n x) n w
  | 0, _, _ => rfl
  | n + 1, x, w => by
    have e1 : (fta f c s a (n + 1) x).1 n = x.1 n := (fta_T (Nat.le_refl n)).1.trans (fstep_T (Nat.le_refl n)).1
    have e2 : (fta f c s a (n + 1) x).2 n = x.2 n := (fta_T (Nat.le_refl n)).2.trans (fstep_T (Nat.le_refl n)).2
    by_cases h : x.1 n = -1
    · rw [wta_n (by rw [e1]; exact h)]
      show (ta f c s a n (tstep f c s a n (x, w))).2 = _
      rw [tstep_n (y := (x, w)) h, ta_wta]
      show wta (fta f c s a n x) n w = wta (fta f c s a n (fstep f c s a n x)) n w
      rw [fstep_n h]
    · rw [wta_p (by rw [e1]; exact h)]
      show (ta f c s a n (tstep f c s a n (x, w))).2 = _
      rw [tstep_p (y := (x, w)) h, ta_wta]
      show wta (fta f c s a n _) n _ = wta (fta f c s a n (fstep f c s a n x)) n _
      rw [fstep_p h, wg_cong (y := x) e1 e2]
