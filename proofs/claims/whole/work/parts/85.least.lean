/-! lists of moves and moves -/
theorem mls_mem {G : Nat → Nat} {c S v : Nat} (hV : VT c G) (h8 : c ≤ 8) (hS : S < 2 ^ c) : v ∈ mls G c S 0 0 ↔ ∃ a b, a < 8 ∧ b < 8 ∧ a ≤ b ∧ v = 10 * a + b ∧ mv G c S a b := by
  rw [mls_mm hV hS]
  constructor
  · intro h
    rw [← mls_mm hV hS] at h
    obtain ⟨a, b, h1, h2, h3, h4, h5⟩ := mpre_mem.mp h
    rw [mvp_rmv hV hS] at h4
    exact ⟨a, b, h1, h2, h3, h5, (mv_rmv hV hS).mp h4⟩
  · rintro ⟨a, b, h1, h2, h3, rfl, h5⟩
    exact (mem_mm h1 h2 h3).mpr ((mv_rmv hV hS).mpr h5)
theorem nf_mls {G : Nat → Nat} {c S : Nat} (hV : VT c G) (h8 : c ≤ 8) (hS : S < 2 ^ c) : mls G c S 0 0 = [] ↔ nf G c S := by
  constructor
  · intro h a b hm
    have ha := lt_tb hS hm.1
    have hb := lt_tb hS hm.2.1
    have key : ∀ a b, a ≤ b → b < c → mv G c S a b → False := fun a b hab hbc hm => by
      have := (mls_mem hV h8 hS).mpr ⟨a, b, by omega, by omega, hab, rfl, hm⟩
      rw [h] at this
      cases this
    by_cases hab : a ≤ b
    · exact key a b hab hb hm
    · exact key b a (by omega) ha (mv_sym hm)
  · intro h
    cases hm : mls G c S 0 0 with
    | nil => rfl
    | cons v l =>
      obtain ⟨a, b, _, _, _, _, h5⟩ := (mls_mem hV h8 hS).mp (show v ∈ mls G c S 0 0 by rw [hm]; exact List.mem_cons_self)
      exact absurd h5 (h a b)
theorem tkb_rm {S a b : Nat} (hb : b < 8) : ndiff S (tkb (10 * a + b)) = rm S a b := by
  unfold tkb rm
  rw [show (10 * a + b) / 10 = a by omega, show (10 * a + b) % 10 = b by omega]
theorem nd0 (x : Nat) : ndiff x 0 = x := Nat.eq_of_testBit_eq fun i => by rw [ndiff_bit, Nat.zero_testBit]; simp
theorem cls_sub {G : Nat → Nat} {c S x : Nat} (h : (cls G c S 0).testBit x = true) : S.testBit x = true := by
  unfold cls at h
  obtain ⟨j, h1, h2, h3⟩ := (nk_tb _ x _).mp h
  obtain ⟨p, p1, p2, p3⟩ := tr_inv (G := G) (S := S) (m := 2 * c) h1
  have := (tr_rk p1 p2).2
  rw [p3] at this
  have e : pa (Lr G c S 0) j = G p := this
  rw [e] at h2
  rw [← h2]
  exact p2
theorem cls_mv {G : Nat → Nat} {c S x : Nat} (hV : VT c G) (hS : S < 2 ^ c) : (cls G c S 0).testBit x = true ↔ mv G c S x x := by
  have e : mvp (cls G c S 0) (nq 1 (Lr G c S 0) (Lr G c S 0).length) (nq 0 (Lr G c S 0) (Lr G c S 0).length) (ndiff S 0) x x = true ↔ mv G c S x x := by
    rw [mvp_rmv hV hS]
    exact mv_rmv hV hS
  rw [← e, nd0]
  unfold mvp
  constructor
  · intro h
    have hs := cls_sub h
    rw [hs, Nat.testBit_and, Nat.testBit_or, Nat.testBit_and, hs, h, Nat.testBit_two_pow]
    simp
  · intro h
    rw [Bool.and_eq_true, Nat.testBit_and, Nat.testBit_or, Nat.testBit_and, Nat.testBit_and] at h
    cases hk : (cls G c S 0).testBit x with
    | true => rfl
    | false =>
      rw [hk] at h
      have h2 : (nq 1 (Lr G c S 0) (Lr G c S 0).length x).testBit x = true := by
        have := h.2
        simp at this
        exact this.1.1
      obtain ⟨j, _, h3, _, _, h4⟩ := (nq_tb 1 _ x x _).mp h2
      rcases h4 with ⟨h4, h5⟩ | ⟨h4, h5⟩ <;> omega
/-! rows of moves, joined -/
theorem rd_trans {G : Nat → Nat} {c : Nat} : ∀ {n m S T X i j : Nat}, rd G c n S T i → rd G c m T X j → rd G c (n + m) S X (i + j)
  | 0, m, S, T, X, i, j, h1, h2 => by
    obtain ⟨rfl, rfl⟩ := h1
    rw [Nat.zero_add, Nat.zero_add]
    exact h2
  | n + 1, m, S, T, X, i, j, h1, h2 => by
    obtain ⟨a, b, i', hm, hr, hi⟩ := h1
    rw [show n + 1 + m = (n + m) + 1 by omega]
    exact ⟨a, b, i' + j, hm, rd_trans hr h2, by omega⟩
theorem rd_one {G : Nat → Nat} {c S a b : Nat} (h : mv G c S a b) : rd G c 1 S (rm S a b) (wt a b) := ⟨a, b, 0, h, ⟨rfl, rfl⟩, by omega⟩
theorem rd_le {G : Nat → Nat} {c : Nat} : ∀ {n S T j : Nat}, rd G c n S T j → T ≤ S
  | 0, S, T, j, h => by rw [h.1]; exact Nat.le_refl _
  | n + 1, S, T, j, h => by
    obtain ⟨a, b, j', _, hr, _⟩ := h
    exact Nat.le_trans (rd_le hr) (rm_le S a b)
theorem wt_pos (a b : Nat) : 0 < wt a b := by unfold wt; split <;> omega
theorem rd_pos {G : Nat → Nat} {c n S T j : Nat} (h : rd G c n S T j) (hne : T ≠ S) : 0 < j := by
  cases n with
  | zero => exact absurd h.1.symm hne
  | succ n =>
    obtain ⟨a, b, j', _, _, hj⟩ := h
    have := wt_pos a b
    omega
theorem pct_rm1 {S a k : Nat} (h : S.testBit a = true) (ha : a < k) : pct (rm S a a) k + 1 = pct S k := by
  have e : rm S a a ||| 2 ^ a = S := tb_ext fun x => by
    rw [Nat.testBit_or, Bool.or_eq_true, rm_tb, Nat.testBit_two_pow, decide_eq_true_iff]
    constructor
    · rintro (h1 | rfl)
      · exact h1.1
      · exact h
    · intro h1
      by_cases he : a = x
      · exact Or.inr he
      · exact Or.inl ⟨h1, fun z => he z.symm, fun z => he z.symm⟩
  have h2 : (rm S a a).testBit a = false := by
    cases hh : (rm S a a).testBit a with
    | false => rfl
    | true => exact absurd rfl (rm_tb.mp hh).2.1
  have := pct_or h2 k
  rw [e, if_pos ha] at this
  omega
theorem pc_rm {S a b : Nat} (ha : S.testBit a = true) (hb : S.testBit b = true) (ha2 : a < 32) (hb2 : b < 32) : pc_ (rm S a b) + wt a b = pc_ S := by
  unfold pc_ wt
  by_cases he : a = b
  · subst he
    rw [if_pos rfl]
    exact pct_rm1 ha ha2
  · rw [if_neg he, rm_rm]
    have h1 := pct_rm1 (k := 32) ha ha2
    have h2 := pct_rm1 (k := 32) (S := rm S a a) (a := b) (rm_tb.mpr ⟨hb, fun z => he z.symm, fun z => he z.symm⟩) hb2
    omega
theorem rd_pc {G : Nat → Nat} {c : Nat} (h8 : c ≤ 8) : ∀ {n S T j : Nat}, S < 2 ^ c → rd G c n S T j → pc_ T + j = pc_ S
  | 0, S, T, j, hS, h => by rw [h.1, h.2]; rfl
  | n + 1, S, T, j, hS, h => by
    obtain ⟨a, b, j', hm, hr, hj⟩ := h
    have h1 := rd_pc h8 (rm_b hS) hr
    have h2 := pc_rm hm.1 hm.2.1 (by have := lt_tb hS hm.1; omega) (by have := lt_tb hS hm.2.1; omega)
    omega
/-- curls one behind the other -/
theorem rd_curls {G : Nat → Nat} {c S K : Nat} (hV : VT c G) (hS : S < 2 ^ c) (hK : ∀ x, K.testBit x = true → mv G c S x x) : ∀ k, ∃ n j, rd G c n S (ndiff S (K % 2 ^ k)) j
  | 0 => ⟨0, 0, by rw [Nat.pow_zero, Nat.mod_one, nd0], rfl⟩
  | k + 1 => by
    obtain ⟨n, j, h⟩ := rd_curls hV hS hK k
    have tb : ∀ i x, (ndiff S (K % 2 ^ i)).testBit x = true ↔ S.testBit x = true ∧ ¬ (x < i ∧ K.testBit x = true) := fun i x => by
      rw [ndiff_bit, Nat.testBit_mod_two_pow]
      by_cases h1 : x < i <;> simp [h1]
    by_cases hk : K.testBit k = true
    · have hm := hK k hk
      have hT : ndiff S (K % 2 ^ k) < 2 ^ c := Nat.lt_of_le_of_lt (ndiff_le _ _) hS
      have hin : (ndiff S (K % 2 ^ k)).testBit k = true := (tb k k).mpr ⟨hm.1, fun z => absurd z.1 (Nat.lt_irrefl _)⟩
      have hm2 := mv_mono hV hT hm (fun x hx => ((tb k x).mp hx).1) hin hin
      refine ⟨n + 1, j + wt k k, ?_⟩
      have e : ndiff S (K % 2 ^ (k + 1)) = rm (ndiff S (K % 2 ^ k)) k k := tb_ext fun x => by
        rw [tb, rm_tb, tb]
        constructor
        · rintro ⟨h1, h2⟩
          exact ⟨⟨h1, fun z => h2 ⟨by omega, z.2⟩⟩, fun z => h2 ⟨by omega, by rw [z]; exact hk⟩, fun z => h2 ⟨by omega, by rw [z]; exact hk⟩⟩
        · rintro ⟨⟨h1, h2⟩, h3, _⟩
          exact ⟨h1, fun z => h2 ⟨by omega, z.2⟩⟩
      rw [e]
      exact rd_trans h (rd_one hm2)
    · refine ⟨n, j, ?_⟩
      have e : ndiff S (K % 2 ^ (k + 1)) = ndiff S (K % 2 ^ k) := tb_ext fun x => by
        rw [tb, tb]
        constructor
        · rintro ⟨h1, h2⟩
          exact ⟨h1, fun z => h2 ⟨by omega, z.2⟩⟩
        · rintro ⟨h1, h2⟩
          refine ⟨h1, fun z => h2 ⟨?_, z.2⟩⟩
          by_cases he : x = k
          · rw [he] at z; exact absurd z.2 hk
          · omega
      rw [e]
      exact h
theorem rd_cls {G : Nat → Nat} {c S : Nat} (hV : VT c G) (hS : S < 2 ^ c) : ∃ n j, rd G c n S (ndiff S (cls G c S 0)) j := by
  have hlt : cls G c S 0 < 2 ^ c := by
    refine Nat.lt_pow_two_of_testBit _ (fun i hi => ?_)
    cases hb : (cls G c S 0).testBit i with
    | false => rfl
    | true =>
      have := lt_tb hS (cls_sub hb)
      omega
  have := rd_curls hV hS (K := cls G c S 0) (fun x hx => (cls_mv hV hS).mp hx) c
  rw [Nat.mod_eq_of_lt hlt] at this
  exact this
/-- the greedy way is a row of moves to an end -/
theorem lft_rd {G : Nat → Nat} {c : Nat} (hV : VT c G) (h8 : c ≤ 8) : ∀ (n S : Nat), S < 2 ^ c → pc_ S ≤ n → nf G c (lft G c 0 0 n S) ∧ ∃ k j, rd G c k S (lft G c 0 0 n S) j
  | 0, S, hS, hp => by
    have hz : S = 0 := Nat.eq_of_testBit_eq fun i => by
      rw [Nat.zero_testBit]
      cases hb : S.testBit i with
      | false => rfl
      | true =>
        have hi := lt_tb hS hb
        have h1 := pct_rm1 (k := 32) hb (by omega)
        unfold pc_ at hp
        omega
    subst hz
    exact ⟨(nf_mls hV h8 hS).mp (mls_zero G c 0 0), 0, 0, rfl, rfl⟩
  | n + 1, S, hS, hp => by
    show nf G c (if mls G c S 0 0 = [] then S else lft G c 0 0 n (lstep G c 0 0 S)) ∧ ∃ k j, rd G c k S (if mls G c S 0 0 = [] then S else lft G c 0 0 n (lstep G c 0 0 S)) j
    by_cases hm : mls G c S 0 0 = []
    · rw [if_pos hm]
      exact ⟨(nf_mls hV h8 hS).mp hm, 0, 0, rfl, rfl⟩
    · rw [if_neg hm]
      have hst : lstep G c 0 0 S ≠ S ∧ ∃ k j, rd G c k S (lstep G c 0 0 S) j := by
        unfold lstep
        rw [nd0]
        by_cases hc : cls G c S 0 = 0
        · rw [if_neg (fun z => z hc)]
          obtain ⟨a, b, h1, h2, h3, h4, h5⟩ := mls_0 hm
          obtain ⟨a', b', _, _, _, h6, h7⟩ := (mls_mem hV h8 hS).mp h5
          have : a = a' ∧ b = b' := by omega
          obtain ⟨rfl, rfl⟩ := this
          rw [h4, tkb_rm h2]
          exact ⟨Nat.ne_of_lt (rm_lt h7.1), 1, _, rd_one h7⟩
        · rw [if_pos hc]
          refine ⟨fun z => hc (Nat.eq_of_testBit_eq fun i => ?_), rd_cls hV hS⟩
          rw [Nat.zero_testBit]
          cases hb : (cls G c S 0).testBit i with
          | false => rfl
          | true =>
            have h1 := cls_sub hb
            rw [← z, ndiff_bit, hb] at h1
            simp at h1
      obtain ⟨hne, k, j, hr⟩ := hst
      have hpos := rd_pos hr hne
      have hpc := rd_pc h8 hS hr
      have hT : lstep G c 0 0 S < 2 ^ c := Nat.lt_of_le_of_lt (lstep_le G c 0 0 S) hS
      obtain ⟨i1, k2, j2, hr2⟩ := lft_rd hV h8 n (lstep G c 0 0 S) hT (by omega)
      exact ⟨i1, k + k2, j + j2, rd_trans hr hr2⟩
/-! what the search sees -/
theorem EQB_rf (x : FB) : EQB x x := ⟨rfl, fun _ _ => rfl⟩
theorem rl1_vis {S a v : Nat} {x : FB} (hS : x.1 S ≠ -1) (h0 : ∀ T, -1 ≤ x.1 T) (T : Nat) : (rl1 S a v x).1 T ≠ -1 ↔ x.1 T ≠ -1 ∨ T = ndiff S (tkb v) := by
  by_cases hc : RC S a v x
  · rw [rl1_p hc]
    show ui x.1 (ndiff S (tkb v)) (x.1 S + 1) T ≠ -1 ↔ _
    by_cases he : T = ndiff S (tkb v)
    · rw [he, ui_eq]
      have := h0 S
      exact ⟨fun _ => Or.inr rfl, fun _ => by omega⟩
    · rw [ui_ne _ _ he]
      exact ⟨Or.inl, fun z => z.elim id (fun w => absurd w he)⟩
  · have e : rl1 S a v x = x := by unfold rl1; exact if_neg hc
    rw [e]
    refine ⟨Or.inl, fun z => z.elim id (fun w => ?_)⟩
    rw [w]
    exact fun q => hc (Or.inl q)
theorem rli_vis {S a : Nat} {l : List Nat} {x : FB} (hS : x.1 S ≠ -1) (h0 : ∀ T, -1 ≤ x.1 T) (T : Nat) : ∀ i, (rli S a l x i).1 T ≠ -1 ↔ x.1 T ≠ -1 ∨ ∃ k, k < i ∧ T = ndiff S (tkb (fn l k))
  | 0 => ⟨Or.inl, fun z => z.elim id (fun ⟨k, hk, _⟩ => absurd hk (Nat.not_lt_zero k))⟩
  | i + 1 => by
    obtain ⟨_, h1, h2⟩ := EQB.rli (EQB_rf x) hS h0 (a := a) (l := l) i
    show (rl1 S a (fn l i) (rli S a l x i)).1 T ≠ -1 ↔ _
    rw [rl1_vis h1 h2, rli_vis hS h0 T i]
    constructor
    · rintro ((h | ⟨k, hk, e⟩) | h)
      · exact Or.inl h
      · exact Or.inr ⟨k, by omega, e⟩
      · exact Or.inr ⟨i, by omega, h⟩
    · rintro (h | ⟨k, hk, e⟩)
      · exact Or.inl (Or.inl h)
      · by_cases he : k = i
        · subst he; exact Or.inr e
        · exact Or.inl (Or.inr ⟨k, by omega, e⟩)
theorem fn_mem {l : List Nat} {k : Nat} (h : k < l.length) : fn l k ∈ l := by
  rw [fn_lt h]
  exact List.getElem_mem h
theorem mem_fn {l : List Nat} {v : Nat} (h : v ∈ l) : ∃ k, k < l.length ∧ v = fn l k := by
  obtain ⟨k, hk, e⟩ := List.mem_iff_getElem.mp h
  exact ⟨k, hk, by rw [fn_lt hk]; exact e.symm⟩
theorem fstep_0s {f : Nat → Nat} {c s a n : Nat} {x : FB} (h0 : ∀ T, -1 ≤ x.1 T) : ∀ T, -1 ≤ (fstep f c s a n x).1 T := by
  by_cases h : x.1 n = -1
  · rw [fstep_n h]; exact h0
  · rw [fstep_p h]
    exact (EQB.rli (EQB_rf x) h h0 _).2.2
theorem fstep_vis {f : Nat → Nat} {c s a n : Nat} {x : FB} (h0 : ∀ T, -1 ≤ x.1 T) (T : Nat) : (fstep f c s a n x).1 T ≠ -1 ↔ x.1 T ≠ -1 ∨ (x.1 n ≠ -1 ∧ ∃ v, v ∈ mls f c n 0 s ∧ T = ndiff n (tkb v)) := by
  by_cases h : x.1 n = -1
  · rw [fstep_n h]
    exact ⟨Or.inl, fun z => z.elim id (fun w => absurd h w.1)⟩
  · rw [fstep_p h, rli_vis h h0]
    constructor
    · rintro (z | ⟨k, hk, e⟩)
      · exact Or.inl z
      · exact Or.inr ⟨h, _, fn_mem hk, e⟩
    · rintro (z | ⟨_, v, hv, e⟩)
      · exact Or.inl z
      · obtain ⟨k, hk, rfl⟩ := mem_fn hv
        exact Or.inr ⟨k, hk, e⟩
theorem fta_sound {f : Nat → Nat} {c s a : Nat} {Good : Nat → Prop} (hG : ∀ S v, Good S → v ∈ mls f c S 0 s → Good (ndiff S (tkb v))) : ∀ {n : Nat} {x : FB}, (∀ T, -1 ≤ x.1 T) → (∀ T, x.1 T ≠ -1 → Good T) → ∀ T, (fta f c s a n x).1 T ≠ -1 → Good T
  | 0, x, _, h, T, hT => h T hT
  | n + 1, x, h0, h, T, hT => by
    refine fta_sound hG (n := n) (x := fstep f c s a n x) (fstep_0s h0) (fun T hT => ?_) T hT
    rcases (fstep_vis h0 T).mp hT with z | ⟨z, v, hv, e⟩
    · exact h T z
    · rw [e]; exact hG n v (h n z) hv
theorem fta_mon {f : Nat → Nat} {c s a : Nat} : ∀ {n : Nat} {x : FB}, (∀ T, -1 ≤ x.1 T) → ∀ T, x.1 T ≠ -1 → (fta f c s a n x).1 T ≠ -1
  | 0, x, _, T, hT => hT
  | n + 1, x, h0, T, hT => fta_mon (n := n) (x := fstep f c s a n x) (fstep_0s h0) T ((fstep_vis h0 T).mpr (Or.inl hT))
theorem fta_comp {f : Nat → Nat} {c s a : Nat} : ∀ {n : Nat} {x : FB}, (∀ T, -1 ≤ x.1 T) → ∀ S, S < n → (fta f c s a n x).1 S ≠ -1 → ∀ v, v ∈ mls f c S 0 s → (fta f c s a n x).1 (ndiff S (tkb v)) ≠ -1
  | 0, x, _, S, hS, _, _, _ => absurd hS (Nat.not_lt_zero S)
  | n + 1, x, h0, S, hS, hv, v, hm => by
    by_cases he : S = n
    · subst he
      have h1 : x.1 S ≠ -1 := by
        have e : (fta f c s a (S + 1) x).1 S = x.1 S := (fta_T (Nat.le_refl S)).1.trans (fstep_T (Nat.le_refl S)).1
        rw [e] at hv
        exact hv
      exact fta_mon (n := S) (fstep_0s h0) _ ((fstep_vis h0 _).mpr (Or.inr ⟨h1, v, hm, rfl⟩))
    · exact fta_comp (n := n) (x := fstep f c s a n x) (fstep_0s h0) S (by omega) hv v hm
theorem wg_few (x : FB) (S : Nat) (w : WT) : (wg x S w).2.1 ≤ w.2.1 ∧ (wg x S w).2.1 ≤ (pc_ S : Int) ∧ ((wg x S w).2.1 = w.2.1 ∨ (wg x S w).2.1 = (pc_ S : Int)) := by
  by_cases h : lx3 (pc_ S) (x.1 S) (x.2 S) w
  · rw [wg_p h]
    unfold lx3 at h
    exact ⟨by show (pc_ S : Int) ≤ w.2.1; omega, Int.le_refl _, Or.inr rfl⟩
  · rw [wg_n h]
    unfold lx3 at h
    exact ⟨Int.le_refl _, by omega, Or.inl rfl⟩
theorem wta_few (x : FB) : ∀ (n : Nat) (w : WT), (wta x n w).2.1 ≤ w.2.1 ∧ (∀ T, T < n → x.1 T ≠ -1 → (wta x n w).2.1 ≤ (pc_ T : Int)) ∧ ((wta x n w).2.1 = w.2.1 ∨ ∃ T, T < n ∧ x.1 T ≠ -1 ∧ (wta x n w).2.1 = (pc_ T : Int))
  | 0, w => ⟨Int.le_refl _, fun T hT => absurd hT (Nat.not_lt_zero T), Or.inl rfl⟩
  | n + 1, w => by
    by_cases h : x.1 n = -1
    · rw [wta_n h]
      obtain ⟨h1, h2, h3⟩ := wta_few x n w
      refine ⟨h1, fun T hT hv => ?_, h3.elim Or.inl (fun ⟨T, a, b⟩ => Or.inr ⟨T, by omega, b⟩)⟩
      by_cases he : T = n
      · rw [he] at hv; exact absurd h hv
      · exact h2 T (by omega) hv
    · rw [wta_p h]
      obtain ⟨h1, h2, h3⟩ := wta_few x n (wg x n (w.1 + 1, w.2))
      obtain ⟨g1, g2, g3⟩ := wg_few x n (w.1 + 1, w.2)
      have g1 : (wg x n (w.1 + 1, w.2)).2.1 ≤ w.2.1 := g1
      refine ⟨by omega, fun T hT hv => ?_, ?_⟩
      · by_cases he : T = n
        · rw [he]; omega
        · exact h2 T (by omega) hv
      · rcases h3 with h3 | ⟨T, a, b⟩
        · rcases g3 with g3 | g3
          · exact Or.inl (by rw [h3, g3])
          · exact Or.inr ⟨n, by omega, h, by rw [h3, g3]⟩
        · exact Or.inr ⟨T, by omega, b⟩
theorem r_try_wta (c H : Nat) (G : Nat → Nat) : r_try (c, H, G) (fun _ => 0) = wta (fta G c H (2 ^ c - 1) (2 ^ c) (x00 (2 ^ c - 1) (fun _ => 0))) (2 ^ c) (0, (c : Int), 0, -1) := ta_wta
theorem x00_v (a : Nat) (B : Nat → Int) : (∀ T, -1 ≤ (x00 a B).1 T) ∧ ∀ T, (x00 a B).1 T ≠ -1 ↔ T = a := by
  have e : ∀ T, (x00 a B).1 T = if T = a then 0 else -1 := fun T => rfl
  constructor
  · intro T
    rw [e]
    split <;> omega
  · intro T
    rw [e]
    by_cases h : T = a
    · rw [if_pos h]
      exact ⟨fun _ => h, fun _ => by omega⟩
    · rw [if_neg h]
      exact ⟨fun z => absurd rfl z, fun z => absurd z h⟩
/-- greedy leaves the fewest -/
theorem few_eq {c : Nat} {G : Nat → Nat} (hV : VT c G) (h8 : c ≤ 8) : (r_try (c, 0, G) (fun _ => 0)).2.1 = (pc_ (lft G c 0 0 8 (2 ^ c - 1)) : Int) := by
  have hp : 0 < 2 ^ c := Nat.pow_pos (by omega)
  have hF : 2 ^ c - 1 < 2 ^ c := by omega
  have hpc : pc_ (2 ^ c - 1) = c := by
    have : 2 ^ c ≤ 2 ^ 8 := Nat.pow_le_pow_right (by omega) h8
    rw [pc_8 (by omega)]
    exact pct_all c (by omega)
  obtain ⟨nL, kL, jL, rL⟩ := lft_rd hV h8 8 (2 ^ c - 1) hF (by omega)
  have pL := rd_pc h8 hF rL
  rw [r_try_wta]
  obtain ⟨x0a, x0b⟩ := x00_v (2 ^ c - 1) (fun _ => 0)
  have snd := fta_sound (f := G) (c := c) (s := 0) (a := 2 ^ c - 1) (Good := fun T => T < 2 ^ c ∧ ∃ k j, rd G c k (2 ^ c - 1) T j) (fun S v hS hv => by
    obtain ⟨h1, k, j, h2⟩ := hS
    obtain ⟨a, b, _, hb, _, rfl, hm⟩ := (mls_mem hV h8 h1).mp hv
    rw [tkb_rm hb]
    exact ⟨rm_b h1, k + 1, _, rd_trans h2 (rd_one hm)⟩) (n := 2 ^ c) (x := x00 (2 ^ c - 1) (fun _ => 0)) x0a (fun T hT => by
    rw [(x0b T).mp hT]
    exact ⟨hF, 0, 0, rfl, rfl⟩)
  have cmp := fta_comp (f := G) (c := c) (s := 0) (a := 2 ^ c - 1) (n := 2 ^ c) (x := x00 (2 ^ c - 1) (fun _ => 0)) x0a
  have v0 := fta_mon (f := G) (c := c) (s := 0) (a := 2 ^ c - 1) (n := 2 ^ c) (x := x00 (2 ^ c - 1) (fun _ => 0)) x0a (2 ^ c - 1) ((x0b _).mpr rfl)
  generalize fta G c 0 (2 ^ c - 1) (2 ^ c) (x00 (2 ^ c - 1) (fun _ => 0)) = X at snd cmp v0
  have vis : ∀ n S T j, S < 2 ^ c → X.1 S ≠ -1 → rd G c n S T j → X.1 T ≠ -1 := by
    intro n
    induction n with
    | zero => intro S T j _ hS h; rw [← h.1]; exact hS
    | succ n ih =>
      intro S T j hS hv h
      obtain ⟨a, b, j', hm, hr, _⟩ := h
      have ha := lt_tb hS hm.1
      have hb := lt_tb hS hm.2.1
      refine ih (rm S a b) T j' (rm_b hS) ?_ hr
      by_cases hab : a ≤ b
      · have := cmp S hS hv (10 * a + b) ((mls_mem hV h8 hS).mpr ⟨a, b, by omega, by omega, hab, rfl, hm⟩)
        rw [tkb_rm (by omega)] at this
        exact this
      · have := cmp S hS hv (10 * b + a) ((mls_mem hV h8 hS).mpr ⟨b, a, by omega, by omega, by omega, rfl, mv_sym hm⟩)
        rw [tkb_rm (by omega), rm_sym] at this
        exact this
  have vL := vis kL _ _ jL hF v0 rL
  have hLb : lft G c 0 0 8 (2 ^ c - 1) < 2 ^ c := Nat.lt_of_le_of_lt (rd_le rL) hF
  obtain ⟨w1, w2, w3⟩ := wta_few X (2 ^ c) (0, (c : Int), 0, -1)
  have w1 : (wta X (2 ^ c) (0, (c : Int), 0, -1)).2.1 ≤ (c : Int) := w1
  have lo := w2 _ hLb vL
  have hi : (pc_ (lft G c 0 0 8 (2 ^ c - 1)) : Int) ≤ (wta X (2 ^ c) (0, (c : Int), 0, -1)).2.1 := by
    rcases w3 with e | ⟨T, t1, t2, t3⟩
    · have e : (wta X (2 ^ c) (0, (c : Int), 0, -1)).2.1 = (c : Int) := e
      rw [e]
      omega
    · obtain ⟨_, k, j, hr⟩ := snd T t2
      obtain ⟨k2, Z, j2, hr2, hz⟩ := rd_nf (G := G) (c := c) T
      have hu := rd_uniq hV (2 ^ c - 1) hF (rd_trans hr hr2) hz rL nL
      have hq := rd_pc h8 hF hr
      rw [t3]
      omega
  omega
