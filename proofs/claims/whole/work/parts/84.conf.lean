/-! moves by positions -/
def oP (G : Nat → Nat) (c x : Nat) : Nat := pos G (2 * x + 1) (2 * c)
def uP (G : Nat → Nat) (c x : Nat) : Nat := pos G (2 * x) (2 * c)
theorem oP_ok {G : Nat → Nat} {c x : Nat} (hV : VT c G) (hx : x < c) : oP G c x < 2 * c ∧ G (oP G c x) = 2 * x + 1 := pos_ok (VT_sur hV (by omega))
theorem uP_ok {G : Nat → Nat} {c x : Nat} (hV : VT c G) (hx : x < c) : uP G c x < 2 * c ∧ G (uP G c x) = 2 * x := pos_ok (VT_sur hV (by omega))
theorem at_pos {G : Nat → Nat} {c p : Nat} (hV : VT c G) (hp : p < 2 * c) : (G p % 2 = 1 → p = oP G c (G p / 2)) ∧ (G p % 2 = 0 → p = uP G c (G p / 2)) := by
  have h1 := hV.1 p hp
  constructor
  · intro h
    obtain ⟨a, b⟩ := oP_ok hV (x := G p / 2) (by omega)
    exact hV.2 _ _ hp a (by omega)
  · intro h
    obtain ⟨a, b⟩ := uP_ok hV (x := G p / 2) (by omega)
    exact hV.2 _ _ hp a (by omega)
theorem Al_o {G : Nat → Nat} {c S x : Nat} (hV : VT c G) (hx : x < c) (h : S.testBit x = true) : Al G c S (oP G c x) := by
  obtain ⟨a, b⟩ := oP_ok hV hx
  exact ⟨a, by rw [b, show (2 * x + 1) / 2 = x by omega]; exact h⟩
theorem Al_u {G : Nat → Nat} {c S x : Nat} (hV : VT c G) (hx : x < c) (h : S.testBit x = true) : Al G c S (uP G c x) := by
  obtain ⟨a, b⟩ := uP_ok hV hx
  exact ⟨a, by rw [b, show 2 * x / 2 = x by omega]; exact h⟩
theorem oP_inj {G : Nat → Nat} {c x y : Nat} (hV : VT c G) (hx : x < c) (hy : y < c) (h : oP G c x = oP G c y) : x = y := by
  have a := (oP_ok hV hx).2
  have b := (oP_ok hV hy).2
  rw [h] at a
  omega
theorem uP_inj {G : Nat → Nat} {c x y : Nat} (hV : VT c G) (hx : x < c) (hy : y < c) (h : uP G c x = uP G c y) : x = y := by
  have a := (uP_ok hV hx).2
  have b := (uP_ok hV hy).2
  rw [h] at a
  omega
theorem oP_uP {G : Nat → Nat} {c x y : Nat} (hV : VT c G) (hx : x < c) (hy : y < c) : oP G c x ≠ uP G c y := fun h => by
  have a := (oP_ok hV hx).2
  have b := (uP_ok hV hy).2
  rw [h] at a
  omega
def mv (G : Nat → Nat) (c S a b : Nat) : Prop := S.testBit a = true ∧ S.testBit b = true ∧ (a = b → Aj (Al G c S) (oP G c a) (uP G c a)) ∧ (a ≠ b → Aj (Al G c S) (oP G c a) (oP G c b) ∧ Aj (Al G c S) (uP G c a) (uP G c b))
theorem mv_rmv {G : Nat → Nat} {c S a b : Nat} (hV : VT c G) (hS : S < 2 ^ c) : rmv G c S 0 a b = true ↔ mv G c S a b := by
  unfold rmv imv mv
  rw [Nat.zero_testBit, Nat.zero_testBit]
  by_cases ha : S.testBit a = true
  · by_cases hb : S.testBit b = true
    · have hac := lt_tb hS ha
      have hbc := lt_tb hS hb
      rw [ha, hb]
      by_cases he : a = b
      · subst he
        rw [if_pos rfl]
        have this : bes (tr_ G S 0 (2 * c)).length (oG G S c a) (uG G S c a) = true ↔ Aj (Al G c S) (oP G c a) (uP G c a) := bes_aj (oP_uP hV hac hac) (Al_o hV hac ha) (Al_u hV hac ha)
        constructor
        · intro h
          exact ⟨rfl, rfl, fun _ => this.mp (by simpa using h), fun z => absurd rfl z⟩
        · intro h
          have h2 := this.mpr (h.2.2.1 rfl)
          simpa using h2
      · rw [if_neg he]
        have h1 := bes_aj (fun z => he (oP_inj hV hac hbc z)) (Al_o hV hac ha) (Al_o hV hbc hb)
        have h2 := bes_aj (fun z => he (uP_inj hV hac hbc z)) (Al_u hV hac ha) (Al_u hV hbc hb)
        constructor
        · intro h
          have h3 : bes (tr_ G S 0 (2 * c)).length (oG G S c a) (oG G S c b) = true ∧ bes (tr_ G S 0 (2 * c)).length (uG G S c a) (uG G S c b) = true := by simpa using h
          exact ⟨rfl, rfl, fun z => absurd z he, fun _ => ⟨h1.mp h3.1, h2.mp h3.2⟩⟩
        · intro h
          obtain ⟨h3, h4⟩ := h.2.2.2 he
          have h3 : bes (tr_ G S 0 (2 * c)).length (oG G S c a) (oG G S c b) = true := h1.mpr h3
          have h4 : bes (tr_ G S 0 (2 * c)).length (uG G S c a) (uG G S c b) = true := h2.mpr h4
          simp [h3, h4]
    · constructor
      · intro h
        simp [hb] at h
      · intro h
        exact absurd h.2.1 hb
  · constructor
    · intro h
      simp [ha] at h
    · intro h
      exact absurd h.1 ha
theorem mv_sym {G : Nat → Nat} {c S a b : Nat} (h : mv G c S a b) : mv G c S b a := ⟨h.2.1, h.1, fun z => by subst z; exact h.2.2.1 rfl, fun z => ⟨(h.2.2.2 (fun w => z w.symm)).1.symm, (h.2.2.2 (fun w => z w.symm)).2.symm⟩⟩
def rm (S a b : Nat) : Nat := ndiff S (2 ^ a ||| 2 ^ b)
theorem rm_tb {S a b x : Nat} : (rm S a b).testBit x = true ↔ S.testBit x = true ∧ x ≠ a ∧ x ≠ b := by
  unfold rm
  rw [ndiff_bit, Nat.testBit_or, Nat.testBit_two_pow, Nat.testBit_two_pow]
  constructor
  · intro h
    simp at h
    exact ⟨h.1, fun z => h.2.1 z.symm, fun z => h.2.2 z.symm⟩
  · rintro ⟨h1, h2, h3⟩
    simp [h1]
    exact ⟨fun z => h2 z.symm, fun z => h3 z.symm⟩
theorem tb_ext {S T : Nat} (h : ∀ x, S.testBit x = true ↔ T.testBit x = true) : S = T := Nat.eq_of_testBit_eq fun i => Bool.eq_iff_iff.mpr (h i)
theorem rm_sym (S a b : Nat) : rm S a b = rm S b a := tb_ext fun x => by rw [rm_tb, rm_tb]; exact ⟨fun h => ⟨h.1, h.2.2, h.2.1⟩, fun h => ⟨h.1, h.2.2, h.2.1⟩⟩
theorem rm_le (S a b : Nat) : rm S a b ≤ S := ndiff_le _ _
theorem rm_lt {S a b : Nat} (h : S.testBit a = true) : rm S a b < S := ndiff_lt h
theorem rm_rm (S a b : Nat) : rm S a b = rm (rm S a a) b b := tb_ext fun x => by
  rw [rm_tb, rm_tb, rm_tb]
  exact ⟨fun h => ⟨⟨h.1, h.2.1, h.2.1⟩, h.2.2, h.2.2⟩, fun h => ⟨h.1.1, h.1.2.1, h.2.1⟩⟩
theorem wo_comm (A : Nat → Prop) (x y : Nat) : wo (wo A x) y = wo (wo A y) x := funext fun z => propext ⟨fun h => ⟨⟨h.1.1, h.2⟩, h.1.2⟩, fun h => ⟨⟨h.1.1, h.2⟩, h.1.2⟩⟩
theorem Al_rm {G : Nat → Nat} {c S a : Nat} (hV : VT c G) (ha : a < c) : Al G c (rm S a a) = wo (wo (Al G c S) (oP G c a)) (uP G c a) := funext fun p => propext (by
  unfold wo Al
  constructor
  · rintro ⟨h1, h2⟩
    obtain ⟨h3, h4, _⟩ := rm_tb.mp h2
    refine ⟨⟨⟨h1, h3⟩, fun z => h4 ?_⟩, fun z => h4 ?_⟩
    · rw [z, (oP_ok hV ha).2]; omega
    · rw [z, (uP_ok hV ha).2]; omega
  · rintro ⟨⟨⟨h1, h2⟩, h3⟩, h4⟩
    have hne : G p / 2 ≠ a := fun z => by
      have := at_pos hV h1
      rw [z] at this
      have h5 : G p % 2 = 1 ∨ G p % 2 = 0 := by omega
      rcases h5 with h5 | h5
      · exact h3 (this.1 h5)
      · exact h4 (this.2 h5)
    exact ⟨h1, rm_tb.mpr ⟨h2, hne, hne⟩⟩)
theorem mv_mono {G : Nat → Nat} {c S T a b : Nat} (hV : VT c G) (hT : T < 2 ^ c) (h : mv G c S a b) (hs : ∀ x, T.testBit x = true → S.testBit x = true) (ha : T.testBit a = true) (hb : T.testBit b = true) : mv G c T a b := by
  have hac := lt_tb hT ha
  have hbc := lt_tb hT hb
  have hA : ∀ p, Al G c T p → Al G c S p := fun p hp => ⟨hp.1, hs _ hp.2⟩
  exact ⟨ha, hb, fun z => (h.2.2.1 z).mono hA (Al_o hV hac ha) (Al_u hV hac ha), fun z => ⟨(h.2.2.2 z).1.mono hA (Al_o hV hac ha) (Al_o hV hbc hb), (h.2.2.2 z).2.mono hA (Al_u hV hac ha) (Al_u hV hbc hb)⟩⟩
/-- the same ropes but for names -/
def IsoB (G : Nat → Nat) (c : Nat) (φ ψ : Nat → Nat) (S T : Nat) : Prop := FIso (Al G c S) (Al G c T) φ ψ ∧ (∀ p, Al G c S p → G (φ p) % 2 = G p % 2) ∧ ∀ p q, Al G c S p → Al G c S q → (G p / 2 = G q / 2 ↔ G (φ p) / 2 = G (φ q) / 2)
theorem IsoB.symm {G : Nat → Nat} {c S T : Nat} {φ ψ : Nat → Nat} (h : IsoB G c φ ψ S T) : IsoB G c ψ φ T S := ⟨h.1.symm, fun p hp => by
  have := h.2.1 _ (h.1.2.1 p hp).1
  rw [(h.1.2.1 p hp).2] at this
  exact this.symm, fun p q hp hq => by
  have := h.2.2 _ _ (h.1.2.1 p hp).1 (h.1.2.1 q hq).1
  rw [(h.1.2.1 p hp).2, (h.1.2.1 q hq).2] at this
  exact this.symm⟩
theorem IsoB.aj {G : Nat → Nat} {c S T p q : Nat} {φ ψ : Nat → Nat} (h : IsoB G c φ ψ S T) (ha : Aj (Al G c S) p q) : Aj (Al G c T) (φ p) (φ q) := ha.elim (fun z => Or.inl ((h.1.2.2 _ _ z.1 z.2.1).mp z)) (fun z => Or.inr ((h.1.2.2 _ _ z.1 z.2.1).mp z))
/-- what a crossing is there -/
theorem IsoB.at {G : Nat → Nat} {c S T x : Nat} {φ ψ : Nat → Nat} (hV : VT c G) (hS : S < 2 ^ c) (h : IsoB G c φ ψ S T) (hx : S.testBit x = true) : ∃ y, T.testBit y = true ∧ y < c ∧ φ (oP G c x) = oP G c y ∧ φ (uP G c x) = uP G c y := by
  have hxc := lt_tb hS hx
  have ao := Al_o hV hxc hx
  have au := Al_u hV hxc hx
  obtain ⟨b1, b2⟩ := (h.1.1 _ ao).1
  obtain ⟨d1, d2⟩ := (h.1.1 _ au).1
  have e1 := h.2.1 _ ao
  have e2 := h.2.1 _ au
  have e3 := (h.2.2 _ _ ao au).mp (by rw [(oP_ok hV hxc).2, (uP_ok hV hxc).2]; omega)
  rw [(oP_ok hV hxc).2] at e1
  rw [(uP_ok hV hxc).2] at e2
  have hlt := hV.1 _ b1
  refine ⟨G (φ (oP G c x)) / 2, b2, by omega, (at_pos hV b1).1 (by omega), ?_⟩
  rw [e3]
  exact (at_pos hV d1).2 (by omega)
theorem IsoB.rem {G : Nat → Nat} {c S T x y : Nat} {φ ψ : Nat → Nat} (hV : VT c G) (h : IsoB G c φ ψ S T) (hxc : x < c) (hyc : y < c) (hx : S.testBit x = true) (e1 : φ (oP G c x) = oP G c y) (e2 : φ (uP G c x) = uP G c y) : IsoB G c φ ψ (rm S x x) (rm T y y) := by
  have sub : ∀ p, Al G c (rm S x x) p → Al G c S p := fun p hp => ⟨hp.1, (rm_tb.mp hp.2).1⟩
  refine ⟨?_, fun p hp => h.2.1 p (sub p hp), fun p q hp hq => h.2.2 p q (sub p hp) (sub q hq)⟩
  rw [Al_rm hV hxc, Al_rm hV hyc, ← e1, ← e2]
  exact (h.1.rem (Al_o hV hxc hx)).rem ⟨Al_u hV hxc hx, fun z => oP_uP hV hxc hxc z.symm⟩
def wt (a b : Nat) : Nat := if a = b then 1 else 2
theorem iso_mv {G : Nat → Nat} {c S T a b : Nat} {φ ψ : Nat → Nat} (hV : VT c G) (hS : S < 2 ^ c) (h : IsoB G c φ ψ S T) (hm : mv G c S a b) : ∃ a' b', mv G c T a' b' ∧ wt a b = wt a' b' ∧ IsoB G c φ ψ (rm S a b) (rm T a' b') := by
  have hac := lt_tb hS hm.1
  have hbc := lt_tb hS hm.2.1
  obtain ⟨a', a1, a2, a3, a4⟩ := h.at hV hS hm.1
  obtain ⟨b', b1, b2, b3, b4⟩ := h.at hV hS hm.2.1
  by_cases he : a = b
  · subst he
    refine ⟨a', a', ⟨a1, a1, fun _ => ?_, fun z => absurd rfl z⟩, by unfold wt; rw [if_pos rfl, if_pos rfl], h.rem hV hac a2 hm.1 a3 a4⟩
    have := h.aj (hm.2.2.1 rfl)
    rw [a3, a4] at this
    exact this
  · have hne : a' ≠ b' := fun z => he (by
      rw [z, ← b3] at a3
      exact oP_inj hV hac hbc (h.1.inj (Al_o hV hac hm.1) (Al_o hV hbc hm.2.1) a3))
    refine ⟨a', b', ⟨a1, b1, fun z => absurd z hne, fun _ => ?_⟩, by unfold wt; rw [if_neg he, if_neg hne], ?_⟩
    · have h1 := h.aj (hm.2.2.2 he).1
      have h2 := h.aj (hm.2.2.2 he).2
      rw [a3, b3] at h1
      rw [a4, b4] at h2
      exact ⟨h1, h2⟩
    · rw [rm_rm S a b, rm_rm T a' b']
      exact (h.rem hV hac a2 hm.1 a3 a4).rem hV hbc b2 (rm_tb.mpr ⟨hm.2.1, fun z => he z.symm, fun z => he z.symm⟩) b3 b4
/-- two pokes that share a crossing leave the same but for names -/
theorem poke2 {G : Nat → Nat} {c S x b d : Nat} (hV : VT c G) (hS : S < 2 ^ c) (hxb : x ≠ b) (hxd : x ≠ d) (hbd : b ≠ d) (h1 : mv G c S x b) (h2 : mv G c S x d) : ∃ φ ψ, IsoB G c φ ψ (rm S x b) (rm S x d) := by
  have hx := lt_tb hS h1.1
  have hb := lt_tb hS h1.2.1
  have hd := lt_tb hS h2.2.1
  obtain ⟨o1, u1⟩ := h1.2.2.2 hxb
  obtain ⟨o2, u2⟩ := h2.2.2.2 hxd
  have nbx : oP G c b ≠ oP G c x := fun z => hxb (oP_inj hV hx hb z.symm)
  have ndx : oP G c d ≠ oP G c x := fun z => hxd (oP_inj hV hx hd z.symm)
  have nbd : oP G c b ≠ oP G c d := fun z => hbd (oP_inj hV hb hd z)
  have mbx : uP G c b ≠ uP G c x := fun z => hxb (uP_inj hV hx hb z.symm)
  have mdx : uP G c d ≠ uP G c x := fun z => hxd (uP_inj hV hx hd z.symm)
  have mbd : uP G c b ≠ uP G c d := fun z => hbd (uP_inj hV hb hd z)
  have f1 := tri3 nbx ndx nbd o1 o2
  have in0 : ∀ p, Al G c S p → (∀ y, y < c → p ≠ oP G c y) → wo (wo (Al G c S) (oP G c x)) (oP G c b) p := fun p hp hn => ⟨⟨hp, hn x hx⟩, hn b hb⟩
  have in1 : ∀ p, Al G c S p → (∀ y, y < c → p ≠ oP G c y) → wo (wo (Al G c S) (oP G c x)) (oP G c d) p := fun p hp hn => ⟨⟨hp, hn x hx⟩, hn d hd⟩
  have un : ∀ z, z < c → ∀ y, y < c → uP G c z ≠ oP G c y := fun z hz y hy w => oP_uP hV hy hz w.symm
  have aux := Al_u hV hx h1.1
  have aub := Al_u hV hb h1.2.1
  have aud := Al_u hV hd h2.2.1
  have fx : ∀ z, z < c → sw1 (oP G c d) (oP G c b) (uP G c z) = uP G c z := fun z hz => sw1_ne (un z hz d hd)
  have f2 := f1.rem (in0 _ aux (un x hx))
  rw [fx x hx] at f2
  have f3 := f2.rem (r := uP G c b) ⟨in0 _ aub (un b hb), mbx⟩
  rw [fx b hb] at f3
  have sub : ∀ p, wo (wo (Al G c S) (oP G c x)) (oP G c d) p → Al G c S p := fun p hp => hp.1.1
  have f4 := tri3 mbx mdx mbd (u1.mono sub (in1 _ aux (un x hx)) (in1 _ aub (un b hb))) (u2.mono sub (in1 _ aux (un x hx)) (in1 _ aud (un d hd)))
  have f5 := f3.trans f4
  have eA : Al G c (rm S x b) = wo (wo (wo (wo (Al G c S) (oP G c x)) (oP G c b)) (uP G c x)) (uP G c b) := by
    rw [rm_rm, Al_rm hV hb, Al_rm hV hx, wo_comm (wo (Al G c S) (oP G c x)) (uP G c x) (oP G c b)]
  have eB : Al G c (rm S x d) = wo (wo (wo (wo (Al G c S) (oP G c x)) (oP G c d)) (uP G c x)) (uP G c d) := by
    rw [rm_rm, Al_rm hV hd, Al_rm hV hx, wo_comm (wo (Al G c S) (oP G c x)) (uP G c x) (oP G c d)]
  rw [← eA, ← eB] at f5
  have lab : ∀ p, Al G c (rm S x b) p → G (sw1 (uP G c d) (uP G c b) (sw1 (oP G c d) (oP G c b) p)) = if G p / 2 = d then 2 * b + G p % 2 else G p := fun p hp => by
    have hpc := hp.1
    by_cases e1 : p = oP G c d
    · rw [e1, sw1_eq, sw1_ne (oP_uP hV hb hd), (oP_ok hV hb).2, (oP_ok hV hd).2, if_pos (by omega)]
      omega
    · rw [sw1_ne e1]
      by_cases e2 : p = uP G c d
      · rw [e2, sw1_eq, (uP_ok hV hb).2, (uP_ok hV hd).2, if_pos (by omega)]
        omega
      · rw [sw1_ne e2, if_neg (fun z => ?_)]
        have := at_pos hV hpc
        rw [z] at this
        have h5 : G p % 2 = 1 ∨ G p % 2 = 0 := by omega
        rcases h5 with h5 | h5
        · exact e1 (this.1 h5)
        · exact e2 (this.2 h5)
  refine ⟨_, _, f5, fun p hp => ?_, fun p q hp hq => ?_⟩
  · show G (sw1 (uP G c d) (uP G c b) (sw1 (oP G c d) (oP G c b) p)) % 2 = _
    rw [lab p hp]
    split <;> omega
  · show _ ↔ G (sw1 (uP G c d) (uP G c b) (sw1 (oP G c d) (oP G c b) p)) / 2 = G (sw1 (uP G c d) (uP G c b) (sw1 (oP G c d) (oP G c b) q)) / 2
    rw [lab p hp, lab q hq]
    have n1 := (rm_tb.mp hp.2).2.2
    have n2 := (rm_tb.mp hq.2).2.2
    split <;> split <;> omega
/-- a curl of one that could be poked leaves the other to be curled -/
theorem curl_poke {G : Nat → Nat} {c S a d : Nat} (hV : VT c G) (hS : S < 2 ^ c) (had : a ≠ d) (h1 : mv G c S a a) (h2 : mv G c S a d) : mv G c (rm S a a) d d := by
  have hac := lt_tb hS h1.1
  have hdc := lt_tb hS h2.2.1
  have hdS : (rm S a a).testBit d = true := rm_tb.mpr ⟨h2.2.1, fun z => had z.symm, fun z => had z.symm⟩
  refine ⟨hdS, hdS, fun _ => ?_, fun z => absurd rfl z⟩
  rw [Al_rm hV hac]
  obtain ⟨o, u⟩ := h2.2.2.2 had
  exact aj_out (fun z => had (oP_inj hV hac hdc z.symm)) (oP_uP hV hdc hac) (fun z => oP_uP hV hac hdc z.symm) (fun z => had (uP_inj hV hac hdc z.symm)) (oP_uP hV hac hac) o (h1.2.2.1 rfl) u
/-! rows of moves -/
def rd (G : Nat → Nat) (c : Nat) : Nat → Nat → Nat → Nat → Prop
  | 0, S, T, j => S = T ∧ j = 0
  | n + 1, S, T, j => ∃ a b j', mv G c S a b ∧ rd G c n (rm S a b) T j' ∧ j = j' + wt a b
def nf (G : Nat → Nat) (c S : Nat) : Prop := ∀ a b, ¬ mv G c S a b
theorem rm_b {c S a b : Nat} (h : S < 2 ^ c) : rm S a b < 2 ^ c := Nat.lt_of_le_of_lt (rm_le S a b) h
theorem rd_nf {G : Nat → Nat} {c : Nat} : ∀ S, ∃ n T j, rd G c n S T j ∧ nf G c T := by
  intro S
  induction S using Nat.strongRecOn with
  | ind S ih =>
    by_cases h : nf G c S
    · exact ⟨0, S, 0, ⟨rfl, rfl⟩, h⟩
    · unfold nf at h
      obtain ⟨a, h⟩ := Classical.not_forall.mp h
      obtain ⟨b, h⟩ := Classical.not_forall.mp h
      have h := Classical.not_not.mp h
      obtain ⟨n, T, j, h1, h2⟩ := ih _ (rm_lt (b := b) h.1)
      exact ⟨n + 1, T, j + wt a b, ⟨a, b, j, h, h1, rfl⟩, h2⟩
theorem nf_iso {G : Nat → Nat} {c S T : Nat} {φ ψ : Nat → Nat} (hV : VT c G) (hT : T < 2 ^ c) (h : IsoB G c φ ψ S T) (hn : nf G c S) : nf G c T := fun a b hm => by
  obtain ⟨a', b', h1, _⟩ := iso_mv hV hT h.symm hm
  exact hn a' b' h1
theorem rd_iso {G : Nat → Nat} {c : Nat} (hV : VT c G) : ∀ {n S T X j : Nat} {φ ψ : Nat → Nat}, S < 2 ^ c → T < 2 ^ c → IsoB G c φ ψ S T → rd G c n S X j → nf G c X → ∃ Y, rd G c n T Y j ∧ nf G c Y
  | 0, S, T, X, j, φ, ψ, hS, hT, h, hr, hn => by
    obtain ⟨rfl, rfl⟩ := hr
    exact ⟨T, ⟨rfl, rfl⟩, nf_iso hV hT h hn⟩
  | n + 1, S, T, X, j, φ, ψ, hS, hT, h, hr, hn => by
    obtain ⟨a, b, j', hm, hr, hj⟩ := hr
    obtain ⟨a', b', h1, h2, h3⟩ := iso_mv hV hS h hm
    obtain ⟨Y, h4, h5⟩ := rd_iso hV (rm_b hS) (rm_b hT) h3 hr hn
    exact ⟨Y, ⟨a', b', j', h1, h4, by rw [← h2]; exact hj⟩, h5⟩
/-- all rows of moves to the end take away as many -/
theorem rd_uniq {G : Nat → Nat} {c : Nat} (hV : VT c G) : ∀ S, S < 2 ^ c → ∀ {n n' T T' j j' : Nat}, rd G c n S T j → nf G c T → rd G c n' S T' j' → nf G c T' → j = j' := by
  intro S
  induction S using Nat.strongRecOn with
  | ind S ih =>
    intro hS n n' T T' j j' h1 h2 h1' h2'
    cases n with
    | zero =>
      obtain ⟨rfl, rfl⟩ := h1
      cases n' with
      | zero => exact h1'.2.symm
      | succ n' =>
        obtain ⟨a, b, _, hm, _⟩ := h1'
        exact absurd hm (h2 a b)
    | succ n =>
      cases n' with
      | zero =>
        obtain ⟨rfl, rfl⟩ := h1'
        obtain ⟨a, b, _, hm, _⟩ := h1
        exact absurd hm (h2' a b)
      | succ n' =>
        obtain ⟨a, b, j1, m1, r1, e1⟩ := h1
        obtain ⟨a', b', j2, m2, r2, e2⟩ := h1'
        have U1 := fun {n' T' j'} (r : rd G c n' (rm S a b) T' j') (q : nf G c T') => ih _ (rm_lt (b := b) m1.1) (rm_b hS) r1 h2 r q
        have U2 := fun {n' T' j'} (r : rd G c n' (rm S a' b') T' j') (q : nf G c T') => ih _ (rm_lt (b := b') m2.1) (rm_b hS) r2 h2' r q
        -- a common one below
        have join : ∀ x y x' y', mv G c (rm S a b) x y → mv G c (rm S a' b') x' y' → rm (rm S a b) x y = rm (rm S a' b') x' y' → wt a b + wt x y = wt a' b' + wt x' y' → j = j' := by
          intro x y x' y' p1 p2 p3 p4
          obtain ⟨k, Z, i, z1, z2⟩ := rd_nf (G := G) (c := c) (rm (rm S a b) x y)
          have q1 := U1 (n' := k + 1) (j' := i + wt x y) ⟨x, y, i, p1, z1, rfl⟩ z2
          have q2 := U2 (n' := k + 1) (j' := i + wt x' y') ⟨x', y', i, p2, p3 ▸ z1, rfl⟩ z2
          omega
        have same : rm S a b = rm S a' b' → wt a b = wt a' b' → j = j' := by
          intro p1 p2
          have := U1 (p1 ▸ r2) h2'
          omega
        have half1 : ∀ x y, mv G c (rm S a b) x y → rm (rm S a b) x y = rm S a' b' → wt a b + wt x y = wt a' b' → j = j' := by
          intro x y p1 p2 p3
          have := U1 (n' := n' + 1) (j' := j2 + wt x y) ⟨x, y, j2, p1, p2 ▸ r2, rfl⟩ h2'
          omega
        have half2 : ∀ x y, mv G c (rm S a' b') x y → rm (rm S a' b') x y = rm S a b → wt a' b' + wt x y = wt a b → j = j' := by
          intro x y p1 p2 p3
          have := U2 (n' := n + 1) (j' := j1 + wt x y) ⟨x, y, j1, p1, p2 ▸ r1, rfl⟩ h2
          omega
        have isoc : (∃ φ ψ, IsoB G c φ ψ (rm S a b) (rm S a' b')) → wt a b = wt a' b' → j = j' := by
          rintro ⟨φ, ψ, p1⟩ p2
          obtain ⟨Y, y1, y2⟩ := rd_iso hV (rm_b hS) (rm_b hS) p1 r1 h2
          have := U2 y1 y2
          omega
        have w1 : ∀ x, wt x x = 1 := fun x => if_pos rfl
        have w2 : ∀ {x y}, x ≠ y → wt x y = 2 := fun h => if_neg h
        by_cases hdis : a ≠ a' ∧ a ≠ b' ∧ b ≠ a' ∧ b ≠ b'
        · obtain ⟨d1, d2, d3, d4⟩ := hdis
          refine join a' b' a b (mv_mono hV (rm_b hS) m2 (fun x hx => (rm_tb.mp hx).1) (rm_tb.mpr ⟨m2.1, fun z => d1 z.symm, fun z => d3 z.symm⟩) (rm_tb.mpr ⟨m2.2.1, fun z => d2 z.symm, fun z => d4 z.symm⟩)) (mv_mono hV (rm_b hS) m1 (fun x hx => (rm_tb.mp hx).1) (rm_tb.mpr ⟨m1.1, d1, d2⟩) (rm_tb.mpr ⟨m1.2.1, d3, d4⟩)) (tb_ext fun x => ?_) (by omega)
          rw [rm_tb, rm_tb, rm_tb, rm_tb]
          constructor
          · rintro ⟨⟨k1, k2, k3⟩, k4, k5⟩; exact ⟨⟨k1, k4, k5⟩, k2, k3⟩
          · rintro ⟨⟨k1, k2, k3⟩, k4, k5⟩; exact ⟨⟨k1, k4, k5⟩, k2, k3⟩
        · by_cases hab : a = b
          · subst hab
            by_cases hab' : a' = b'
            · subst hab'
              have : a = a' := by omega
              subst this
              exact same rfl rfl
            · by_cases h3 : a = a'
              · subst h3
                exact half1 b' b' (curl_poke hV hS hab' m1 m2) (rm_rm S a b').symm (by rw [w1, w1, w2 hab'])
              · have h4 : a = b' := by omega
                subst h4
                refine half1 a' a' (curl_poke hV hS (fun z => hab' z.symm) m1 (mv_sym m2)) ?_ (by rw [w1, w1, w2 hab'])
                rw [rm_sym S a' a]
                exact (rm_rm S a a').symm
          · by_cases hab' : a' = b'
            · subst hab'
              by_cases h3 : a = a'
              · subst h3
                exact half2 b b (curl_poke hV hS hab m2 m1) (rm_rm S a b).symm (by rw [w1, w1, w2 hab])
              · have h4 : b = a' := by omega
                subst h4
                refine half2 a a (curl_poke hV hS (fun z => hab z.symm) m2 (mv_sym m1)) ?_ (by rw [w1, w1, w2 hab])
                rw [rm_sym S a b]
                exact (rm_rm S b a).symm
            · have hw : wt a b = wt a' b' := by rw [w2 hab, w2 hab']
              by_cases h3 : a = a'
              · subst h3
                by_cases h4 : b = b'
                · subst h4; exact same rfl rfl
                · exact isoc (poke2 hV hS hab hab' h4 m1 m2) hw
              · by_cases h4 : a = b'
                · subst h4
                  by_cases h5 : b = a'
                  · subst h5; exact same (rm_sym S a b) hw
                  · refine isoc ?_ hw
                    rw [rm_sym S a' a]
                    exact poke2 hV hS hab (fun z => hab' z.symm) h5 m1 (mv_sym m2)
                · by_cases h5 : b = a'
                  · subst h5
                    refine isoc ?_ hw
                    rw [rm_sym S a b]
                    exact poke2 hV hS (fun z => hab z.symm) hab' h4 (mv_sym m1) m2
                  · have h6 : b = b' := by omega
                    subst h6
                    refine isoc ?_ hw
                    rw [rm_sym S a b, rm_sym S a' b]
                    exact poke2 hV hS (fun z => hab z.symm) (fun z => hab' z.symm) h3 (mv_sym m1) (mv_sym m2)
