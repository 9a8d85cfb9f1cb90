/-! round a thread: the next one that is left -/
def btw (p r q : Nat) : Prop := (p < q ∧ p < r ∧ r < q) ∨ (q ≤ p ∧ (p < r ∨ r < q))
def Fw (A : Nat → Prop) (p q : Nat) : Prop := A p ∧ A q ∧ ∀ r, A r → r ≠ p → r ≠ q → ¬ btw p r q
/-- without r -/
def wo (A : Nat → Prop) (r : Nat) : Nat → Prop := fun x => A x ∧ x ≠ r
theorem fw_fun {A : Nat → Prop} {p q q' : Nat} (h1 : Fw A p q) (h2 : Fw A p q') : q = q' := by
  have a := h1.2.2 q' h2.2.1
  have b := h2.2.2 q h1.2.1
  unfold btw at a b
  omega
theorem fw_inj {A : Nat → Prop} {p p' q : Nat} (h1 : Fw A p q) (h2 : Fw A p' q) : p = p' := by
  have a := h1.2.2 p' h2.1
  have b := h2.2.2 p h1.1
  unfold btw at a b
  omega
theorem fw_mono {A B : Nat → Prop} {p q : Nat} (h : Fw A p q) (hB : ∀ x, B x → A x) (hp : B p) (hq : B q) : Fw B p q := ⟨hp, hq, fun r hr => h.2.2 r (hB r hr)⟩
theorem fw_rem {A : Nat → Prop} {p q r : Nat} (hr : A r) (hp : p ≠ r) (hq : q ≠ r) : Fw (wo A r) p q ↔ Fw A p q ∨ (Fw A p r ∧ Fw A r q) := by
  constructor
  · rintro ⟨⟨h1, _⟩, ⟨h2, _⟩, h3⟩
    by_cases hb : btw p r q
    · refine Or.inr ⟨⟨h1, hr, fun s hs n1 n2 hb2 => ?_⟩, ⟨hr, h2, fun s hs n1 n2 hb2 => ?_⟩⟩
      · have := h3 s ⟨hs, n2⟩ n1
        unfold btw at hb hb2 this
        omega
      · have := h3 s ⟨hs, n1⟩
        unfold btw at hb hb2 this
        omega
    · refine Or.inl ⟨h1, h2, fun s hs n1 n2 => ?_⟩
      by_cases he : s = r
      · subst he; exact hb
      · exact h3 s ⟨hs, he⟩ n1 n2
  · rintro (h | ⟨h1, h2⟩)
    · exact fw_mono h (fun x hx => hx.1) ⟨h.1, hp⟩ ⟨h.2.1, hq⟩
    · refine ⟨⟨h1.1, hp⟩, ⟨h2.2.1, hq⟩, fun s hs n1 n2 hb => ?_⟩
      have a := h1.2.2 s hs.1 n1 hs.2
      have b := h2.2.2 s hs.1 hs.2 n2
      have c := h1.2.2 q h2.2.1
      have n3 := hs.2
      by_cases hqp : q = p
      · unfold btw at a b hb
        omega
      · have c := c hqp hq
        unfold btw at a b c hb
        omega
/-- the same but for names -/
def FIso (A B : Nat → Prop) (φ ψ : Nat → Nat) : Prop := (∀ p, A p → B (φ p) ∧ ψ (φ p) = p) ∧ (∀ q, B q → A (ψ q) ∧ φ (ψ q) = q) ∧ ∀ p q, A p → A q → (Fw A p q ↔ Fw B (φ p) (φ q))
theorem FIso.symm {A B : Nat → Prop} {φ ψ : Nat → Nat} (h : FIso A B φ ψ) : FIso B A ψ φ := ⟨h.2.1, h.1, fun p q hp hq => by
  have := h.2.2 (ψ p) (ψ q) (h.2.1 p hp).1 (h.2.1 q hq).1
  rw [(h.2.1 p hp).2, (h.2.1 q hq).2] at this
  exact this.symm⟩
theorem FIso.trans {A B C : Nat → Prop} {φ ψ φ' ψ' : Nat → Nat} (h : FIso A B φ ψ) (h' : FIso B C φ' ψ') : FIso A C (fun x => φ' (φ x)) (fun x => ψ (ψ' x)) := ⟨fun p hp => by
  obtain ⟨a, b⟩ := h.1 p hp
  obtain ⟨c, d⟩ := h'.1 _ a
  exact ⟨c, by show ψ (ψ' (φ' (φ p))) = p; rw [d]; exact b⟩, fun q hq => by
  obtain ⟨a, b⟩ := h'.2.1 q hq
  obtain ⟨c, d⟩ := h.2.1 _ a
  exact ⟨c, by show φ' (φ (ψ (ψ' q))) = q; rw [d]; exact b⟩, fun p q hp hq => (h.2.2 p q hp hq).trans (h'.2.2 _ _ (h.1 p hp).1 (h.1 q hq).1)⟩
theorem FIso.inj {A B : Nat → Prop} {φ ψ : Nat → Nat} (h : FIso A B φ ψ) {p q : Nat} (hp : A p) (hq : A q) (he : φ p = φ q) : p = q := by
  rw [← (h.1 p hp).2, ← (h.1 q hq).2, he]
theorem FIso.rem {A B : Nat → Prop} {φ ψ : Nat → Nat} (h : FIso A B φ ψ) {r : Nat} (hr : A r) : FIso (wo A r) (wo B (φ r)) φ ψ := by
  have hB := (h.1 r hr).1
  refine ⟨fun p hp => ⟨⟨(h.1 p hp.1).1, fun z => hp.2 (h.inj hp.1 hr z)⟩, (h.1 p hp.1).2⟩, fun q hq => ⟨⟨(h.2.1 q hq.1).1, fun z => hq.2 ?_⟩, (h.2.1 q hq.1).2⟩, fun p q hp hq => ?_⟩
  · rw [← (h.2.1 q hq.1).2, z]
  · rw [fw_rem hr hp.2 hq.2, fw_rem hB (fun z => hp.2 (h.inj hp.1 hr z)) (fun z => hq.2 (h.inj hq.1 hr z)), h.2.2 p q hp.1 hq.1, h.2.2 p r hp.1 hr, h.2.2 r q hr hq.1]
def sw1 (x y z : Nat) : Nat := if z = x then y else z
theorem sw1_eq (x y : Nat) : sw1 x y x = y := if_pos rfl
theorem sw1_ne {x y z : Nat} (h : z ≠ x) : sw1 x y z = z := if_neg h
/-- of two beside q one is as good as the other -/
theorem tri0 {B : Nat → Prop} {p r : Nat} (hpr : p ≠ r) (h : Fw B p r) : FIso (wo B p) (wo B r) (sw1 r p) (sw1 p r) := by
  have hp := h.1
  have hr := h.2.1
  have f1 : ∀ v, Fw B p v ↔ v = r := fun v => ⟨fun z => fw_fun z h, fun z => by rw [z]; exact h⟩
  have f2 : ∀ u, Fw B u r ↔ u = p := fun u => ⟨fun z => fw_inj z h, fun z => by rw [z]; exact h⟩
  refine ⟨fun z hz => ?_, fun z hz => ?_, fun u v hu hv => ?_⟩
  · by_cases he : z = r
    · rw [he, sw1_eq, sw1_eq]
      exact ⟨⟨hp, hpr⟩, rfl⟩
    · rw [sw1_ne he, sw1_ne hz.2]
      exact ⟨⟨hz.1, he⟩, rfl⟩
  · by_cases he : z = p
    · rw [he, sw1_eq, sw1_eq]
      exact ⟨⟨hr, fun z => hpr z.symm⟩, rfl⟩
    · rw [sw1_ne he, sw1_ne hz.2]
      exact ⟨⟨hz.1, he⟩, rfl⟩
  · have k1 : ∀ z, wo B p z → sw1 r p z ≠ r := fun z hz => by
      by_cases he : z = r
      · rw [he, sw1_eq]; exact hpr
      · rw [sw1_ne he]; exact he
    rw [fw_rem hp hu.2 hv.2, fw_rem hr (k1 u hu) (k1 v hv), f1, f2]
    have nr : ¬ Fw B r r := fun z => by
      have := z.2.2 p hp hpr hpr
      unfold btw at this
      omega
    have np : ¬ Fw B p p := fun z => by
      have := z.2.2 r hr (fun w => hpr w.symm) (fun w => hpr w.symm)
      unfold btw at this
      omega
    by_cases hur : u = r
    · by_cases hvr : v = r
      · subst hur
        subst hvr
        rw [sw1_eq]
        constructor
        · rintro (z | ⟨z, _⟩)
          · exact absurd z nr
          · exact Or.inr ⟨rfl, z⟩
        · rintro (z | ⟨_, z⟩)
          · exact absurd z np
          · exact Or.inr ⟨z, rfl⟩
      · subst hur
        rw [sw1_eq, sw1_ne hvr]
        constructor
        · rintro (z | ⟨_, z⟩)
          · exact Or.inr ⟨rfl, z⟩
          · exact absurd z hvr
        · rintro (z | ⟨_, z⟩)
          · exact absurd ((f1 v).mp z) hvr
          · exact Or.inl z
    · by_cases hvr : v = r
      · subst hvr
        rw [sw1_eq, sw1_ne hur]
        constructor
        · rintro (z | ⟨z, _⟩)
          · exact absurd ((f2 u).mp z) hu.2
          · exact Or.inl z
        · rintro (z | ⟨z, _⟩)
          · exact Or.inr ⟨z, rfl⟩
          · exact absurd z hu.2
      · rw [sw1_ne hur, sw1_ne hvr]
        constructor
        · rintro (z | ⟨_, z⟩)
          · exact Or.inl z
          · exact absurd z hvr
        · rintro (z | ⟨z, _⟩)
          · exact Or.inl z
          · exact absurd z hu.2
def Aj (A : Nat → Prop) (p q : Nat) : Prop := Fw A p q ∨ Fw A q p
theorem Aj.symm {A : Nat → Prop} {p q : Nat} (h : Aj A p q) : Aj A q p := Or.symm h
theorem Aj.mono {A B : Nat → Prop} {p q : Nat} (h : Aj A p q) (hB : ∀ x, B x → A x) (hp : B p) (hq : B q) : Aj B p q := h.elim (fun z => Or.inl (fw_mono z hB hp hq)) (fun z => Or.inr (fw_mono z hB hq hp))
theorem Aj.l {A : Nat → Prop} {p q : Nat} (h : Aj A p q) : A p := h.elim (fun z => z.1) (fun z => z.2.1)
theorem Aj.r {A : Nat → Prop} {p q : Nat} (h : Aj A p q) : A q := h.symm.l
/-- p and r, both beside q -/
theorem aj_tri {A : Nat → Prop} {p q r : Nat} (hpr : p ≠ r) (h1 : Aj A q p) (h2 : Aj A q r) : (Fw A p q ∧ Fw A q r) ∨ (Fw A r q ∧ Fw A q p) := by
  rcases h1 with h1 | h1
  · rcases h2 with h2 | h2
    · exact absurd (fw_fun h1 h2) hpr
    · exact Or.inr ⟨h2, h1⟩
  · rcases h2 with h2 | h2
    · exact Or.inl ⟨h1, h2⟩
    · exact absurd (fw_inj h1 h2) hpr
theorem tri3 {A : Nat → Prop} {p q r : Nat} (hpq : p ≠ q) (hqr : r ≠ q) (hpr : p ≠ r) (h1 : Aj A q p) (h2 : Aj A q r) : FIso (wo (wo A q) p) (wo (wo A q) r) (sw1 r p) (sw1 p r) := by
  rcases aj_tri hpr h1 h2 with ⟨a, b⟩ | ⟨a, b⟩
  · exact tri0 hpr ((fw_rem b.1 hpq hqr).mpr (Or.inr ⟨a, b⟩))
  · exact (tri0 (fun z => hpr z.symm) ((fw_rem b.1 hqr hpq).mpr (Or.inr ⟨a, b⟩))).symm
/-- both gone in between: the outer ones are beside one another -/
theorem aj_out {A : Nat → Prop} {p q s r : Nat} (hpq : p ≠ q) (hps : p ≠ s) (hrq : r ≠ q) (hrs : r ≠ s) (hqs : q ≠ s) (h1 : Aj A q p) (h2 : Aj A q s) (h3 : Aj A s r) : Aj (wo (wo A q) s) p r := by
  have hs : wo A q s := ⟨h2.r, fun z => hqs z.symm⟩
  rcases aj_tri hps h1 h2 with ⟨a, b⟩ | ⟨a, b⟩
  · have e1 : Fw (wo A q) p s := (fw_rem b.1 hpq (fun z => hqs z.symm)).mpr (Or.inr ⟨a, b⟩)
    have e2 : Fw A s r := h3.elim id (fun z => absurd (fw_inj z b) hrq)
    have e3 : Fw (wo A q) s r := fw_mono e2 (fun x hx => hx.1) hs ⟨e2.2.1, hrq⟩
    exact Or.inl ((fw_rem hs hps hrs).mpr (Or.inr ⟨e1, e3⟩))
  · have e1 : Fw (wo A q) s p := (fw_rem b.1 (fun z => hqs z.symm) hpq).mpr (Or.inr ⟨a, b⟩)
    have e2 : Fw A r s := h3.elim (fun z => absurd (fw_fun z a) hrq) id
    have e3 : Fw (wo A q) r s := fw_mono e2 (fun x hx => hx.1) ⟨e2.1, hrq⟩ hs
    exact Or.inr ((fw_rem hs hrs hps).mpr (Or.inr ⟨e3, e1⟩))
/-! as the rows tell it -/
def Al (G : Nat → Nat) (c S : Nat) : Nat → Prop := fun p => p < 2 * c ∧ S.testBit (G p / 2) = true
theorem tr_s (G : Nat → Nat) (S p : Nat) : (tr_ G S 0 (p + 1)).length = (tr_ G S 0 p).length + (if S.testBit (G p / 2) then 1 else 0) := by
  show (if S.testBit (G p / 2) then tr_ G S 0 p ++ [swf G 0 p] else tr_ G S 0 p).length = _
  split
  · rw [List.length_append]; rfl
  · rfl
theorem tr_mon {G : Nat → Nat} {S p : Nat} : ∀ {q : Nat}, p ≤ q → (tr_ G S 0 p).length ≤ (tr_ G S 0 q).length
  | 0, h => by rw [show p = 0 by omega]; exact Nat.le_refl _
  | q + 1, h => by
    by_cases he : p = q + 1
    · rw [he]; exact Nat.le_refl _
    · have := tr_mon (G := G) (S := S) (show p ≤ q by omega)
      rw [tr_s]
      omega
theorem tr_none {G : Nat → Nat} {S p : Nat} : ∀ {q : Nat}, p ≤ q → ((tr_ G S 0 p).length = (tr_ G S 0 q).length ↔ ∀ r, p ≤ r → r < q → S.testBit (G r / 2) = false)
  | 0, h => ⟨fun _ r _ h2 => absurd h2 (Nat.not_lt_zero r), fun _ => by rw [show p = 0 by omega]⟩
  | q + 1, h => by
    by_cases he : p = q + 1
    · subst he
      exact ⟨fun _ r h1 h2 => by omega, fun _ => rfl⟩
    · have ih := tr_none (G := G) (S := S) (show p ≤ q by omega)
      have hm := tr_mon (G := G) (S := S) (show p ≤ q by omega)
      rw [tr_s]
      constructor
      · intro hh r h1 h2
        have hz : S.testBit (G q / 2) = false := by
          cases hb : S.testBit (G q / 2) with
          | false => rfl
          | true => rw [hb, if_pos rfl] at hh; omega
        by_cases hr : r = q
        · rw [hr]; exact hz
        · rw [hz] at hh
          exact ih.mp (by simpa using hh) r h1 (by omega)
      · intro hh
        rw [hh q (by omega) (by omega)]
        have := ih.mpr (fun r h1 h2 => hh r h1 (by omega))
        simpa using this
theorem bes_lt {G : Nat → Nat} {c S p q : Nat} (hpq : p < q) (hp : Al G c S p) (hq : Al G c S q) : bes (tr_ G S 0 (2 * c)).length (tr_ G S 0 p).length (tr_ G S 0 q).length = true ↔ Aj (Al G c S) p q := by
  have s1 := tr_s G S p
  have s2 := tr_s G S q
  rw [if_pos hp.2] at s1
  rw [if_pos hq.2] at s2
  have m1 := tr_mon (G := G) (S := S) (show p + 1 ≤ q by omega)
  have m2 := tr_mon (G := G) (S := S) (show q + 1 ≤ 2 * c by have := hq.1; omega)
  have e1 := tr_none (G := G) (S := S) (show p + 1 ≤ q by omega)
  have e2 := tr_none (G := G) (S := S) (Nat.zero_le p)
  have e3 := tr_none (G := G) (S := S) (show q + 1 ≤ 2 * c by have := hq.1; omega)
  have z : (tr_ G S 0 0).length = 0 := rfl
  rw [z] at e2
  have hF : Fw (Al G c S) p q ↔ (tr_ G S 0 (p + 1)).length = (tr_ G S 0 q).length := by
    rw [e1]
    constructor
    · intro h r h1 h2
      cases hb : S.testBit (G r / 2) with
      | false => rfl
      | true =>
        have := h.2.2 r ⟨by have := hq.1; omega, hb⟩ (by omega) (by omega)
        unfold btw at this
        omega
    · intro h
      refine ⟨hp, hq, fun r hr n1 n2 hb => ?_⟩
      unfold btw at hb
      have := h r (by omega) (by omega)
      rw [hr.2] at this
      cases this
  have hB : Fw (Al G c S) q p ↔ 0 = (tr_ G S 0 p).length ∧ (tr_ G S 0 (q + 1)).length = (tr_ G S 0 (2 * c)).length := by
    rw [e2, e3]
    constructor
    · intro h
      refine ⟨fun r h1 h2 => ?_, fun r h1 h2 => ?_⟩
      · cases hb : S.testBit (G r / 2) with
        | false => rfl
        | true =>
          have := h.2.2 r ⟨by have := hq.1; omega, hb⟩ (by omega) (by omega)
          unfold btw at this
          omega
      · cases hb : S.testBit (G r / 2) with
        | false => rfl
        | true =>
          have := h.2.2 r ⟨h2, hb⟩ (by omega) (by omega)
          unfold btw at this
          omega
    · rintro ⟨h1, h2⟩
      refine ⟨hq, hp, fun r hr n1 n2 hb => ?_⟩
      unfold btw at hb
      by_cases hlt : r < p
      · have := h1 r (by omega) hlt
        rw [hr.2] at this
        cases this
      · have := h2 r (by omega) hr.1
        rw [hr.2] at this
        cases this
  unfold Aj
  rw [hF, hB]
  unfold bes ofd
  rw [decide_eq_true_iff, if_pos (by omega)]
  omega
theorem bes_aj {G : Nat → Nat} {c S p q : Nat} (hpq : p ≠ q) (hp : Al G c S p) (hq : Al G c S q) : bes (tr_ G S 0 (2 * c)).length (tr_ G S 0 p).length (tr_ G S 0 q).length = true ↔ Aj (Al G c S) p q := by
  by_cases h : p < q
  · exact bes_lt h hp hq
  · rw [bes_sym, bes_lt (by omega) hq hp]
    exact ⟨Aj.symm, Aj.symm⟩
