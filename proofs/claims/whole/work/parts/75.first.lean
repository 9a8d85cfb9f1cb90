/-! the first colouring, by the class's rows -/
theorem rho_0 {A : MT} {r n : Nat} {z : Nat → Nat} (h : ∀ j, j < n → A r j = 0 ∨ z j = 0) : rho A r n z = 0 := by
  unfold rho
  rw [sI_cong (G := fun _ => (0 : Int) * 0) (fun j hj => by rcases h j hj with e | e <;> rw [e] <;> omega), sI_mul]
  exact Int.zero_mul _
/-- rows below, columns from k on done -/
def PI (c m k : Nat) (x : SV) : Prop := (∀ r j, r < c → j < 8 → x.1 r j < m) ∧ x.2.1 ≤ c ∧ (∀ r, x.2.1 ≤ r → r < c → ∀ j, k ≤ j → j < c → x.1 r j = 0) ∧
  (∀ p, k ≤ p → p < c → x.2.2 p = -1 ∨ ∃ i, i < x.2.1 ∧ x.2.2 p = (i : Int) ∧ x.1 i p = 1 ∧ (∀ r, r < c → r ≠ i → x.1 r p = 0) ∧ ∀ j, p < j → j < c → x.1 i j = 0) ∧
  (∀ i, i < x.2.1 → ∃ p, k ≤ p ∧ p < c ∧ x.2.2 p = (i : Int))
theorem ui_eq (F : Nat → Int) (k : Nat) (v : Int) : ui F k v k = v := if_pos rfl
theorem ui_ne (F : Nat → Int) {k j : Nat} (v : Int) (h : j ≠ k) : ui F k v j = F j := if_neg h
theorem pvt_z {c P m k rk q r j : Nat} {A : MT} (hj : j < P) (hz : A q j = 0) : (r = rk → pvt c P m k A rk q r j = 0) ∧ (r < c → r ≠ rk → pvt c P m k A rk q r j = exch P A q rk P r j % m) := by
  have e1 : scl (exch P A q rk P) rk (fct (exch P A q rk P rk k) m (m - 1) 1) m P rk j = 0 := by
    unfold scl
    rw [if_pos ⟨rfl, hj⟩, exch_rk P A q rk j hj, hz, Nat.zero_mul, Nat.zero_mod]
  constructor
  · intro h
    subst h
    unfold pvt clr
    rw [if_neg (by omega), e1]
  · intro h1 h2
    unfold pvt clr
    rw [if_pos ⟨h1, h2, hj⟩, e1, Nat.mul_zero, Nat.add_zero]
    unfold scl
    rw [if_neg (by omega)]
theorem PI_step {c m k : Nat} (hm : m = 3 ∨ m = 5) (h8 : c ≤ 8) (hk : k < c) {x : SV} (h : PI c m (k + 1) x) : PI c m k (svs c c m k x) ∧ ∀ z : Nat → Nat, (∀ r, r < c → (m : Int) ∣ rho x.1 r c z) ↔ ∀ r, r < c → (m : Int) ∣ rho (svs c c m k x).1 r c z := by
  obtain ⟨A, rk, V⟩ := x
  obtain ⟨h1, h2, h3, h4, h5⟩ := h
  dsimp only at h1 h2 h3 h4 h5
  cases hr : rwt A k (c - rk) rk with
  | none =>
    rw [svs_none (x := (A, rk, V)) hr]
    have h0 := rwt_none hr
    refine ⟨⟨h1, h2, fun r hr1 hr2 j hj1 hj2 => ?_, fun p hp1 hp2 => ?_, fun i hi => ?_⟩, fun z => Iff.rfl⟩
    · by_cases he : j = k
      · rw [he]; exact h0 r hr1 (by have : rk ≤ r := hr1; omega)
      · exact h3 r hr1 hr2 j (by omega) hj2
    · by_cases he : p = k
      · exact Or.inl (by show ui V k (-1) p = -1; rw [he, ui_eq])
      · have := h4 p (by omega) hp2
        show ui V k (-1) p = -1 ∨ ∃ i, i < rk ∧ ui V k (-1) p = (i : Int) ∧ A i p = 1 ∧ (∀ r, r < c → r ≠ i → A r p = 0) ∧ ∀ j, p < j → j < c → A i j = 0
        rw [ui_ne V _ he]
        exact this
    · obtain ⟨p, p1, p2, p3⟩ := h5 i hi
      exact ⟨p, by omega, p2, by show ui V k (-1) p = _; rw [ui_ne V _ (by omega)]; exact p3⟩
  | some q =>
    obtain ⟨q1, q2, q3, q4⟩ := rwt_some hr
    rw [svs_some (x := (A, rk, V)) hr]
    have hq : q < c := by omega
    have hAq := h1 q k hq (by omega)
    have hrk : rk < c := by omega
    have zq : ∀ j, k < j → j < c → A q j = 0 := fun j hj1 hj2 => h3 q q1 hq j hj1 hj2
    have ex : ∀ r j, r < c → j < c → r ≠ rk → exch c A q rk c r j = if r = q then A rk j else A r j := fun r j _ hj hne => by
      unfold exch
      rw [if_pos hj]
      by_cases he : r = q
      · rw [if_pos he, if_pos he]
      · rw [if_neg he, if_neg he, if_neg hne]
    refine ⟨⟨pvt_lt (by omega) h1 hq hrk, by show rk + 1 ≤ c; omega, fun r hr1 hr2 j hj1 hj2 => ?_, fun p hp1 hp2 => ?_, fun i hi => ?_⟩, fun z => ?_⟩
    · have hr1 : rk + 1 ≤ r := hr1
      show pvt c c m k A rk q r j = 0
      by_cases he : j = k
      · rw [he]
        exact pvt_o hm hk hAq q3 hr2 (by omega) (exch_lt h1 hq hrk r k hr2 (by omega))
      · rw [(pvt_z hj2 (zq j (by omega) hj2)).2 hr2 (by omega), ex r j hr2 hj2 (by omega)]
        split
        · rw [h3 rk (Nat.le_refl _) hrk j (by omega) hj2]; exact Nat.zero_mod _
        · rw [h3 r (by omega) hr2 j (by omega) hj2]; exact Nat.zero_mod _
    · show ui V k (rk : Int) p = -1 ∨ ∃ i, i < rk + 1 ∧ ui V k (rk : Int) p = (i : Int) ∧ pvt c c m k A rk q i p = 1 ∧ (∀ r, r < c → r ≠ i → pvt c c m k A rk q r p = 0) ∧ ∀ j, p < j → j < c → pvt c c m k A rk q i j = 0
      by_cases he : p = k
      · subst he
        refine Or.inr ⟨rk, by omega, ui_eq _ _ _, pvt_k hm hk hAq q3, fun r hr1 hr2 => pvt_o hm hk hAq q3 hr1 hr2 (exch_lt h1 hq hrk r p hr1 (by omega)), fun j hj1 hj2 => (pvt_z hj2 (zq j hj1 hj2)).1 rfl⟩
      · rw [ui_ne V _ he]
        rcases h4 p (by omega) hp2 with h6 | ⟨i, i1, i2, i3, i4, i5⟩
        · exact Or.inl h6
        · refine Or.inr ⟨i, by omega, i2, ?_, fun r hr1 hr2 => ?_, fun j hj1 hj2 => ?_⟩
          · rw [(pvt_z hp2 (zq p (by omega) hp2)).2 (by omega) (by omega), ex i p (by omega) hp2 (by omega), if_neg (by omega), i3]
            exact Nat.mod_eq_of_lt (by omega)
          · by_cases hrr : r = rk
            · exact (pvt_z hp2 (zq p (by omega) hp2)).1 hrr
            · rw [(pvt_z hp2 (zq p (by omega) hp2)).2 hr1 hrr, ex r p hr1 hp2 hrr]
              split
              · rw [i4 rk hrk (by omega)]; exact Nat.zero_mod _
              · rw [i4 r hr1 hr2]; exact Nat.zero_mod _
          · rw [(pvt_z hj2 (zq j (by omega) hj2)).2 (by omega) (by omega), ex i j (by omega) hj2 (by omega), if_neg (by omega), i5 j hj1 hj2]
            exact Nat.zero_mod _
    · have hi : i < rk + 1 := hi
      by_cases he : i = rk
      · exact ⟨k, Nat.le_refl _, hk, by show ui V k (rk : Int) k = _; rw [ui_eq, he]⟩
      · obtain ⟨p, p1, p2, p3⟩ := h5 i (by omega)
        exact ⟨p, by omega, p2, by show ui V k (rk : Int) p = _; rw [ui_ne V _ (by omega)]; exact p3⟩
    · have := pvt_eqv (c := c) (P := c) (lo := 0) (z := z) hm hk (Nat.le_refl c) (Nat.zero_le rk) q1 hq hAq q3
      constructor
      · intro hh r hr1
        exact this.mp (fun r _ h2 => hh r h2) r (Nat.zero_le _) hr1
      · intro hh r hr1
        exact this.mpr (fun r _ h2 => hh r h2) r (Nat.zero_le _) hr1
theorem PI_all {c m : Nat} (hm : m = 3 ∨ m = 5) (h8 : c ≤ 8) : ∀ (k : Nat) (x : SV), k ≤ c → PI c m k x → PI c m 0 (svl c c m k x) ∧ ∀ z : Nat → Nat, (∀ r, r < c → (m : Int) ∣ rho x.1 r c z) ↔ ∀ r, r < c → (m : Int) ∣ rho (svl c c m k x).1 r c z
  | 0, x, _, h => ⟨h, fun _ => Iff.rfl⟩
  | k + 1, x, hk, h => by
    obtain ⟨a, b⟩ := PI_step hm h8 (by omega) h
    obtain ⟨a2, b2⟩ := PI_all hm h8 k (svs c c m k x) (by omega) a
    exact ⟨a2, fun z => (b z).trans (b2 z)⟩
/-- free parts tell all -/
theorem PI_uniq {c : Nat} {x : SV} (h : PI c 3 0 x) {y z : Nat → Nat} (hy : ∀ r, r < c → ((3 : Nat) : Int) ∣ rho x.1 r c y) (hz : ∀ r, r < c → ((3 : Nat) : Int) ∣ rho x.1 r c z) (y3 : ∀ j, j < c → y j < 3) (z3 : ∀ j, j < c → z j < 3) (hf : ∀ j, j < c → x.2.2 j = -1 → y j = z j) : ∀ p, p < c → y p = z p := by
  obtain ⟨h1, h2, h3, h4, h5⟩ := h
  intro p hp
  rcases h4 p (Nat.zero_le _) hp with h6 | ⟨i, i1, i2, i3, i4, i5⟩
  · exact hf p hp h6
  · have d := Int.dvd_sub (hy i (by omega)) (hz i (by omega))
    have e : rho x.1 i c y - rho x.1 i c z = (y p : Int) - (z p : Int) := by
      have : rho x.1 i c y - rho x.1 i c z = sI (fun j => (x.1 i j : Int) * ((y j : Int) - (z j : Int))) c := by
        rw [sI_cong (G := fun j => (x.1 i j : Int) * (y j : Int) + -1 * ((x.1 i j : Int) * (z j : Int))) (fun j _ => by grind), sI_add, sI_mul]
        unfold rho
        omega
      rw [this, sI_one hp (fun j hj hne => ?_), i3]
      · omega
      · rcases h4 j (Nat.zero_le _) hj with h7 | ⟨a, a1, a2, a3, a4, a5⟩
        · rw [hf j hj h7, Int.sub_self, Int.mul_zero]
        · have hai : i ≠ a := by
            intro hh
            subst hh
            by_cases hlt : j < p
            · have := a5 p hlt hp
              omega
            · have := i5 j (by omega) hj
              omega
          rw [a4 i (by omega) hai]
          exact Int.zero_mul _
    rw [e] at d
    have := y3 p hp
    have := z3 p hp
    omega
theorem frp_ok {V : Nat → Int} : ∀ n, frp V n ≤ n ∧ (frp V n = 0 ∨ V (frp V n) = -1) ∧ ∀ k, frp V n < k → k ≤ n → V k ≠ -1
  | 0 => ⟨Nat.le_refl _, Or.inl rfl, fun k h1 h2 => by have : 0 < k := h1; omega⟩
  | n + 1 => by
    unfold frp
    split
    · rename_i h
      exact ⟨Nat.le_refl _, Or.inr h, fun k h1 h2 => by omega⟩
    · rename_i h
      obtain ⟨h1, h2, h3⟩ := frp_ok (V := V) n
      refine ⟨by omega, h2, fun k k1 k2 => ?_⟩
      by_cases he : k = n + 1
      · rw [he]; exact h
      · exact h3 k k1 (by omega)
/-- 1 at the free part f, 0 at the other free ones -/
def eF (x : SV) (f j : Nat) : Nat := if x.2.2 j < 0 then (if j = f then 1 else 0) else (3 - x.1 (x.2.2 j).toNat f) % 3
theorem eF_sol {c : Nat} {x : SV} (h : PI c 3 0 x) (h8 : c ≤ 8) {f : Nat} (hfc : f < c) (hf : x.2.2 f = -1) : ∀ r, r < c → ((3 : Nat) : Int) ∣ rho x.1 r c (eF x f) := by
  obtain ⟨h1, h2, h3, h4, h5⟩ := h
  intro i hi
  by_cases hik : x.2.1 ≤ i
  · rw [rho_0 (fun j hj => Or.inl (h3 i hik hi j (Nat.zero_le _) hj))]
    exact ⟨0, by omega⟩
  · obtain ⟨p, _, p2, p3⟩ := h5 i (by omega)
    rcases h4 p (Nat.zero_le _) p2 with h6 | ⟨a, a1, a2, a3, a4, a5⟩
    · omega
    · have : a = i := by omega
      subst this
      have hpf : p ≠ f := fun hh => by rw [hh] at p3; omega
      have hep : eF x f p = (3 - x.1 a f) % 3 := by
        unfold eF
        rw [if_neg (by omega), p3, Int.toNat_natCast]
      have hef : eF x f f = 1 := by
        unfold eF
        rw [if_pos (by omega), if_pos rfl]
      have hot : ∀ j, j < c → j ≠ p → j ≠ f → (x.1 a j : Int) * (eF x f j : Int) = 0 := fun j hj n1 n2 => by
        rcases h4 j (Nat.zero_le _) hj with h7 | ⟨b, b1, b2, b3, b4, b5⟩
        · have : eF x f j = 0 := by
            unfold eF
            rw [if_pos (by omega), if_neg n2]
          rw [this]
          exact Int.mul_zero _
        · have hab : a ≠ b := by
            intro hh
            subst hh
            by_cases hlt : j < p
            · have := b5 p hlt p2
              omega
            · have := a5 j (by omega) hj
              omega
          rw [b4 a hi hab]
          exact Int.zero_mul _
      have hs : rho x.1 a c (eF x f) = (x.1 a p : Int) * (eF x f p : Int) + (x.1 a f : Int) * (eF x f f : Int) := by
        unfold rho
        rw [sI_cong (G := fun j => (if j = p then (x.1 a p : Int) * (eF x f p : Int) else 0) + (if j = f then (x.1 a f : Int) * (eF x f f : Int) else 0)) (fun j hj => by
          by_cases n1 : j = p
          · rw [if_pos n1, if_neg (by omega), n1, Int.add_zero]
          · by_cases n2 : j = f
            · rw [if_neg n1, if_pos n2, n2, Int.zero_add]
            · rw [if_neg n1, if_neg n2, hot j hj n1 n2]
              rfl), sI_add, sI_one p2 (fun j _ hj => if_neg hj), sI_one hfc (fun j _ hj => if_neg hj), if_pos rfl, if_pos rfl]
      rw [hs, a3, hep, hef]
      have := h1 a f hi (by omega)
      omega
/-! codes -/
def cdn (z : Nat → Nat) : Nat → Nat
  | 0 => 0
  | n + 1 => 3 * cdn z n + z n
theorem cdn_lt {z : Nat → Nat} : ∀ {n : Nat}, (∀ j, j < n → z j < 3) → cdn z n < 3 ^ n
  | 0, _ => by show 0 < 3 ^ 0; decide
  | n + 1, h => by
    have h1 := cdn_lt (n := n) (fun j hj => h j (by omega))
    have h2 := h n (by omega)
    show 3 * cdn z n + z n < 3 ^ (n + 1)
    rw [Nat.pow_succ]
    omega
theorem dg_cdn {z : Nat → Nat} : ∀ {n : Nat}, (∀ j, j < n → z j < 3) → ∀ j, j < n → dg n (cdn z n) j = z j
  | 0, _, j, hj => absurd hj (Nat.not_lt_zero j)
  | n + 1, h, j, hj => by
    have h2 := h n (by omega)
    unfold dg
    show (3 * cdn z n + z n) / 3 ^ (n + 1 - 1 - j) % 3 = z j
    by_cases he : j = n
    · subst he
      rw [show j + 1 - 1 - j = 0 by omega, Nat.pow_zero, Nat.div_one]
      omega
    · rw [show n + 1 - 1 - j = (n - 1 - j) + 1 by omega, Nat.pow_succ', ← Nat.div_div_eq_div_mul, show (3 * cdn z n + z n) / 3 = cdn z n by omega]
      exact dg_cdn (n := n) (fun i hi => h i (by omega)) j (by omega)
theorem cdn_0 {z : Nat → Nat} : ∀ {n : Nat}, (∀ j, j < n → z j = 0) → cdn z n = 0
  | 0, _ => rfl
  | n + 1, h => by
    show 3 * cdn z n + z n = 0
    rw [cdn_0 (n := n) (fun j hj => h j (by omega)), h n (by omega)]
theorem cdn_b {z : Nat → Nat} {f : Nat} : ∀ {n : Nat}, f < n → (∀ j, j < n → z j < 3) → (∀ j, j < f → z j = 0) → z f ≤ 1 → cdn z n < 2 * 3 ^ (n - 1 - f)
  | 0, h, _, _, _ => absurd h (Nat.not_lt_zero f)
  | n + 1, h, h3, h0, h1 => by
    show 3 * cdn z n + z n < _
    by_cases he : f = n
    · subst he
      rw [cdn_0 h0, show f + 1 - 1 - f = 0 by omega, Nat.pow_zero]
      omega
    · have := cdn_b (n := n) (by omega) (fun j hj => h3 j (by omega)) h0 h1
      have h2 := h3 n (by omega)
      rw [show n + 1 - 1 - f = (n - 1 - f) + 1 by omega, Nat.pow_succ]
      omega
theorem rz_min {p : Nat → Bool} : ∀ {d r q : Nat}, rz p d r = some q → ∀ i, r ≤ i → i < q → p i = false
  | 0, r, q, h, _, _, _ => by cases h
  | d + 1, r, q, h, i, h1, h2 => by
    unfold rz at h
    split at h
    · cases h; omega
    · rename_i hh
      by_cases he : i = r
      · subst he
        revert hh
        cases p i <;> simp
      · exact rz_min h i (by omega) h2
theorem Sol_const {r : Rp} {m : Nat} (a : Nat) : Sol r m (fun _ => a) := fun x hx => ⟨0, by show 2 * (a : Int) - a - a = (m : Int) * 0; omega⟩
theorem Sol_cg {r : Rp} (h : WR r) {m : Nat} {y z : Nat → Nat} (he : ∀ j, j < r.1 → y j = z j) : Sol r m y ↔ Sol r m z := by
  refine forall_congr' fun x => forall_congr' fun hx => ?_
  have h2 := obB_lt h hx
  rw [he _ (obO_lt h hx), he _ h2, he _ (enp_lt h2)]
theorem col_eq {r : Rp} (h : WR r) {p : Nat} (hp : p < r.1) : t_col r p = r_col r p := by
  have h8 := h.1
  have hc : 0 < r.1 := by omega
  have hpt : pts r.1 = r.1 := if_neg (by omega)
  have hlt : ∀ a k, a < r.1 → k < 8 → mx0 (obO r) (obB r) r.1 3 a k < 3 := fun a k _ _ => by
    unfold mx0 adt
    have : ∀ x, x % 3 < 3 := fun x => Nat.mod_lt x (by omega)
    split
    · exact this _
    · split
      · exact this _
      · split
        · exact this _
        · show 0 < 3
          omega
  have P0 : PI r.1 3 r.1 (mx0 (obO r) (obB r) r.1 3, 0, fun _ => -1) := ⟨hlt, Nat.zero_le _, fun a _ _ j h1 h2 => by omega, fun p h1 h2 => by omega, fun i hi => absurd hi (Nat.not_lt_zero i)⟩
  obtain ⟨PF, SE⟩ := PI_all (Or.inl rfl) h8 r.1 _ (Nat.le_refl _) P0
  have eC : r_col r p = fcl (svl r.1 r.1 3 r.1 (mx0 (obO r) (obB r) r.1 3, 0, fun _ => -1)) r.1 p := by
    unfold r_col svR
    rw [hpt]
  rw [eC]
  have hS : ∀ z : Nat → Nat, Sol r 3 z ↔ ∀ a, a < r.1 → ((3 : Nat) : Int) ∣ rho (svl r.1 r.1 3 r.1 (mx0 (obO r) (obB r) r.1 3, 0, fun _ => -1)).1 a r.1 z := fun z => by
    rw [← SE z]
    exact forall_congr' fun x => forall_congr' fun hx => (mx0_sol h (by omega) hx).symm
  generalize svl r.1 r.1 3 r.1 (mx0 (obO r) (obB r) r.1 3, 0, fun _ => -1) = x at PF hS ⊢
  obtain ⟨f1, f2, f3⟩ := frp_ok (V := x.2.2) (r.1 - 1)
  generalize hf : frp x.2.2 (r.1 - 1) = f at f1 f2 f3
  have d3 : ∀ code j, j < r.1 → dg r.1 code j < 3 := fun code j _ => Nat.mod_lt _ (by omega)
  have V0 : x.2.2 0 = -1 := by
    rcases PF.2.2.2.1 0 (Nat.le_refl _) hc with h6 | ⟨i, i1, i2, i3, i4, i5⟩
    · exact h6
    · exfalso
      have := (hS (fun _ => 1)).mp (Sol_const 1) i (by have := PF.2.1; omega)
      unfold rho at this
      rw [sI_one hc (fun j hj hne => by rw [i5 j (by omega) hj]; exact Int.zero_mul _), i3] at this
      dsimp only at this
      omega
  unfold t_col fcl
  rw [hf]
  by_cases hf0 : f = 0
  · rw [if_pos hf0]
    cases hrz : rz (fun c => isw r (dg r.1 c)) (3 ^ r.1) 0 with
    | none => rfl
    | some code =>
      exfalso
      obtain ⟨_, _, hw⟩ := rz_some hrz
      obtain ⟨s1, j, j1, j2⟩ := isw_iff.mp hw
      refine j2 ?_
      exact PI_uniq (y := dg r.1 code) (z := fun _ => dg r.1 code 0) PF ((hS _).mp s1) ((hS _).mp (Sol_const _)) (d3 code) (fun j _ => d3 code 0 hc) (fun i hi hv => by
        by_cases he : i = 0
        · rw [he]
        · exact absurd hv (f3 i (by omega) (by omega))) j j1
  · rw [if_neg hf0]
    have Vf : x.2.2 f = -1 := f2.resolve_left hf0
    have hfc : f < r.1 := by omega
    have eS := eF_sol PF h8 hfc Vf
    have e3 : ∀ j, j < r.1 → eF x f j < 3 := fun j _ => by
      unfold eF
      split
      · split <;> omega
      · exact Nat.mod_lt _ (by omega)
    have e0 : ∀ j, j < f → eF x f j = 0 := fun j hj => by
      rcases PF.2.2.2.1 j (Nat.zero_le _) (by omega) with h6 | ⟨i, i1, i2, i3, i4, i5⟩
      · unfold eF
        rw [if_pos (by omega), if_neg (by omega)]
      · unfold eF
        rw [if_neg (by omega), i2, Int.toNat_natCast, i5 f hj hfc]
    have ef : eF x f f = 1 := by
      unfold eF
      rw [if_pos (by omega), if_pos rfl]
    have dE : ∀ j, j < r.1 → dg r.1 (cdn (eF x f) r.1) j = eF x f j := dg_cdn e3
    have wE : isw r (dg r.1 (cdn (eF x f) r.1)) = true := by
      refine isw_iff.mpr ⟨(Sol_cg h dE).mpr ((hS _).mpr eS), f, hfc, ?_⟩
      rw [dE f hfc, dE 0 hc, ef, e0 0 (by omega)]
      decide
    have cE := cdn_lt (n := r.1) e3
    have bE := cdn_b hfc e3 e0 (by omega)
    cases hrz : rz (fun c => isw r (dg r.1 c)) (3 ^ r.1) 0 with
    | none =>
      have := rz_none hrz _ (Nat.zero_le _) (by rw [Nat.zero_add]; exact cE)
      rw [wE] at this
      cases this
    | some code =>
      obtain ⟨_, _, hw⟩ := rz_some hrz
      have hw : isw r (dg r.1 code) = true := hw
      have hle : code ≤ cdn (eF x f) r.1 := by
        by_cases hlt2 : cdn (eF x f) r.1 < code
        · have := rz_min hrz _ (Nat.zero_le _) hlt2
          rw [wE] at this
          cases this
        · omega
      obtain ⟨s1, j, j1, j2⟩ := isw_iff.mp hw
      have z0 : ∀ i, i < f → dg r.1 code i = 0 := fun i hi => by
        unfold dg
        have h1 : 3 ^ (r.1 - 1 - f) * 3 ≤ 3 ^ (r.1 - 1 - i) := by
          rw [← Nat.pow_succ]
          exact Nat.pow_le_pow_right (by omega) (by omega)
        rw [Nat.div_eq_of_lt (by omega)]
      have zf : dg r.1 code f ≤ 1 := by
        unfold dg
        have : code / 3 ^ (r.1 - 1 - f) < 2 := Nat.div_lt_of_lt_mul (by rw [Nat.mul_comm]; omega)
        generalize code / 3 ^ (r.1 - 1 - f) = w at this ⊢
        omega
      have zf1 : dg r.1 code f = 1 := by
        by_cases hz : dg r.1 code f = 0
        · exfalso
          have hz0 := PI_uniq (y := dg r.1 code) (z := fun _ => 0) PF ((hS _).mp s1) ((hS _).mp (Sol_const 0)) (d3 code) (fun j _ => by omega) (fun i hi hv => by
            by_cases hif : i < f
            · exact z0 i hif
            · by_cases he : i = f
              · rw [he]; exact hz
              · exact absurd hv (f3 i (by omega) (by omega)))
          exact j2 ((hz0 j j1).trans (hz0 0 hc).symm)
        · omega
      have hz1 := PI_uniq (y := dg r.1 code) (z := eF x f) PF ((hS _).mp s1) eS (d3 code) e3 (fun i hi hv => by
        by_cases hif : i < f
        · rw [z0 i hif, e0 i hif]
        · by_cases he : i = f
          · rw [he, zf1, ef]
          · exact absurd hv (f3 i (by omega) (by omega)))
      show (dg r.1 code p : Int) = _
      rw [hz1 p hp]
      unfold eF
      split
      · split <;> rfl
      · rfl
theorem colour_eq {B : Nat} {σ : AS} (hW : WA B σ) (k d : Int) : t_colour σ k d = o_colour σ k d := by
  unfold t_colour o_colour AS.on
  split
  · rename_i hk
    have hWr := hW.now.2.2 k.toNat (by omega)
    dsimp only
    generalize σ.now.2.2 k.toNat = r at hWr
    by_cases hd : 0 ≤ d ∧ d < (r.1 : Int)
    · have hpt : pts r.1 = r.1 := if_neg (by omega)
      rw [if_pos hd, if_pos (by rw [hpt]; exact hd), col_eq hWr (by omega)]
    · rw [if_neg hd]
      by_cases hc : r.1 = 0
      · have hpt : pts r.1 = 1 := if_pos hc
        by_cases hd2 : 0 ≤ d ∧ d < (pts r.1 : Int)
        · rw [if_pos hd2]
          unfold r_col fcl
          rw [hpt]
          rfl
        · rw [if_neg hd2]
      · have hpt : pts r.1 = r.1 := if_neg hc
        rw [if_neg (by rw [hpt]; exact hd)]
  · rfl
theorem n_colour {B : Nat} {σ : AS} {h : HH} (hW : WA B σ) (hM : MR σ h) (k d : Int) : Sp mX11_colour [vr 40 0, vi k, vi d] h (MP (o_colour σ k d) h) := by
  rw [← colour_eq hW]
  exact m_colour hW hM k d
