/-! ranks: how many solutions -/
def sI (F : Nat → Int) : Nat → Int
  | 0 => 0
  | n + 1 => sI F n + F n
theorem sI_cong {F G : Nat → Int} : ∀ {n : Nat}, (∀ i, i < n → F i = G i) → sI F n = sI G n
  | 0, _ => rfl
  | n + 1, h => by
    show sI F n + F n = sI G n + G n
    rw [sI_cong (n := n) (fun i hi => h i (by omega)), h n (by omega)]
theorem sI_add (F G : Nat → Int) : ∀ n, sI (fun i => F i + G i) n = sI F n + sI G n
  | 0 => rfl
  | n + 1 => by
    show sI (fun i => F i + G i) n + (F n + G n) = (sI F n + F n) + (sI G n + G n)
    rw [sI_add F G n]
    omega
theorem sI_mul (a : Int) (F : Nat → Int) : ∀ n, sI (fun i => a * F i) n = a * sI F n
  | 0 => by show (0 : Int) = a * 0; omega
  | n + 1 => by
    show sI (fun i => a * F i) n + a * F n = a * (sI F n + F n)
    rw [sI_mul a F n, Int.mul_add]
theorem sI_dvd {m : Int} {F G : Nat → Int} : ∀ {n : Nat}, (∀ i, i < n → m ∣ F i - G i) → m ∣ sI F n - sI G n
  | 0, _ => by show m ∣ 0 - 0; exact ⟨0, by omega⟩
  | n + 1, h => by
    show m ∣ (sI F n + F n) - (sI G n + G n)
    rw [show (sI F n + F n) - (sI G n + G n) = (sI F n - sI G n) + (F n - G n) by omega]
    exact Int.dvd_add (sI_dvd (n := n) (fun i hi => h i (by omega))) (h n (by omega))
theorem sI_one {F : Nat → Int} {p : Nat} : ∀ {n : Nat}, p < n → (∀ i, i < n → i ≠ p → F i = 0) → sI F n = F p
  | 0, h, _ => absurd h (Nat.not_lt_zero p)
  | n + 1, h, h0 => by
    show sI F n + F n = F p
    by_cases he : p = n
    · subst he
      have : ∀ k, k ≤ p → sI F k = 0 := by
        intro k
        induction k with
        | zero => intro _; rfl
        | succ k ih =>
          intro hk
          show sI F k + F k = 0
          rw [ih (by omega), h0 k (by omega) (by omega)]
          rfl
      rw [this p (Nat.le_refl _)]
      omega
    · rw [sI_one (n := n) (by omega) (fun i hi => h0 i (by omega)), h0 n (by omega) (by omega)]
      omega
theorem modd (x m : Nat) : (m : Int) ∣ ((x % m : Nat) : Int) - (x : Int) := by
  refine ⟨-((x / m : Nat) : Int), ?_⟩
  have h := Nat.div_add_mod x m
  have h2 : (x : Int) = (m : Int) * ((x / m : Nat) : Int) + ((x % m : Nat) : Int) := by
    rw [← Int.natCast_mul, ← Int.natCast_add, h]
  rw [Int.mul_neg]
  omega
theorem dvd_iff_sub {m a b : Int} (h : m ∣ a - b) : m ∣ a ↔ m ∣ b := by
  constructor
  · intro ha
    have := Int.dvd_sub ha h
    rw [show a - (a - b) = b by omega] at this
    exact this
  · intro hb
    have := Int.dvd_add hb h
    rw [show b + (a - b) = a by omega] at this
    exact this
theorem dvd_mulr {m a : Int} (b : Int) (h : m ∣ a) : m ∣ a * b := Int.dvd_trans h (Int.dvd_mul_right a b)
theorem dvd_mull {m a : Int} (b : Int) (h : m ∣ a) : m ∣ b * a := Int.dvd_trans h (Int.dvd_mul_left b a)
/-- a number that has a partner may be left out -/
theorem dvd_unit {m f w b : Int} (h : m ∣ w * f - 1) : m ∣ f * b ↔ m ∣ b := by
  constructor
  · intro hb
    have h1 := dvd_mull w hb
    have h2 := dvd_mulr b h
    have h3 := Int.dvd_sub h1 h2
    rw [show w * (f * b) - (w * f - 1) * b = b by grind] at h3
    exact h3
  · exact dvd_mull f
theorem inv5 {m : Nat} (hm : m = 3 ∨ m = 5) {u : Int} (h : ¬ (m : Int) ∣ u) : ∃ w : Int, (m : Int) ∣ w * u - 1 := by
  rcases hm with rfl | rfl
  · have : u % 3 = 1 ∨ u % 3 = 2 := by omega
    rcases this with h1 | h1
    · exact ⟨1, by omega⟩
    · exact ⟨2, by omega⟩
  · have : u % 5 = 1 ∨ u % 5 = 2 ∨ u % 5 = 3 ∨ u % 5 = 4 := by omega
    rcases this with h1 | h1 | h1 | h1
    · exact ⟨1, by omega⟩
    · exact ⟨3, by omega⟩
    · exact ⟨2, by omega⟩
    · exact ⟨4, by omega⟩
/-! counting -/
noncomputable def ind (p : Prop) : Nat := @ite Nat p (Classical.propDecidable p) 1 0
theorem ind_t {p : Prop} (h : p) : ind p = 1 := by unfold ind; exact if_pos h
theorem ind_f {p : Prop} (h : ¬ p) : ind p = 0 := by unfold ind; exact if_neg h
theorem ind_cg {p q : Prop} (h : p ↔ q) : ind p = ind q := by rw [propext h]
def sv (m k : Nat) (W : (Nat → Nat) → Nat) : (Nat → Nat) → Nat := fun y => sumT m (fun v => W (un y k v))
def sL (m : Nat) : List Nat → ((Nat → Nat) → Nat) → (Nat → Nat) → Nat
  | [], W => W
  | k :: l, W => sL m l (sv m k W)
theorem sumT_s (n : Nat) (F : Nat → Nat) : sumT (n + 1) F = sumT n F + F n := rfl
theorem sumT_cg {F G : Nat → Nat} : ∀ {n : Nat}, (∀ i, i < n → F i = G i) → sumT n F = sumT n G
  | 0, _ => rfl
  | n + 1, h => by rw [sumT_s, sumT_s, sumT_cg (n := n) (fun i hi => h i (by omega)), h n (by omega)]
theorem sumT_add (F G : Nat → Nat) : ∀ n, sumT n (fun i => F i + G i) = sumT n F + sumT n G
  | 0 => rfl
  | n + 1 => by rw [sumT_s, sumT_s, sumT_s, sumT_add F G n]; omega
theorem sumT_0 : ∀ n, sumT n (fun _ => 0) = 0
  | 0 => rfl
  | n + 1 => by rw [sumT_s, sumT_0 n]
theorem sumT_mul (a : Nat) (F : Nat → Nat) : ∀ n, sumT n (fun i => a * F i) = a * sumT n F
  | 0 => rfl
  | n + 1 => by rw [sumT_s, sumT_s, sumT_mul a F n, Nat.mul_add]
theorem sumT_const (a : Nat) : ∀ n, sumT n (fun _ => a) = n * a
  | 0 => (Nat.zero_mul a).symm
  | n + 1 => by rw [sumT_s, sumT_const a n, Nat.add_mul]; omega
theorem sumT_comm (F : Nat → Nat → Nat) (b : Nat) : ∀ a, sumT a (fun v => sumT b (fun w => F v w)) = sumT b (fun w => sumT a (fun v => F v w))
  | 0 => (sumT_0 b).symm
  | a + 1 => by
    rw [sumT_s, sumT_comm F b a, ← sumT_add]
    rfl
theorem un_comm {α : Type} (y : Nat → α) {i j : Nat} (v w : α) (h : i ≠ j) : un (un y i v) j w = un (un y j w) i v := funext fun x => by
  unfold un
  by_cases h1 : x = j
  · rw [if_pos h1, if_neg (by omega), if_pos h1]
  · rw [if_neg h1]
    by_cases h2 : x = i
    · rw [if_pos h2, if_pos h2]
    · rw [if_neg h2, if_neg h2, if_neg h1]
theorem sv_comm (m i j : Nat) (W : (Nat → Nat) → Nat) : sv m i (sv m j W) = sv m j (sv m i W) := by
  by_cases h : i = j
  · subst h; rfl
  · refine funext fun y => ?_
    unfold sv
    rw [sumT_comm]
    exact sumT_cg (fun w _ => sumT_cg (fun v _ => by rw [un_comm y v w h]))
theorem sL_perm {m : Nat} {l l' : List Nat} (h : l.Perm l') : ∀ W, sL m l W = sL m l' W := by
  induction h with
  | nil => exact fun _ => rfl
  | cons x _ ih => exact fun W => ih _
  | swap x y l =>
    intro W
    show sL m l (sv m x (sv m y W)) = sL m l (sv m y (sv m x W))
    rw [sv_comm]
  | trans _ _ ih1 ih2 => exact fun W => (ih1 W).trans (ih2 W)
theorem sL_mul {m a : Nat} : ∀ (l : List Nat) (W : (Nat → Nat) → Nat), sL m l (fun y => a * W y) = fun y => a * sL m l W y
  | [], W => rfl
  | k :: l, W => by
    show sL m l (sv m k (fun y => a * W y)) = fun y => a * sL m l (sv m k W) y
    rw [show sv m k (fun y => a * W y) = fun y => a * sv m k W y from funext fun y => sumT_mul a _ m]
    exact sL_mul l _
/-- a free column -/
theorem sv_free {m k : Nat} {Q Q' : (Nat → Nat) → Prop} (h : ∀ y v, Q (un y k v) ↔ Q' y) : sv m k (fun y => ind (Q y)) = fun y => m * ind (Q' y) := funext fun y => by
  show sumT m (fun v => ind (Q (un y k v))) = _
  rw [sumT_cg (G := fun _ => ind (Q' y)) (fun v _ => ind_cg (h y v)), sumT_const]
/-- a pivot's column -/
theorem sv_piv {m k : Nat} (hm : m = 3 ∨ m = 5) {Q Q' : (Nat → Nat) → Prop} {L : (Nat → Nat) → Int} {u : Int} (hu : ¬ (m : Int) ∣ u) (h : ∀ (y : Nat → Nat) (v : Nat), Q (un y k v) ↔ (m : Int) ∣ L y + u * (v : Int) ∧ Q' y) : sv m k (fun y => ind (Q y)) = fun y => ind (Q' y) := funext fun y => by
  show sumT m (fun v => ind (Q (un y k v))) = ind (Q' y)
  rw [sumT_cg (G := fun v => ind ((m : Int) ∣ L y + u * (v : Int) ∧ Q' y)) (fun v _ => ind_cg (h y v))]
  by_cases hq : Q' y
  · rw [ind_t hq, sumT_cg (G := fun v : Nat => ind ((m : Int) ∣ L y + u * (v : Int))) (fun v _ => ind_cg ⟨fun z => z.1, fun z => ⟨z, hq⟩⟩)]
    generalize L y = a
    rcases hm with rfl | rfl
    · show 0 + ind (((3 : Nat) : Int) ∣ a + u * ((0 : Nat) : Int)) + ind (((3 : Nat) : Int) ∣ a + u * ((1 : Nat) : Int)) + ind (((3 : Nat) : Int) ∣ a + u * ((2 : Nat) : Int)) = 1
      by_cases h0 : ((3 : Nat) : Int) ∣ a + u * ((0 : Nat) : Int)
      · rw [ind_t h0, ind_f (by omega), ind_f (by omega)]
      · by_cases h1 : ((3 : Nat) : Int) ∣ a + u * ((1 : Nat) : Int)
        · rw [ind_f h0, ind_t h1, ind_f (by omega)]
        · rw [ind_f h0, ind_f h1, ind_t (by
            have hu3 : u % 3 = 1 ∨ u % 3 = 2 := by omega
            have ha3 : a % 3 = 0 ∨ a % 3 = 1 ∨ a % 3 = 2 := by omega
            rcases hu3 with e1 | e1 <;> rcases ha3 with e2 | e2 | e2 <;> omega)]
    · show 0 + ind (((5 : Nat) : Int) ∣ a + u * ((0 : Nat) : Int)) + ind (((5 : Nat) : Int) ∣ a + u * ((1 : Nat) : Int)) + ind (((5 : Nat) : Int) ∣ a + u * ((2 : Nat) : Int)) + ind (((5 : Nat) : Int) ∣ a + u * ((3 : Nat) : Int)) + ind (((5 : Nat) : Int) ∣ a + u * ((4 : Nat) : Int)) = 1
      by_cases h0 : ((5 : Nat) : Int) ∣ a + u * ((0 : Nat) : Int)
      · rw [ind_t h0, ind_f (by omega), ind_f (by omega), ind_f (by omega), ind_f (by omega)]
      · by_cases h1 : ((5 : Nat) : Int) ∣ a + u * ((1 : Nat) : Int)
        · rw [ind_f h0, ind_t h1, ind_f (by omega), ind_f (by omega), ind_f (by omega)]
        · by_cases h2 : ((5 : Nat) : Int) ∣ a + u * ((2 : Nat) : Int)
          · rw [ind_f h0, ind_f h1, ind_t h2, ind_f (by omega), ind_f (by omega)]
          · by_cases h3 : ((5 : Nat) : Int) ∣ a + u * ((3 : Nat) : Int)
            · rw [ind_f h0, ind_f h1, ind_f h2, ind_t h3, ind_f (by omega)]
            · rw [ind_f h0, ind_f h1, ind_f h2, ind_f h3, ind_t (by
                have hu3 : u % 5 = 1 ∨ u % 5 = 2 ∨ u % 5 = 3 ∨ u % 5 = 4 := by omega
                have ha3 : a % 5 = 0 ∨ a % 5 = 1 ∨ a % 5 = 2 ∨ a % 5 = 3 ∨ a % 5 = 4 := by omega
                rcases hu3 with e1 | e1 | e1 | e1 <;> rcases ha3 with e2 | e2 | e2 | e2 | e2 <;> omega)]
  · rw [ind_f hq, sumT_cg (G := fun _ => 0) (fun v _ => ind_f (fun z => hq z.2)), sumT_0]
/-! the class's rows -/
def rho (A : MT) (r n : Nat) (z : Nat → Nat) : Int := sI (fun j => (A r j : Int) * (z j : Int)) n
theorem rho_s (A : MT) (r n : Nat) (z : Nat → Nat) : rho A r (n + 1) z = rho A r n z + (A r n : Int) * (z n : Int) := rfl
def pvt (c P m k : Nat) (A : MT) (rk q : Nat) : MT := clr (scl (exch P A q rk P) rk (fct (exch P A q rk P rk k) m (m - 1) 1) m P) rk k m P c
theorem fct_ok {v m : Nat} (hm : m = 3 ∨ m = 5) (h0 : v ≠ 0) (h : v < m) : v * fct v m (m - 1) 1 % m = 1 := by
  rcases hm with rfl | rfl
  · have : ∀ v, v < 3 → v ≠ 0 → v * fct v 3 2 1 % 3 = 1 := by decide
    exact this v h h0
  · have : ∀ v, v < 5 → v ≠ 0 → v * fct v 5 4 1 % 5 = 1 := by decide
    exact this v h h0
theorem exch_rk (P : Nat) (A : MT) (q rk j : Nat) (hj : j < P) : exch P A q rk P rk j = A q j := by
  unfold exch
  rw [if_pos hj]
  by_cases h : rk = q
  · rw [if_pos h, h]
  · rw [if_neg h, if_pos rfl]
theorem pvt_k {c P m k : Nat} {A : MT} {rk q : Nat} (hm : m = 3 ∨ m = 5) (hk : k < P) (hA : A q k < m) (h0 : A q k ≠ 0) : pvt c P m k A rk q rk k = 1 := by
  unfold pvt clr
  rw [if_neg (by omega)]
  unfold scl
  rw [if_pos ⟨rfl, hk⟩, exch_rk P A q rk k hk]
  exact fct_ok hm h0 hA
theorem pvt_o {c P m k : Nat} {A : MT} {rk q r : Nat} (hm : m = 3 ∨ m = 5) (hk : k < P) (hA : A q k < m) (h0 : A q k ≠ 0) (hr : r < c) (hne : r ≠ rk) (hlt : exch P A q rk P r k < m) : pvt c P m k A rk q r k = 0 := by
  have h1 : scl (exch P A q rk P) rk (fct (exch P A q rk P rk k) m (m - 1) 1) m P rk k = 1 := by
    unfold scl
    rw [if_pos ⟨rfl, hk⟩, exch_rk P A q rk k hk]
    exact fct_ok hm h0 hA
  have h2 : scl (exch P A q rk P) rk (fct (exch P A q rk P rk k) m (m - 1) 1) m P r k = exch P A q rk P r k := by
    unfold scl
    rw [if_neg (by omega)]
  unfold pvt clr
  rw [if_pos ⟨hr, hne, hk⟩, h1, h2, Nat.mul_one, show exch P A q rk P r k + (m - exch P A q rk P r k) = m by omega, Nat.mod_self]
theorem rho_exch {P n q rk r : Nat} {A : MT} {z : Nat → Nat} (hn : n ≤ P) : rho (exch P A q rk P) r n z = rho A (if r = q then rk else if r = rk then q else r) n z := sI_cong fun j hj => by
  unfold exch
  rw [if_pos (by omega)]
  by_cases h1 : r = q
  · rw [if_pos h1, if_pos h1]
  · rw [if_neg h1, if_neg h1]
    by_cases h2 : r = rk
    · rw [if_pos h2, if_pos h2]
    · rw [if_neg h2, if_neg h2]
theorem rho_scl {P n rk f m : Nat} {A : MT} {z : Nat → Nat} (hn : n ≤ P) : (m : Int) ∣ rho (scl A rk f m P) rk n z - (f : Int) * rho A rk n z := by
  unfold rho
  rw [← sI_mul]
  refine sI_dvd fun j hj => ?_
  unfold scl
  rw [if_pos ⟨rfl, by omega⟩]
  have := dvd_mulr (z j : Int) (modd (A rk j * f) m)
  rw [Int.natCast_mul] at this
  rw [show ((A rk j * f % m : Nat) : Int) * (z j : Int) - (f : Int) * ((A rk j : Int) * (z j : Int)) = (((A rk j * f % m : Nat) : Int) - (A rk j : Int) * (f : Int)) * (z j : Int) by grind]
  exact this
theorem rho_scl' {P n rk f m r : Nat} {A : MT} {z : Nat → Nat} (hr : r ≠ rk) : rho (scl A rk f m P) r n z = rho A r n z := sI_cong fun j hj => by
  unfold scl
  rw [if_neg (by omega)]
theorem rho_clr {P c n rk k m r : Nat} {A : MT} {z : Nat → Nat} (hn : n ≤ P) (hr : r < c) (hne : r ≠ rk) : (m : Int) ∣ rho (clr A rk k m P c) r n z - (rho A r n z + ((m - A r k : Nat) : Int) * rho A rk n z) := by
  unfold rho
  rw [← sI_mul, ← sI_add]
  refine sI_dvd fun j hj => ?_
  unfold clr
  rw [if_pos ⟨hr, hne, by omega⟩]
  have := dvd_mulr (z j : Int) (modd (A r j + (m - A r k) * A rk j) m)
  rw [Int.natCast_add, Int.natCast_mul] at this
  generalize ((m - A r k : Nat) : Int) = t at this ⊢
  rw [show ((((A r j + (m - A r k) * A rk j) % m : Nat) : Int)) * (z j : Int) - ((A r j : Int) * (z j : Int) + t * ((A rk j : Int) * (z j : Int))) = ((((A r j + (m - A r k) * A rk j) % m : Nat) : Int) - ((A r j : Int) + t * (A rk j : Int))) * (z j : Int) by grind]
  exact this
theorem rho_clr' {P c n rk k m : Nat} {A : MT} {z : Nat → Nat} : rho (clr A rk k m P c) rk n z = rho A rk n z := sI_cong fun j hj => by
  unfold clr
  rw [if_neg (by omega)]
/-- a pivot changes no solution -/
theorem pvt_eqv {c P m k n lo rk q : Nat} {A : MT} {z : Nat → Nat} (hm : m = 3 ∨ m = 5) (hk : k < P) (hn : n ≤ P) (hlo : lo ≤ rk) (hrq : rk ≤ q) (hq : q < c) (hA : A q k < m) (h0 : A q k ≠ 0) : (∀ r, lo ≤ r → r < c → (m : Int) ∣ rho A r n z) ↔ ∀ r, lo ≤ r → r < c → (m : Int) ∣ rho (pvt c P m k A rk q) r n z := by
  have e1 : (∀ r, lo ≤ r → r < c → (m : Int) ∣ rho A r n z) ↔ ∀ r, lo ≤ r → r < c → (m : Int) ∣ rho (exch P A q rk P) r n z := by
    constructor
    · intro h r h1 h2
      rw [rho_exch hn]
      refine h _ ?_ ?_
      · split
        · omega
        · split <;> omega
      · split
        · omega
        · split <;> omega
    · intro h r h1 h2
      have := h (if r = q then rk else if r = rk then q else r) (by split; omega; split <;> omega) (by split; omega; split <;> omega)
      rw [rho_exch hn] at this
      rw [show (if (if r = q then rk else if r = rk then q else r) = q then rk else if (if r = q then rk else if r = rk then q else r) = rk then q else (if r = q then rk else if r = rk then q else r)) = r by
        by_cases a : r = q
        · rw [if_pos a]
          by_cases b : rk = q
          · rw [if_pos b]; omega
          · rw [if_neg b, if_pos rfl]; omega
        · rw [if_neg a]
          by_cases b : r = rk
          · rw [if_pos b, if_pos rfl]; omega
          · rw [if_neg b, if_neg a, if_neg b]] at this
      exact this
  rw [e1]
  have hf : (m : Int) ∣ (A q k : Int) * (fct (exch P A q rk P rk k) m (m - 1) 1 : Int) - 1 := by
    rw [exch_rk P A q rk k hk]
    have h1 := fct_ok hm h0 hA
    have h2 := modd (A q k * fct (A q k) m (m - 1) 1) m
    rw [h1, Int.natCast_mul] at h2
    have h3 := Int.dvd_neg.mpr h2
    rw [show -(((1 : Nat) : Int) - (A q k : Int) * (fct (A q k) m (m - 1) 1 : Int)) = (A q k : Int) * (fct (A q k) m (m - 1) 1 : Int) - 1 by omega] at h3
    exact h3
  unfold pvt
  generalize exch P A q rk P = A1 at hf ⊢
  generalize fct (A1 rk k) m (m - 1) 1 = f at hf ⊢
  have srk : (m : Int) ∣ rho (scl A1 rk f m P) rk n z ↔ (m : Int) ∣ rho A1 rk n z := by
    rw [dvd_iff_sub (rho_scl hn)]
    exact dvd_unit hf
  generalize hA2 : scl A1 rk f m P = A2 at srk ⊢
  have so : ∀ r, r ≠ rk → rho A2 r n z = rho A1 r n z := fun r hr => by rw [← hA2]; exact rho_scl' hr
  have key : (m : Int) ∣ rho A1 rk n z → ∀ r, r < c → r ≠ rk → ((m : Int) ∣ rho (clr A2 rk k m P c) r n z ↔ (m : Int) ∣ rho A1 r n z) := fun h r hr hne => by
    rw [dvd_iff_sub (rho_clr hn hr hne), so r hne]
    refine dvd_iff_sub ?_
    rw [show rho A1 r n z + ((m - A2 r k : Nat) : Int) * rho A2 rk n z - rho A1 r n z = ((m - A2 r k : Nat) : Int) * rho A2 rk n z by omega]
    exact dvd_mull _ (srk.mpr h)
  constructor
  · intro h r h1 h2
    by_cases hr : r = rk
    · subst hr
      rw [rho_clr']
      exact srk.mpr (h r h1 h2)
    · exact (key (h rk hlo (by omega)) r h2 hr).mpr (h r h1 h2)
  · intro h
    have hrk : (m : Int) ∣ rho A1 rk n z := by
      have := h rk hlo (by omega)
      rw [rho_clr'] at this
      exact srk.mp this
    intro r h1 h2
    by_cases hr : r = rk
    · rw [hr]; exact hrk
    · exact (key hrk r h2 hr).mp (h r h1 h2)
theorem rho_un {A : MT} {r k v : Nat} {y : Nat → Nat} : rho A r k (un y k v) = rho A r k y := sI_cong fun j hj => by
  unfold un
  rw [if_neg (by omega)]
theorem un_at {α : Type} (y : Nat → α) (k : Nat) (v : α) : un y k v k = v := if_pos rfl
theorem svs_some {c P m k : Nat} {x : SV} {q : Nat} (h : rwt x.1 k (c - x.2.1) x.2.1 = some q) : svs c P m k x = (pvt c P m k x.1 x.2.1 q, x.2.1 + 1, ui x.2.2 k (x.2.1 : Int)) := by
  unfold svs
  rw [h]
  rfl
theorem svs_none {c P m k : Nat} {x : SV} (h : rwt x.1 k (c - x.2.1) x.2.1 = none) : svs c P m k x = (x.1, x.2.1, ui x.2.2 k (-1)) := by
  unfold svs
  rw [h]
theorem pvt_lt {c P m k rk q : Nat} {A : MT} (hm : 0 < m) (h : ∀ r k, r < c → k < 8 → A r k < m) (hq : q < c) (hrk : rk < c) : ∀ r j, r < c → j < 8 → pvt c P m k A rk q r j < m := clr_lt hm (scl_lt hm (exch_lt h hq hrk))
/-- solutions of the class's rows -/
theorem cnt_cls {c m : Nat} (hm : m = 3 ∨ m = 5) (h8 : c ≤ 8) : ∀ (k : Nat) (A : MT) (rk : Nat) (V : Nat → Int) (y : Nat → Nat), k ≤ c → rk ≤ c → (∀ r k, r < c → k < 8 → A r k < m) → ∃ e, (svl c c m k (A, rk, V)).2.1 = rk + e ∧ e ≤ k ∧ sL m (List.range k).reverse (fun z => ind (∀ r, rk ≤ r → r < c → (m : Int) ∣ rho A r k z)) y = m ^ (k - e)
  | 0, A, rk, V, y, hk, hrk, hA => by
    refine ⟨0, rfl, Nat.le_refl _, ?_⟩
    show ind (∀ r, rk ≤ r → r < c → (m : Int) ∣ rho A r 0 y) = 1
    exact ind_t (fun r _ _ => ⟨0, by show (0 : Int) = _; omega⟩)
  | k + 1, A, rk, V, y, hk, hrk, hA => by
    rw [List.range_succ, List.reverse_append]
    show ∃ e, (svl c c m k (svs c c m k (A, rk, V))).2.1 = rk + e ∧ e ≤ k + 1 ∧ sL m (List.range k).reverse (sv m k (fun z => ind (∀ r, rk ≤ r → r < c → (m : Int) ∣ rho A r (k + 1) z))) y = m ^ (k + 1 - e)
    cases hr : rwt A k (c - rk) rk with
    | none =>
      rw [svs_none (x := (A, rk, V)) hr]
      have h0 := rwt_none hr
      rw [sv_free (Q' := fun z => ∀ r, rk ≤ r → r < c → (m : Int) ∣ rho A r k z) (fun y v => by
        refine forall_congr' fun r => ⟨fun h h1 h2 => ?_, fun h h1 h2 => ?_⟩
        · have := h h1 h2
          rw [rho_s, rho_un, h0 r h1 (by omega)] at this
          rw [show rho A r k y = rho A r k y + ((0 : Nat) : Int) * ((un y k v k : Nat) : Int) by rw [Int.natCast_zero, Int.zero_mul, Int.add_zero]]
          exact this
        · rw [rho_s, rho_un, h0 r h1 (by omega), Int.natCast_zero, Int.zero_mul, Int.add_zero]
          exact h h1 h2), sL_mul]
      obtain ⟨e, e1, e2, e3⟩ := cnt_cls hm h8 k A rk (ui V k (-1)) y (by omega) hrk hA
      refine ⟨e, e1, by omega, ?_⟩
      dsimp only
      rw [e3, show k + 1 - e = (k - e) + 1 by omega, Nat.pow_succ, Nat.mul_comm]
    | some q =>
      obtain ⟨q1, q2, q3, q4⟩ := rwt_some hr
      rw [svs_some (x := (A, rk, V)) hr]
      have hAq := hA q k (by omega) (by omega)
      have hlt := pvt_lt (P := c) (k := k) (rk := rk) (show 0 < m by omega) hA (show q < c by omega) (by omega)
      have p1 := pvt_k (c := c) (rk := rk) hm (show k < c by omega) hAq q3
      have po : ∀ r, r < c → r ≠ rk → pvt c c m k A rk q r k = 0 := fun r hr' hne => pvt_o hm (by omega) hAq q3 hr' hne (exch_lt hA (by omega) (by omega) r k hr' (by omega))
      rw [sv_piv hm (u := 1) (L := fun z => rho (pvt c c m k A rk q) rk k z) (Q' := fun z => ∀ r, rk + 1 ≤ r → r < c → (m : Int) ∣ rho (pvt c c m k A rk q) r k z) (by rcases hm with rfl | rfl <;> omega) (fun y v => by
        rw [pvt_eqv hm (show k < c by omega) (show k + 1 ≤ c by omega) (Nat.le_refl rk) q1 (by omega) hAq q3]
        constructor
        · intro h
          refine ⟨?_, fun r h1 h2 => ?_⟩
          · have := h rk (Nat.le_refl _) (by omega)
            rw [rho_s, rho_un, p1, un_at] at this
            exact this
          · have := h r (by omega) h2
            rw [rho_s, rho_un, po r h2 (by omega), Int.natCast_zero, Int.zero_mul, Int.add_zero] at this
            exact this
        · rintro ⟨h1, h2⟩ r h3 h4
          by_cases hrr : r = rk
          · subst hrr
            rw [rho_s, rho_un, p1, un_at]
            exact h1
          · rw [rho_s, rho_un, po r h4 hrr, Int.natCast_zero, Int.zero_mul, Int.add_zero]
            exact h2 r (by omega) h4)]
      obtain ⟨e, e1, e2, e3⟩ := cnt_cls hm h8 k (pvt c c m k A rk q) (rk + 1) (ui V k (rk : Int)) y (by omega) (by omega) hlt
      refine ⟨e + 1, ?_, by omega, ?_⟩
      · show (svl c c m k (pvt c c m k A rk q, rk + 1, ui V k (rk : Int))).2.1 = _
        rw [e1]
        omega
      · rw [e3, show k + 1 - (e + 1) = k - e by omega]
/-! the reference's rows -/
def sR (F : Nat → Int) : Nat → Nat → Int
  | 0, _ => 0
  | d + 1, k => F k + sR F d (k + 1)
theorem sR_cong {F G : Nat → Int} : ∀ {d k : Nat}, (∀ i, k ≤ i → i < k + d → F i = G i) → sR F d k = sR G d k
  | 0, k, _ => rfl
  | d + 1, k, h => by
    show F k + sR F d (k + 1) = G k + sR G d (k + 1)
    rw [h k (by omega) (by omega), sR_cong (d := d) (k := k + 1) (fun i h1 h2 => h i (by omega) (by omega))]
theorem sR_lin (a b : Int) (F G : Nat → Int) : ∀ d k, sR (fun i => a * F i - b * G i) d k = a * sR F d k - b * sR G d k
  | 0, k => by show (0 : Int) = a * 0 - b * 0; omega
  | d + 1, k => by
    show (a * F k - b * G k) + sR (fun i => a * F i - b * G i) d (k + 1) = a * (F k + sR F d (k + 1)) - b * (G k + sR G d (k + 1))
    rw [sR_lin a b F G d (k + 1)]
    grind
theorem sR_dvd {m : Int} {F G : Nat → Int} : ∀ {d k : Nat}, (∀ i, k ≤ i → i < k + d → m ∣ F i - G i) → m ∣ sR F d k - sR G d k
  | 0, k, _ => ⟨0, by show (0 : Int) - 0 = _; omega⟩
  | d + 1, k, h => by
    show m ∣ (F k + sR F d (k + 1)) - (G k + sR G d (k + 1))
    rw [show (F k + sR F d (k + 1)) - (G k + sR G d (k + 1)) = (F k - G k) + (sR F d (k + 1) - sR G d (k + 1)) by omega]
    exact Int.dvd_add (h k (by omega) (by omega)) (sR_dvd (d := d) (k := k + 1) (fun i h1 h2 => h i (by omega) (by omega)))
theorem sR_sI (F : Nat → Int) : ∀ d k, sR F d k = sI F (k + d) - sI F k
  | 0, k => by show (0 : Int) = sI F (k + 0) - sI F k; rw [Nat.add_zero]; omega
  | d + 1, k => by
    show F k + sR F d (k + 1) = _
    rw [sR_sI F d (k + 1), show k + 1 + d = k + (d + 1) by omega]
    show F k + (sI F (k + (d + 1)) - (sI F k + F k)) = _
    omega
def roz (A : MZT) (r d k : Nat) (z : Nat → Nat) : Int := sR (fun j => A r j * (z j : Int)) d k
theorem modz (x : Int) (m : Nat) : (m : Int) ∣ x % m - x := ⟨-(x / m), by have := Int.emod_add_mul_ediv x m; rw [Int.mul_neg]; omega⟩
theorem roz_un {A : MZT} {r d k v : Nat} {y : Nat → Nat} : roz A r (d + 1) k (un y k v) = A r k * (v : Int) + roz A r d (k + 1) y := by
  show A r k * ((un y k v k : Nat) : Int) + sR (fun j => A r j * ((un y k v j : Nat) : Int)) d (k + 1) = _
  rw [un_at, sR_cong (G := fun j => A r j * (y j : Int)) (fun i h1 h2 => by unfold un; rw [if_neg (by omega)])]
  rfl
theorem roz_swz {A : MZT} {q rk r d k : Nat} {z : Nat → Nat} : roz (swz A q rk) r d k z = roz A (if r = q then rk else if r = rk then q else r) d k z := sR_cong fun j _ _ => by
  unfold swz
  by_cases h1 : r = q
  · rw [if_pos h1, if_pos h1]
  · rw [if_neg h1, if_neg h1]
    by_cases h2 : r = rk
    · rw [if_pos h2, if_pos h2]
    · rw [if_neg h2, if_neg h2]
theorem mod_mul {m : Nat} (a b c d : Int) : (m : Int) ∣ (a % m * (b % m) - c % m * (d % m)) % m - (a * b - c * d) := by
  have h1 := modz a m
  have h2 := modz b m
  have h3 := modz c m
  have h4 := modz d m
  have h5 := modz (a % m * (b % m) - c % m * (d % m)) m
  generalize a % (m : Int) = a' at *
  generalize b % (m : Int) = b' at *
  generalize c % (m : Int) = c' at *
  generalize d % (m : Int) = d' at *
  generalize (a' * b' - c' * d') % (m : Int) = e at *
  have k1 := dvd_mulr b' h1
  have k2 := dvd_mull a h2
  have k3 := dvd_mulr d' h3
  have k4 := dvd_mull c h4
  have := Int.dvd_add h5 (Int.dvd_sub (Int.dvd_add k1 k2) (Int.dvd_add k3 k4))
  rw [show e - (a' * b' - c' * d') + ((a' - a) * b' + a * (b' - b) - ((c' - c) * d' + c * (d' - d))) = e - (a * b - c * d) by grind] at this
  exact this
theorem roz_clz {A : MZT} {rk k0 n m r d k : Nat} {z : Nat → Nat} (hr : rk < r) (hn : r < n) (hd : k + d ≤ n) : (m : Int) ∣ roz (clz A rk k0 n m) r d k z - (A rk k0 * roz A r d k z - A r k0 * roz A rk d k z) := by
  unfold roz
  rw [← sR_lin]
  refine sR_dvd fun j h1 h2 => ?_
  unfold clz
  rw [if_pos ⟨hr, hn, by omega⟩]
  have := dvd_mulr (z j : Int) (mod_mul (m := m) (A rk k0) (A r j) (A r k0) (A rk j))
  rw [show (A rk k0 % (m : Int) * (A r j % (m : Int)) - A r k0 % (m : Int) * (A rk j % (m : Int))) % (m : Int) * (z j : Int) - (A rk k0 * (A r j * (z j : Int)) - A r k0 * (A rk j * (z j : Int))) = ((A rk k0 % (m : Int) * (A r j % (m : Int)) - A r k0 % (m : Int) * (A rk j % (m : Int))) % (m : Int) - (A rk k0 * A r j - A r k0 * A rk j)) * (z j : Int) by grind]
  exact this
theorem roz_clz' {A : MZT} {rk k0 n m d k : Nat} {z : Nat → Nat} : roz (clz A rk k0 n m) rk d k z = roz A rk d k z := sR_cong fun j _ _ => by
  unfold clz
  rw [if_neg (by omega)]
theorem clz_k {A : MZT} {rk k n m r : Nat} (hr : rk < r) (hn : r < n) (hk : k < n) : (m : Int) ∣ clz A rk k n m r k := by
  unfold clz
  rw [if_pos ⟨hr, hn, hk⟩]
  have := mod_mul (m := m) (A rk k) (A r k) (A r k) (A rk k)
  rw [show A rk k * A r k - A r k * A rk k = 0 by grind] at this
  rw [Int.sub_zero] at this
  exact this
theorem czs_some {n m k : Nat} {x : MZT × Nat} {q : Nat} (h : rz (nzp x.1 m k) (n - x.2) x.2 = some q) : czs n m k x = (clz (swz x.1 q x.2) x.2 k n m, x.2 + 1) := by
  unfold czs
  rw [h]
theorem czs_none {n m k : Nat} {x : MZT × Nat} (h : rz (nzp x.1 m k) (n - x.2) x.2 = none) : czs n m k x = x := by
  unfold czs
  rw [h]
theorem dvd_of_mod {x : Int} {m : Nat} (h : x % m = 0) : (m : Int) ∣ x := Int.dvd_of_emod_eq_zero h
theorem cnt_ref {n m : Nat} (hm : m = 3 ∨ m = 5) : ∀ (d k : Nat) (A : MZT) (rk : Nat) (y : Nat → Nat), k + d = n → rk ≤ n → ∃ e, (czf n m d k (A, rk)).2 = rk + e ∧ e ≤ d ∧ sL m (List.range' k d) (fun z => ind (∀ r, rk ≤ r → r < n → (m : Int) ∣ roz A r d k z)) y = m ^ (d - e)
  | 0, k, A, rk, y, hk, hrk => by
    refine ⟨0, rfl, Nat.le_refl _, ?_⟩
    show ind (∀ r, rk ≤ r → r < n → (m : Int) ∣ roz A r 0 k y) = 1
    exact ind_t (fun r _ _ => ⟨0, by show (0 : Int) = _; omega⟩)
  | d + 1, k, A, rk, y, hk, hrk => by
    rw [List.range'_succ]
    show ∃ e, (czf n m d (k + 1) (czs n m k (A, rk))).2 = rk + e ∧ e ≤ d + 1 ∧ sL m (List.range' (k + 1) d) (sv m k (fun z => ind (∀ r, rk ≤ r → r < n → (m : Int) ∣ roz A r (d + 1) k z))) y = m ^ (d + 1 - e)
    cases hr : rz (nzp A m k) (n - rk) rk with
    | none =>
      rw [czs_none (x := (A, rk)) hr]
      have h0 : ∀ r, rk ≤ r → r < n → (m : Int) ∣ A r k := fun r h1 h2 => by
        have := rz_none hr r h1 (by omega)
        unfold nzp at this
        exact dvd_of_mod (Classical.byContradiction fun z => by rw [decide_eq_false_iff_not] at this; exact this z)
      rw [sv_free (Q' := fun z => ∀ r, rk ≤ r → r < n → (m : Int) ∣ roz A r d (k + 1) z) (fun y v => by
        refine forall_congr' fun r => forall_congr' fun h1 => forall_congr' fun h2 => ?_
        rw [roz_un]
        refine dvd_iff_sub ?_
        rw [show A r k * (v : Int) + roz A r d (k + 1) y - roz A r d (k + 1) y = A r k * (v : Int) by omega]
        exact dvd_mulr _ (h0 r h1 h2)), sL_mul]
      obtain ⟨e, e1, e2, e3⟩ := cnt_ref hm d (k + 1) A rk y (by omega) hrk
      refine ⟨e, e1, by omega, ?_⟩
      dsimp only
      rw [e3, show d + 1 - e = (d - e) + 1 by omega, Nat.pow_succ, Nat.mul_comm]
    | some q =>
      obtain ⟨q1, q2, q3⟩ := rz_some hr
      rw [czs_some (x := (A, rk)) hr]
      have hu : ¬ (m : Int) ∣ swz A q rk rk k := by
        have e : swz A q rk rk k = A q k := by
          unfold swz
          by_cases h : rk = q
          · rw [if_pos h, h]
          · rw [if_neg h, if_pos rfl]
        rw [e]
        unfold nzp at q3
        rw [decide_eq_true_iff] at q3
        exact fun z => q3 (Int.emod_eq_zero_of_dvd z)
      obtain ⟨w, hw⟩ := inv5 hm hu
      have e1 : ∀ z : Nat → Nat, (∀ r, rk ≤ r → r < n → (m : Int) ∣ roz A r (d + 1) k z) ↔ ∀ r, rk ≤ r → r < n → (m : Int) ∣ roz (swz A q rk) r (d + 1) k z := by
        intro z
        constructor
        · intro h r h1 h2
          rw [roz_swz]
          refine h _ ?_ ?_
          · split
            · omega
            · split <;> omega
          · split
            · omega
            · split <;> omega
        · intro h r h1 h2
          have := h (if r = q then rk else if r = rk then q else r) (by split; omega; split <;> omega) (by split; omega; split <;> omega)
          rw [roz_swz] at this
          rw [show (if (if r = q then rk else if r = rk then q else r) = q then rk else if (if r = q then rk else if r = rk then q else r) = rk then q else (if r = q then rk else if r = rk then q else r)) = r by
            by_cases a : r = q
            · rw [if_pos a]
              by_cases b : rk = q
              · rw [if_pos b]; omega
              · rw [if_neg b, if_pos rfl]; omega
            · rw [if_neg a]
              by_cases b : r = rk
              · rw [if_pos b, if_pos rfl]; omega
              · rw [if_neg b, if_neg a, if_neg b]] at this
          exact this
      generalize swz A q rk = A1 at hu hw e1 ⊢
      rw [sv_piv hm (u := A1 rk k) (L := fun z => roz A1 rk d (k + 1) z) (Q' := fun z => ∀ r, rk + 1 ≤ r → r < n → (m : Int) ∣ roz (clz A1 rk k n m) r d (k + 1) z) hu (fun y v => by
        rw [e1]
        have k1 : ∀ r, rk < r → r < n → (m : Int) ∣ roz A1 rk (d + 1) k (un y k v) → ((m : Int) ∣ roz A1 r (d + 1) k (un y k v) ↔ (m : Int) ∣ roz (clz A1 rk k n m) r d (k + 1) y) := fun r h1 h2 h3 => by
          have c1 := roz_clz (A := A1) (k0 := k) (m := m) (z := un y k v) h1 h2 (show k + (d + 1) ≤ n by omega)
          have c2 : (m : Int) ∣ roz (clz A1 rk k n m) r (d + 1) k (un y k v) - roz (clz A1 rk k n m) r d (k + 1) y := by
            rw [roz_un, show clz A1 rk k n m r k * (v : Int) + roz (clz A1 rk k n m) r d (k + 1) y - roz (clz A1 rk k n m) r d (k + 1) y = clz A1 rk k n m r k * (v : Int) by omega]
            exact dvd_mulr _ (clz_k h1 h2 (by omega))
          rw [← dvd_iff_sub c2, dvd_iff_sub c1]
          refine Iff.trans (dvd_unit hw).symm (dvd_iff_sub (b := A1 rk k * roz A1 r (d + 1) k (un y k v)) (by
            rw [show A1 rk k * roz A1 r (d + 1) k (un y k v) - A1 r k * roz A1 rk (d + 1) k (un y k v) - A1 rk k * roz A1 r (d + 1) k (un y k v) = -(A1 r k * roz A1 rk (d + 1) k (un y k v)) by omega]
            exact Int.dvd_neg.mpr (dvd_mull _ h3))).symm
        constructor
        · intro h
          have hrk := h rk (Nat.le_refl _) (by omega)
          refine ⟨?_, fun r h1 h2 => (k1 r (by omega) h2 hrk).mp (h r (by omega) h2)⟩
          rw [roz_un] at hrk
          rw [Int.add_comm]
          exact hrk
        · rintro ⟨h1, h2⟩
          have hrk : (m : Int) ∣ roz A1 rk (d + 1) k (un y k v) := by rw [roz_un, Int.add_comm]; exact h1
          intro r h3 h4
          by_cases hrr : r = rk
          · rw [hrr]; exact hrk
          · exact (k1 r (by omega) h4 hrk).mpr (h2 r (by omega) h4))]
      obtain ⟨e, e1, e2, e3⟩ := cnt_ref (n := n) hm d (k + 1) (clz A1 rk k n m) (rk + 1) y (by omega) (by omega)
      refine ⟨e + 1, ?_, by omega, ?_⟩
      · show (czf n m d (k + 1) (clz A1 rk k n m, rk + 1)).2 = _
        rw [e1]
        omega
      · rw [e3, show d + 1 - (e + 1) = d - e by omega]
/-! both count the same -/
/-- a colouring -/
def Sol (r : Rp) (m : Nat) (z : Nat → Nat) : Prop := ∀ x, x < r.1 → (m : Int) ∣ 2 * (z (obO r x) : Int) - (z (obB r x) : Int) - (z (enp r.1 (obB r x)) : Int)
theorem sI_pt {a : Int} {p n : Nat} {z : Nat → Nat} (hp : p < n) : sI (fun j => (if j = p then a else 0) * (z j : Int)) n = a * (z p : Int) := by
  rw [sI_one hp (fun i _ hi => by rw [if_neg hi, Int.zero_mul]), if_pos rfl]
theorem adt_row {R : Nat → Nat} {p a m n : Nat} {z : Nat → Nat} (hp : p < n) : (m : Int) ∣ sI (fun j => (adt R p a m j : Int) * (z j : Int)) n - (sI (fun j => (R j : Int) * (z j : Int)) n + (a : Int) * (z p : Int)) := by
  rw [← sI_pt (a := (a : Int)) (z := z) hp, ← sI_add]
  refine sI_dvd fun j _ => ?_
  unfold adt
  by_cases h : j = p
  · rw [if_pos h, if_pos h]
    have := dvd_mulr (z j : Int) (modd (R j + a) m)
    rw [Int.natCast_add] at this
    rw [← Int.add_mul, ← Int.sub_mul]
    exact this
  · rw [if_neg h, if_neg h, Int.zero_mul, Int.add_zero, Int.sub_self]
    exact ⟨0, by omega⟩
theorem mx0_sol {r : Rp} (h : WR r) {m x : Nat} (hm : 0 < m) (hx : x < r.1) {z : Nat → Nat} : (m : Int) ∣ rho (mx0 (obO r) (obB r) r.1 m) x r.1 z ↔ (m : Int) ∣ 2 * (z (obO r x) : Int) - (z (obB r x) : Int) - (z (enp r.1 (obB r x)) : Int) := by
  have h1 := obO_lt h hx
  have h2 := obB_lt h hx
  have h3 := enp_lt h2
  have c3 := adt_row (R := adt (adt (fun _ => 0) (obO r x) 2 m) (obB r x) (m - 1) m) (a := m - 1) (m := m) (z := z) h3
  have c2 := adt_row (R := adt (fun _ => 0) (obO r x) 2 m) (a := m - 1) (m := m) (z := z) h2
  have c1 := adt_row (R := fun _ => 0) (a := 2) (m := m) (z := z) h1
  have c0 : sI (fun j => ((0 : Nat) : Int) * (z j : Int)) r.1 = 0 := by
    rw [sI_mul, Int.natCast_zero, Int.zero_mul]
  rw [c0] at c1
  have hm1 : ((m - 1 : Nat) : Int) = (m : Int) - 1 := by omega
  rw [hm1] at c2 c3
  refine dvd_iff_sub ?_
  show (m : Int) ∣ sI (fun j => (adt (adt (adt (fun _ => 0) (obO r x) 2 m) (obB r x) (m - 1) m) (enp r.1 (obB r x)) (m - 1) m j : Int) * (z j : Int)) r.1 - _
  generalize sI (fun j => (adt (adt (adt (fun _ => 0) (obO r x) 2 m) (obB r x) (m - 1) m) (enp r.1 (obB r x)) (m - 1) m j : Int) * (z j : Int)) r.1 = s3 at c3 ⊢
  generalize sI (fun j => (adt (adt (fun _ => 0) (obO r x) 2 m) (obB r x) (m - 1) m j : Int) * (z j : Int)) r.1 = s2 at c3 c2
  generalize sI (fun j => (adt (fun _ => 0) (obO r x) 2 m j : Int) * (z j : Int)) r.1 = s1 at c1 c2
  generalize (z (obO r x) : Int) = a at *
  generalize (z (obB r x) : Int) = b at *
  generalize (z (enp r.1 (obB r x)) : Int) = c at *
  have := Int.dvd_add (Int.dvd_add c3 c2) (Int.dvd_add c1 (Int.dvd_add (Int.dvd_mul_right (m : Int) b) (Int.dvd_mul_right (m : Int) c)))
  rw [show s3 - (s2 + ((m : Int) - 1) * c) + (s2 - (s1 + ((m : Int) - 1) * b)) + (s1 - (0 + ((2 : Nat) : Int) * a) + ((m : Int) * b + (m : Int) * c)) = s3 - (2 * a - b - c) by grind] at this
  exact this
theorem mz0_sol {r : Rp} (h : WR r) {j : Nat} (hj : j < r.1) {z : Nat → Nat} : roz (mz0 r) j r.1 0 z = 2 * (z (obO r (stx r j)) : Int) - (z j : Int) - (z (enp r.1 j) : Int) := by
  obtain ⟨s1, s2⟩ := stx_ok h hj
  have h1 := obO_lt h s1
  have h3 := enp_lt hj
  unfold roz
  rw [sR_sI, Nat.zero_add]
  show sI _ r.1 - 0 = _
  rw [sI_cong (G := fun q => ((if q = obO r (stx r j) then 2 else 0) * (z q : Int) + (if q = j then -1 else 0) * (z q : Int)) + (if q = enp r.1 j then -1 else 0) * (z q : Int)) (fun q _ => by
    unfold mz0
    rw [if_pos hj, ← Int.add_mul, ← Int.add_mul]
    congr 1
    split <;> split <;> split <;> omega), sI_add, sI_add, sI_pt h1, sI_pt hj, sI_pt h3]
  omega
theorem ways_eq {r : Rp} (h : WR r) {m : Nat} (hm : m = 3 ∨ m = 5) : r_ways r m = r_wz r m := by
  have h8 := h.1
  by_cases hc : r.1 = 0
  · unfold r_wz r_ways svR
    rw [if_pos hc, hc]
    show m ^ (1 - 0) = m
    rw [Nat.sub_zero, Nat.pow_one]
  · have hp : pts r.1 = r.1 := if_neg hc
    have hlt : ∀ a k, a < r.1 → k < 8 → mx0 (obO r) (obB r) r.1 m a k < m := fun a k _ _ => by
      unfold mx0 adt
      have : ∀ x, x % m < m := fun x => Nat.mod_lt x (by omega)
      split
      · exact this _
      · split
        · exact this _
        · split
          · exact this _
          · show 0 < m
            omega
    obtain ⟨e, e1, e2, e3⟩ := cnt_cls hm h8 r.1 (mx0 (obO r) (obB r) r.1 m) 0 (fun _ => -1) (fun _ => 0) (Nat.le_refl _) (Nat.zero_le _) hlt
    obtain ⟨e', e1', e2', e3'⟩ := cnt_ref (n := r.1) hm r.1 0 (mz0 r) 0 (fun _ => 0) (by omega) (Nat.zero_le _)
    have eW : (fun z => ind (∀ a, 0 ≤ a → a < r.1 → (m : Int) ∣ rho (mx0 (obO r) (obB r) r.1 m) a r.1 z)) = (fun z => ind (∀ a, 0 ≤ a → a < r.1 → (m : Int) ∣ roz (mz0 r) a r.1 0 z)) := funext fun z => ind_cg (by
      constructor
      · intro hh j _ hj
        obtain ⟨s1, s2⟩ := stx_ok h hj
        rw [mz0_sol h hj]
        have := (mx0_sol h (by omega) s1).mp (hh _ (Nat.zero_le _) s1)
        rw [s2] at this
        exact this
      · intro hh x _ hx
        have h2 := obB_lt h hx
        obtain ⟨s1, s2⟩ := stx_ok h h2
        have := hh _ (Nat.zero_le _) h2
        rw [mz0_sol h h2, obB_inj h _ _ s1 hx s2] at this
        exact (mx0_sol h (by omega) hx).mpr this)
    rw [eW, sL_perm (List.reverse_perm _), List.range_eq_range', e3'] at e3
    unfold r_wz r_ways svR
    rw [if_neg hc, hp, e1, e1', Nat.zero_add, Nat.zero_add]
    exact e3.symm
