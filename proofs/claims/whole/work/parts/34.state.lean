/-! one state for both -/
/-- crossings, salted, passes -/
abbrev Rp : Type := Nat × Nat × (Nat → Nat)
/-- pretzels, grains, ropes -/
abbrev Ty : Type := Nat × Nat × (Nat → Rp)
def WR (r : Rp) : Prop := r.1 ≤ 8 ∧ r.2.1 < 2 ^ r.1 ∧ VT r.1 r.2.2 ∧ ∀ i, i < 2 * r.1 → rn r.2.2 i = r.2.2 i
def WTy (B : Nat) (T : Ty) : Prop := T.1 ≤ 5 ∧ T.2.1 ≤ B ∧ ∀ k, k < T.1 → WR (T.2.2 k)
def AS : Type := (Ty) × (Bool) × (Nat) × (Nat → Nat) × (Int) × (Nat) × (Nat) × (Nat → Ty) × (Nat) × (Nat → Nat × Nat) × (Nat → Bool) × (Nat → Ty) × (Nat → Nat)
def mkA (now : Ty) (laid : Bool) (L : Nat) (tx : Nat → Nat) (fault : Int) (drawn : Nat) (cnt : Nat) (hist : Nat → Ty) (ents : Nat) (book : Nat → Nat × Nat) (kept : Nat → Bool) (img : Nat → Ty) (iseed : Nat → Nat) : AS := (now, laid, L, tx, fault, drawn, cnt, hist, ents, book, kept, img, iseed)
def AS.now (s : AS) : Ty := (show (Ty) × (Bool) × (Nat) × (Nat → Nat) × (Int) × (Nat) × (Nat) × (Nat → Ty) × (Nat) × (Nat → Nat × Nat) × (Nat → Bool) × (Nat → Ty) × (Nat → Nat) from s).1
def AS.laid (s : AS) : Bool := (show (Ty) × (Bool) × (Nat) × (Nat → Nat) × (Int) × (Nat) × (Nat) × (Nat → Ty) × (Nat) × (Nat → Nat × Nat) × (Nat → Bool) × (Nat → Ty) × (Nat → Nat) from s).2.1
def AS.L (s : AS) : Nat := (show (Ty) × (Bool) × (Nat) × (Nat → Nat) × (Int) × (Nat) × (Nat) × (Nat → Ty) × (Nat) × (Nat → Nat × Nat) × (Nat → Bool) × (Nat → Ty) × (Nat → Nat) from s).2.2.1
def AS.tx (s : AS) : Nat → Nat := (show (Ty) × (Bool) × (Nat) × (Nat → Nat) × (Int) × (Nat) × (Nat) × (Nat → Ty) × (Nat) × (Nat → Nat × Nat) × (Nat → Bool) × (Nat → Ty) × (Nat → Nat) from s).2.2.2.1
def AS.fault (s : AS) : Int := (show (Ty) × (Bool) × (Nat) × (Nat → Nat) × (Int) × (Nat) × (Nat) × (Nat → Ty) × (Nat) × (Nat → Nat × Nat) × (Nat → Bool) × (Nat → Ty) × (Nat → Nat) from s).2.2.2.2.1
def AS.drawn (s : AS) : Nat := (show (Ty) × (Bool) × (Nat) × (Nat → Nat) × (Int) × (Nat) × (Nat) × (Nat → Ty) × (Nat) × (Nat → Nat × Nat) × (Nat → Bool) × (Nat → Ty) × (Nat → Nat) from s).2.2.2.2.2.1
def AS.cnt (s : AS) : Nat := (show (Ty) × (Bool) × (Nat) × (Nat → Nat) × (Int) × (Nat) × (Nat) × (Nat → Ty) × (Nat) × (Nat → Nat × Nat) × (Nat → Bool) × (Nat → Ty) × (Nat → Nat) from s).2.2.2.2.2.2.1
def AS.hist (s : AS) : Nat → Ty := (show (Ty) × (Bool) × (Nat) × (Nat → Nat) × (Int) × (Nat) × (Nat) × (Nat → Ty) × (Nat) × (Nat → Nat × Nat) × (Nat → Bool) × (Nat → Ty) × (Nat → Nat) from s).2.2.2.2.2.2.2.1
def AS.ents (s : AS) : Nat := (show (Ty) × (Bool) × (Nat) × (Nat → Nat) × (Int) × (Nat) × (Nat) × (Nat → Ty) × (Nat) × (Nat → Nat × Nat) × (Nat → Bool) × (Nat → Ty) × (Nat → Nat) from s).2.2.2.2.2.2.2.2.1
def AS.book (s : AS) : Nat → Nat × Nat := (show (Ty) × (Bool) × (Nat) × (Nat → Nat) × (Int) × (Nat) × (Nat) × (Nat → Ty) × (Nat) × (Nat → Nat × Nat) × (Nat → Bool) × (Nat → Ty) × (Nat → Nat) from s).2.2.2.2.2.2.2.2.2.1
def AS.kept (s : AS) : Nat → Bool := (show (Ty) × (Bool) × (Nat) × (Nat → Nat) × (Int) × (Nat) × (Nat) × (Nat → Ty) × (Nat) × (Nat → Nat × Nat) × (Nat → Bool) × (Nat → Ty) × (Nat → Nat) from s).2.2.2.2.2.2.2.2.2.2.1
def AS.img (s : AS) : Nat → Ty := (show (Ty) × (Bool) × (Nat) × (Nat → Nat) × (Int) × (Nat) × (Nat) × (Nat → Ty) × (Nat) × (Nat → Nat × Nat) × (Nat → Bool) × (Nat → Ty) × (Nat → Nat) from s).2.2.2.2.2.2.2.2.2.2.2.1
def AS.iseed (s : AS) : Nat → Nat := (show (Ty) × (Bool) × (Nat) × (Nat → Nat) × (Int) × (Nat) × (Nat) × (Nat → Ty) × (Nat) × (Nat → Nat × Nat) × (Nat → Bool) × (Nat → Ty) × (Nat → Nat) from s).2.2.2.2.2.2.2.2.2.2.2.2
def WA (B : Nat) (σ : AS) : Prop := (WTy B σ.now) ∧ (σ.L ≤ 240) ∧ (∀ i, i < σ.L → σ.tx i < 256) ∧ (σ.drawn < 2 ^ 31) ∧ (σ.cnt ≤ 16) ∧ (∀ i, i < σ.cnt → WTy B (σ.hist i)) ∧ (σ.ents ≤ 15) ∧ (∀ i, i < 2 → σ.kept i = true → WTy B (σ.img i) ∧ σ.iseed i < 2 ^ 31)
theorem WA.now {B : Nat} {σ : AS} (hh : WA B σ) : WTy B σ.now := hh.1
theorem WA.L {B : Nat} {σ : AS} (hh : WA B σ) : σ.L ≤ 240 := hh.2.1
theorem WA.tx {B : Nat} {σ : AS} (hh : WA B σ) : ∀ i, i < σ.L → σ.tx i < 256 := hh.2.2.1
theorem WA.drawn {B : Nat} {σ : AS} (hh : WA B σ) : σ.drawn < 2 ^ 31 := hh.2.2.2.1
theorem WA.cnt {B : Nat} {σ : AS} (hh : WA B σ) : σ.cnt ≤ 16 := hh.2.2.2.2.1
theorem WA.hist {B : Nat} {σ : AS} (hh : WA B σ) : ∀ i, i < σ.cnt → WTy B (σ.hist i) := hh.2.2.2.2.2.1
theorem WA.ents {B : Nat} {σ : AS} (hh : WA B σ) : σ.ents ≤ 15 := hh.2.2.2.2.2.2.1
theorem WA.img {B : Nat} {σ : AS} (hh : WA B σ) : ∀ i, i < 2 → σ.kept i = true → WTy B (σ.img i) ∧ σ.iseed i < 2 ^ 31 := hh.2.2.2.2.2.2.2
def RH (j : Nat) (r : Rp) (h : HH) : Prop := h 5 j 2 = (r.1 : Int) ∧ h 5 j 3 = (r.2.1 : Int) ∧ ∀ i, i < 2 * r.1 → h 6 j i = (r.2.2 i : Int)
def TH (t : Nat) (T : Ty) (h : HH) : Prop := h 3 t 1 = (T.1 : Int) ∧ h 3 t 2 = (T.2.1 : Int) ∧ ∀ k, k < T.1 → RH (5 * t + k) (T.2.2 k) h
/-- the class holds σ -/
def CR (σ : AS) (h : HH) : Prop := (TH 1 σ.now h) ∧ (h 0 0 10 = b01 σ.laid) ∧ (h 7 0 11 = b01 σ.laid) ∧ (h 7 0 4 = (σ.L : Int)) ∧ (∀ i, i < σ.L → h 8 0 i = (σ.tx i : Int)) ∧ (h 0 0 12 = σ.fault) ∧ (h 0 0 13 = (σ.drawn : Int)) ∧ (h 10 0 2 = (σ.cnt : Int)) ∧ (∃ n : Nat, n < 16 ∧ h 10 0 1 = (n : Int) ∧ ∀ i, i < σ.cnt → TH (2 + (n + 15 - i) % 16) (σ.hist i) h) ∧ (h 14 0 2 = (σ.ents : Int)) ∧ (∀ i, i < σ.ents → h 15 0 i = ((σ.book i).1 : Int) ∧ h 16 0 i = ((σ.book i).2 : Int)) ∧ (h 0 0 11 = ((setT σ.kept 2 : Nat) : Int)) ∧ (∀ i, i < 2 → σ.kept i = true → TH (18 + i) (σ.img i) h ∧ h 13 0 i = (σ.iseed i : Int))
theorem CR.now {σ : AS} {h : HH} (hh : CR σ h) : TH 1 σ.now h := hh.1
theorem CR.laid {σ : AS} {h : HH} (hh : CR σ h) : h 0 0 10 = b01 σ.laid := hh.2.1
theorem CR.htr {σ : AS} {h : HH} (hh : CR σ h) : h 7 0 11 = b01 σ.laid := hh.2.2.1
theorem CR.L {σ : AS} {h : HH} (hh : CR σ h) : h 7 0 4 = (σ.L : Int) := hh.2.2.2.1
theorem CR.tx {σ : AS} {h : HH} (hh : CR σ h) : ∀ i, i < σ.L → h 8 0 i = (σ.tx i : Int) := hh.2.2.2.2.1
theorem CR.fault {σ : AS} {h : HH} (hh : CR σ h) : h 0 0 12 = σ.fault := hh.2.2.2.2.2.1
theorem CR.drawn {σ : AS} {h : HH} (hh : CR σ h) : h 0 0 13 = (σ.drawn : Int) := hh.2.2.2.2.2.2.1
theorem CR.cnt {σ : AS} {h : HH} (hh : CR σ h) : h 10 0 2 = (σ.cnt : Int) := hh.2.2.2.2.2.2.2.1
theorem CR.hist {σ : AS} {h : HH} (hh : CR σ h) : ∃ n : Nat, n < 16 ∧ h 10 0 1 = (n : Int) ∧ ∀ i, i < σ.cnt → TH (2 + (n + 15 - i) % 16) (σ.hist i) h := hh.2.2.2.2.2.2.2.2.1
theorem CR.ents {σ : AS} {h : HH} (hh : CR σ h) : h 14 0 2 = (σ.ents : Int) := hh.2.2.2.2.2.2.2.2.2.1
theorem CR.book {σ : AS} {h : HH} (hh : CR σ h) : ∀ i, i < σ.ents → h 15 0 i = ((σ.book i).1 : Int) ∧ h 16 0 i = ((σ.book i).2 : Int) := hh.2.2.2.2.2.2.2.2.2.2.1
theorem CR.kept {σ : AS} {h : HH} (hh : CR σ h) : h 0 0 11 = ((setT σ.kept 2 : Nat) : Int) := hh.2.2.2.2.2.2.2.2.2.2.2.1
theorem CR.img {σ : AS} {h : HH} (hh : CR σ h) : ∀ i, i < 2 → σ.kept i = true → TH (18 + i) (σ.img i) h ∧ h 13 0 i = (σ.iseed i : Int) := hh.2.2.2.2.2.2.2.2.2.2.2.2
theorem RH.keep {j : Nat} {r : Rp} {h g : HH} (hR : RH j r h) (h5 : ∀ k, g 5 j k = h 5 j k) (h6 : ∀ k, g 6 j k = h 6 j k) : RH j r g := ⟨by rw [h5]; exact hR.1, by rw [h5]; exact hR.2.1, fun i hi => by rw [h6]; exact hR.2.2 i hi⟩
theorem TH.keep {t : Nat} {T : Ty} {h g : HH} (hT : TH t T h) (h5 : T.1 ≤ 5) (h3 : ∀ k, g 3 t k = h 3 t k) (hk : ∀ a i k, a = 5 ∨ a = 6 → 5 * t ≤ i → i < 5 * t + 5 → g a i k = h a i k) : TH t T g := ⟨by rw [h3]; exact hT.1, by rw [h3]; exact hT.2.1, fun k hk' => (hT.2.2 k hk').keep (fun q => hk 5 _ q (by omega) (by omega) (by omega)) (fun q => hk 6 _ q (by omega) (by omega) (by omega))⟩
theorem TH.copy {t t2 : Nat} {T : Ty} {h g : HH} {B : Nat} (hT : TH t2 T h) (hW : WTy B T) (hc : TC t t2 h g) : TH t T g := by
  obtain ⟨c1, c2, c3⟩ := hc
  have h5 := hW.1
  refine ⟨by rw [c1]; exact hT.1, by rw [c2]; exact hT.2.1, fun k hk => ?_⟩
  obtain ⟨d1, d2, d3⟩ := c3 k (by omega)
  obtain ⟨e1, e2, e3⟩ := hT.2.2 k hk
  have h8 := (hW.2.2 k hk).1
  exact ⟨by rw [d1]; exact e1, by rw [d2]; exact e2, fun i hi => by rw [d3 i (by omega)]; exact e3 i hi⟩
def rel (t i k : Nat) : Prop := t = 0 ∨ (t = 3 ∧ 1 ≤ i) ∨ ((t = 5 ∨ t = 6) ∧ 5 ≤ i) ∨ t = 8 ∨ t = 10 ∨ t = 13 ∨ t = 14 ∨ t = 15 ∨ t = 16 ∨ (t = 7 ∧ (k = 4 ∨ k = 11))
def nwp (t i : Nat) : Prop := (t = 3 ∧ i = 1) ∨ ((t = 5 ∨ t = 6) ∧ 5 ≤ i ∧ i < 10)
def AS.wnow (σ : AS) (T : Ty) : AS := mkA T σ.laid σ.L σ.tx σ.fault σ.drawn σ.cnt σ.hist σ.ents σ.book σ.kept σ.img σ.iseed
theorem CR.now' {σ : AS} {h g : HH} {B : Nat} {T : Ty} (hW : WA B σ) (hC : CR σ h) (hk : ∀ t i k, rel t i k → ¬ nwp t i → g t i k = h t i k) (hT : TH 1 T g) : CR (σ.wnow T) g := by
  have kT : ∀ (t : Nat) (T : Ty), T.1 ≤ 5 → 2 ≤ t → TH t T h → TH t T g := fun t T h5 h2 hT => hT.keep h5 (fun k => hk 3 t k (by simp [rel]; omega) (by simp [nwp]; omega)) (fun a i k ha h1 h3 => hk a i k (by unfold rel; omega) (by unfold nwp; omega))
  refine ⟨hT, ?_, ?_, ?_, fun i hi => ?_, ?_, ?_, ?_, ?_, ?_, fun i hi => ?_, ?_, fun i hi hi2 => ?_⟩
  · rw [hk 0 0 10 (by simp [rel]) (by simp [nwp])]; exact hC.laid
  · rw [hk 7 0 11 (by simp [rel]) (by simp [nwp])]; exact hC.htr
  · rw [hk 7 0 4 (by simp [rel]) (by simp [nwp])]; exact hC.L
  · rw [hk 8 0 i (by simp [rel]) (by simp [nwp])]; exact hC.tx i hi
  · rw [hk 0 0 12 (by simp [rel]) (by simp [nwp])]; exact hC.fault
  · rw [hk 0 0 13 (by simp [rel]) (by simp [nwp])]; exact hC.drawn
  · rw [hk 10 0 2 (by simp [rel]) (by simp [nwp])]; exact hC.cnt
  · obtain ⟨n, h1, h2, h3⟩ := hC.hist
    exact ⟨n, h1, by rw [hk 10 0 1 (by simp [rel]) (by simp [nwp])]; exact h2, fun i hi => kT _ _ (hW.hist i hi).1 (by omega) (h3 i hi)⟩
  · rw [hk 14 0 2 (by simp [rel]) (by simp [nwp])]; exact hC.ents
  · rw [hk 15 0 i (by simp [rel]) (by simp [nwp]), hk 16 0 i (by simp [rel]) (by simp [nwp])]; exact hC.book i hi
  · rw [hk 0 0 11 (by simp [rel]) (by simp [nwp])]; exact hC.kept
  · rw [hk 13 0 i (by simp [rel]) (by simp [nwp])]
    exact ⟨kT _ _ (hW.img i hi hi2).1.1 (by omega) (hC.img i hi hi2).1, (hC.img i hi hi2).2⟩
theorem CR.keep {σ : AS} {h g : HH} {B : Nat} (hW : WA B σ) (hC : CR σ h) (hk : ∀ t i k, rel t i k → g t i k = h t i k) : CR σ g := by
  refine hC.now' hW (fun t i k q _ => hk t i k q) ?_
  exact hC.now.keep hW.now.1 (fun k => hk 3 1 k (by simp [rel])) (fun a i k ha h1 h3 => hk a i k (by unfold rel; omega))
theorem CR.scr {σ : AS} {h g : HH} {B : Nat} {T : List (Nat × Nat)} {K : List (Nat × Nat × Nat)} (hW : WA B σ) (hC : CR σ h) (hF : Fr T K h g) (hT : ∀ q ∈ T, ∀ k, ¬ rel q.1 q.2 k) (hK : ∀ q ∈ K, ¬ rel q.1 q.2.1 q.2.2) : CR σ g :=
  hC.keep hW (fun t i k hr => hF t i k (fun q => hT _ q k hr) (fun q => hK _ q hr))
/-- what the class leaves alone -/
def FC (h g : HH) : Prop := ∀ t i k, 40 ≤ t → g t i k = h t i k
theorem FC.rf {h : HH} : FC h h := fun _ _ _ _ => rfl
theorem FC.fr {h g g' : HH} {T : List (Nat × Nat)} {K : List (Nat × Nat × Nat)} (h1 : FC h g) (hF : Fr T K g g') (hT : ∀ q ∈ T, q.1 < 40) (hK : ∀ q ∈ K, q.1 < 40) : FC h g' := fun t i k ht => by
  rw [hF t i k (fun q => by have := hT _ q; dsimp only at this; omega) (fun q => by have := hK _ q; dsimp only at this; omega)]
  exact h1 t i k ht
theorem FC.pt {h g : HH} {t i k : Nat} {v : Int} (h1 : FC h g) (ht : t < 40) : FC h (put g t i k v) := fun t' i' k' h' => by
  rw [put_ne (by omega)]
  exact h1 t' i' k' h'
theorem mem_tcs {t a i : Nat} : (a, i) ∈ tcs t ↔ (a = 3 ∧ i = t) ∨ ((a = 5 ∨ a = 6) ∧ 5 * t ≤ i ∧ i < 5 * t + 5) := by
  simp [tcs]
  omega
theorem tcs_lt {t : Nat} : ∀ q ∈ tcs t, q.1 < 40 := fun q hq => by
  have := mem_tcs.mp (show (q.1, q.2) ∈ tcs t from hq)
  omega
def push (T : Ty) (H : Nat → Ty) : Nat → Ty := fun i => if i = 0 then T else H (i - 1)
def AS.rem (σ : AS) : AS := mkA σ.now σ.laid σ.L σ.tx σ.fault σ.drawn (min (σ.cnt + 1) 16) (push σ.now σ.hist) σ.ents σ.book σ.kept σ.img σ.iseed
theorem WA.rem {B : Nat} {σ : AS} (hW : WA B σ) : WA B σ.rem := by
  refine ⟨hW.now, hW.L, hW.tx, hW.drawn, ?_, fun i hi => ?_, hW.ents, hW.img⟩
  · show min (σ.cnt + 1) 16 ≤ 16
    omega
  · have hi : i < min (σ.cnt + 1) 16 := hi
    show WTy B (push σ.now σ.hist i)
    unfold push
    split
    · exact hW.now
    · exact hW.hist _ (by omega)
/-- remember, over the state -/
theorem x_rem {B : Nat} {σ : AS} {h : HH} (hW : WA B σ) (hC : CR σ h) : Sp mX2_remember [vr 10 0, vr 3 1] h (fun r g => r = none ∧ CR σ.rem g ∧ (∀ j k, j < 10 → g 5 j k = h 5 j k ∧ g 6 j k = h 6 j k) ∧ (∀ k, g 3 1 k = h 3 1 k) ∧ FC h g) := by
  obtain ⟨n, hn, hn1, hH⟩ := hC.hist
  refine Sp.weak (x_remember n σ.cnt h hn1 hn hC.cnt hW.cnt) ?_
  rintro r g ⟨rfl, hT, g1, g2, hF⟩
  have kk : ∀ t i k, rel t i k → ¬ (t, i) ∈ tcs (2 + n) → ¬ (t = 10) → g t i k = h t i k := fun t i k _ h2 h3 => hF t i k h2 (by simp; omega)
  have kT : ∀ (t : Nat) (T : Ty), T.1 ≤ 5 → 1 ≤ t → t ≠ 2 + n → TH t T h → TH t T g := fun t T h5 h2 hne hT => hT.keep h5 (fun k => kk 3 t k (by unfold rel; omega) (by rw [mem_tcs]; omega) (by omega)) (fun a i k ha h1 h3 => kk a i k (by unfold rel; omega) (by rw [mem_tcs]; omega) (by omega))
  have kz : ∀ t i k, t < 40 → t ≠ 3 → t ≠ 5 → t ≠ 6 → t ≠ 10 → g t i k = h t i k := fun t i k _ a b c d => hF t i k (by rw [mem_tcs]; omega) (by simp; omega)
  refine ⟨rfl, ⟨kT 1 _ hW.now.1 (by omega) (by omega) hC.now, ?_, ?_, ?_, fun i hi => ?_, ?_, ?_, g2, ?_, ?_, fun i hi => ?_, ?_, fun i hi hi2 => ?_⟩, fun j k hj => ⟨hF 5 j k (by rw [mem_tcs]; omega) (by simp), hF 6 j k (by rw [mem_tcs]; omega) (by simp)⟩, fun k => hF 3 1 k (by rw [mem_tcs]; omega) (by simp), FC.rf.fr hF tcs_lt (by simp)⟩
  · rw [kz 0 0 10 (by omega) (by omega) (by omega) (by omega) (by omega)]; exact hC.laid
  · rw [kz 7 0 11 (by omega) (by omega) (by omega) (by omega) (by omega)]; exact hC.htr
  · rw [kz 7 0 4 (by omega) (by omega) (by omega) (by omega) (by omega)]; exact hC.L
  · rw [kz 8 0 i (by omega) (by omega) (by omega) (by omega) (by omega)]; exact hC.tx i hi
  · rw [kz 0 0 12 (by omega) (by omega) (by omega) (by omega) (by omega)]; exact hC.fault
  · rw [kz 0 0 13 (by omega) (by omega) (by omega) (by omega) (by omega)]; exact hC.drawn
  · refine ⟨(n + 1) % 16, by omega, g1, fun i hi => ?_⟩
    have hi : i < min (σ.cnt + 1) 16 := hi
    show TH (2 + ((n + 1) % 16 + 15 - i) % 16) (push σ.now σ.hist i) g
    unfold push
    split
    · rename_i h0
      subst h0
      rw [show 2 + ((n + 1) % 16 + 15 - 0) % 16 = 2 + n by omega]
      exact hC.now.copy hW.now hT
    · have := hH (i - 1) (by omega)
      rw [show 2 + ((n + 1) % 16 + 15 - i) % 16 = 2 + (n + 15 - (i - 1)) % 16 by omega]
      exact kT _ _ (hW.hist (i - 1) (by omega)).1 (by omega) (by omega) this
  · rw [kz 14 0 2 (by omega) (by omega) (by omega) (by omega) (by omega)]; exact hC.ents
  · rw [kz 15 0 i (by omega) (by omega) (by omega) (by omega) (by omega), kz 16 0 i (by omega) (by omega) (by omega) (by omega) (by omega)]; exact hC.book i hi
  · rw [kz 0 0 11 (by omega) (by omega) (by omega) (by omega) (by omega)]; exact hC.kept
  · rw [kz 13 0 i (by omega) (by omega) (by omega) (by omega) (by omega)]
    exact ⟨kT _ _ (hW.img i hi hi2).1.1 (by omega) (by omega) (hC.img i hi hi2).1, (hC.img i hi hi2).2⟩
def AS.setR (σ : AS) (k : Nat) (r : Rp) : AS := σ.wnow (σ.now.1, σ.now.2.1, un σ.now.2.2 k r)
/-- one rope of the tray is another -/
theorem CR.rope {B : Nat} {σ : AS} {h g : HH} {k : Nat} {r : Rp} {T : List (Nat × Nat)} {K : List (Nat × Nat × Nat)} (hW : WA B σ) (hC : CR σ h) (hk : k < σ.now.1) (hF : Fr T K h g) (hT : ∀ q ∈ T, (∀ z, ¬ rel q.1 q.2 z) ∨ q = (5, 5 + k) ∨ q = (6, 5 + k)) (hK : ∀ q ∈ K, ¬ rel q.1 q.2.1 q.2.2) (hR : RH (5 + k) r g) : CR (σ.setR k r) g := by
  have h5 := hW.now.1
  have kk : ∀ t i z, rel t i z → ¬ ((t = 5 ∨ t = 6) ∧ i = 5 + k) → g t i z = h t i z := fun t i z hr hn => hF t i z (fun q => by
    rcases hT _ q with a | a | a
    · exact a z hr
    · cases a; exact hn ⟨Or.inl rfl, rfl⟩
    · cases a; exact hn ⟨Or.inr rfl, rfl⟩) (fun q => hK _ q hr)
  refine hC.now' hW (fun t i z hr hn => kk t i z hr (fun q => hn (by unfold nwp; omega))) ⟨?_, ?_, fun k' hk' => ?_⟩
  · rw [kk 3 1 1 (by simp [rel]) (by omega)]; exact hC.now.1
  · rw [kk 3 1 2 (by simp [rel]) (by omega)]; exact hC.now.2.1
  · have hk' : k' < σ.now.1 := hk'
    show RH (5 * 1 + k') (un σ.now.2.2 k r k') g
    by_cases he : k' = k
    · subst he; rw [un_eq]; exact hR
    · rw [un_ne _ _ he]
      exact (hC.now.2.2 k' hk').keep (fun q => kk 5 _ q (by unfold rel; omega) (by omega)) (fun q => kk 6 _ q (by unfold rel; omega) (by omega))
theorem CR.RP {B : Nat} {σ : AS} {h : HH} {k : Nat} (hW : WA B σ) (hC : CR σ h) (hk : k < σ.now.1) : RP (5 + k) (σ.now.2.2 k).1 (σ.now.2.2 k).2.2 (σ.now.2.2 k).2.1 h := by
  obtain ⟨a, b, c⟩ := hC.now.2.2 k hk
  obtain ⟨w1, w2, w3, w4⟩ := hW.now.2.2 k hk
  have hp : 2 ^ (σ.now.2.2 k).1 ≤ 2 ^ 8 := Nat.pow_le_pow_right (by omega) w1
  exact ⟨a, w1, b, by omega, c, fun i hi => by have := w3.1 i hi; omega⟩
