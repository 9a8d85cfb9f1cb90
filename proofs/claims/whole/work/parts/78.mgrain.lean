def kgr : List (Nat × Nat × Nat) := [(40, 0, 8), (40, 0, 9), (40, 0, 10), (40, 0, 12)]
/-- the reference reads on: text, where, no fault yet -/
def RS (L : Nat) (tx : Nat → Nat) (a : Nat) (g : HH) : Prop := TXm L tx g ∧ g 40 0 8 = (a : Int) ∧ g 40 0 9 = 0 ∧ g 40 0 10 = -1
/-- a fault: its number, where; the letters say so -/
def FS (L : Nat) (tx : Nat → Nat) (g : HH) : Prop := ∃ e w : Nat, 0 < e ∧ g 40 0 9 = (e : Int) ∧ g 40 0 10 = (w : Int) ∧ vd tx L = some (e, w)
def GJ (tx : Nat → Nat) (p : PS) (b t v : Nat) : Prop := (t = 0 ∧ v = 0 ∧ rgo tx b = .inl p) ∨ (1 ≤ t ∧ t ≤ 3 ∧ v ≤ 99 ∧ (t = 1 → v ≤ 9) ∧ rgo tx (b + t) = .inl (2, t, b, v, p.2.2.2.2)) ∨ (3 ≤ t ∧ (3 < t ∨ 99 < v) ∧ (t = 3 → v ≤ 999) ∧ v ≤ 9999 ∧ rgo tx (b + t) = .inr (2, b))
theorem isd_iff {l : Nat} : isd l = true ↔ 48 ≤ l ∧ l ≤ 57 := by
  unfold isd
  rw [Bool.and_eq_true, decide_eq_true_iff, decide_eq_true_iff]
theorem isd_no {l : Nat} (h : ¬ (48 ≤ l ∧ l ≤ 57)) : isd l = false := by
  cases hh : isd l with
  | false => rfl
  | true => exact absurd (isd_iff.mp hh) h
theorem GJ.v {tx : Nat → Nat} {p : PS} {b t v : Nat} (h : GJ tx p b t v) : v ≤ 9999 ∧ (t < 4 → v ≤ 999) := by
  rcases h with ⟨h1, h2, _⟩ | ⟨_, h2, h3, _⟩ | ⟨h1, _, h3, h4, _⟩
  · omega
  · omega
  · exact ⟨h4, fun z => h3 (by omega)⟩
theorem GJ.step {tx : Nat → Nat} {p : PS} {b t v : Nat} (hp : p.1 = 1) (h : GJ tx p b t v) (hd : 48 ≤ tx (b + t) ∧ tx (b + t) ≤ 57) : GJ tx p b (t + 1) (if t < 4 then 10 * v + tx (b + t) - 48 else v) := by
  have hi := isd_iff.mpr hd
  rcases h with ⟨h1, h2, h3⟩ | ⟨h1, h2, h3, h4, h5⟩ | ⟨h1, h2, h3, h4, h5⟩
  · subst h1
    subst h2
    rw [if_pos (by omega)]
    refine Or.inr (Or.inl ⟨by omega, by omega, by omega, fun _ => by omega, rgo_ok h3 ?_⟩)
    rw [Nat.add_zero] at hi hd ⊢
    unfold rs
    rw [if_neg (by omega), if_neg (by omega), if_pos hp, if_pos hi]
    rw [Nat.add_zero, show 10 * 0 + tx b - 48 = tx b - 48 by omega]
  · rw [if_pos (by omega)]
    have e : rs (2, t, b, v, p.2.2.2.2) (tx (b + t)) (b + t) = if 3 < t + 1 ∨ 99 < 10 * v + (tx (b + t) - 48) then .inr 2 else .inl (2, t + 1, b, 10 * v + (tx (b + t) - 48), p.2.2.2.2) := by
      unfold rs
      rw [if_neg (by omega)]
      show (if (2 : Nat) = 0 then _ else if (2 : Nat) = 1 then _ else if (2 : Nat) = 2 then (if isd (tx (b + t)) then _ else _) else _) = _
      rw [if_neg (by decide), if_neg (by decide), if_pos rfl, if_pos hi]
    by_cases hb : 3 < t + 1 ∨ 99 < 10 * v + (tx (b + t) - 48)
    · rw [if_pos hb] at e
      have := rgo_bad h5 e
      refine Or.inr (Or.inr ⟨?_, by omega, fun _ => by omega, by omega, this⟩)
      by_cases ht : t = 1
      · have := h4 ht; omega
      · omega
    · rw [if_neg hb] at e
      refine Or.inr (Or.inl ⟨by omega, by omega, by omega, fun _ => by omega, ?_⟩)
      have := rgo_ok h5 e
      rw [show 10 * v + tx (b + t) - 48 = 10 * v + (tx (b + t) - 48) by omega]
      exact this
  · refine Or.inr (Or.inr ⟨by omega, by omega, fun _ => by omega, ?_, rgo_f h5 1⟩)
    split
    · have := h3 (by omega); omega
    · exact h4
theorem TXm.kp {L : Nat} {tx : Nat → Nat} {T : List (Nat × Nat)} {K : List (Nat × Nat × Nat)} {h g : HH} (hT : TXm L tx h) (hF : Fr T K h g) (h4 : (44, 0) ∉ T) (h40 : (40, 0) ∉ T) (h6 : (40, 0, 6) ∉ K) (hK : ∀ k, (44, 0, k) ∉ K) : TXm L tx g := hT.keep (hF 40 0 6 h40 h6) (fun i => hF 44 0 i h4 (hK i))
theorem m_grains (L a : Nat) (tx : Nat → Nat) (p : PS) (h : HH) (hS : RS L tx a h) (hL : L ≤ 240) (h256 : ∀ i, i < L → tx i < 256) (haL : a ≤ L) (hp : p.1 = 1) (hg : rgo tx a = .inl p) : Sp mX11_grains [vr 40 0] h (fun z g => z = none ∧ Fr [] kgr h g ∧ (FS L tx g ∨ ∃ a' p', a < a' ∧ a' ≤ L ∧ RS L tx a' g ∧ rgo tx a' = .inl p' ∧ p'.1 = 4 ∧ g 40 0 12 = (p'.2.2.2.1 : Int) ∧ p'.2.2.2.2.1 = p.2.2.2.2.1)) := by
  obtain ⟨hT, ha, h9, h10⟩ := hS
  obtain ⟨s1, s2, s3⟩ := sk_ok (tx := tx) haL
  have hg2 : rgo tx (sk tx L a) = .inl p := rgo_sk (by omega) hg
  generalize hb : sk tx L a = b at s1 s2 s3 hg2
  refine Sp.of rfl kX11_grains (Nat.le_of_ble_eq_true rfl) ?_
  have T120 : ∀ (t v : Nat) (g : HH), b + t ≤ L → v ≤ 9999 → TXm L tx g → g 40 0 8 = ((b + t : Nat) : Int) → Fr [] kgr h g → ((FS L tx g ∧ True) ∨ (g 40 0 9 = 0 ∧ g 40 0 10 = -1 ∧ 1 ≤ t ∧ (b + t < L → ¬ (48 ≤ tx (b + t) ∧ tx (b + t) ≤ 57)) ∧ rgo tx (b + t) = .inl (2, t, b, v, p.2.2.2.2))) → AW mX11_grains (fun z g => z = none ∧ Fr [] kgr h g ∧ (FS L tx g ∨ ∃ a' p', a < a' ∧ a' ≤ L ∧ RS L tx a' g ∧ rgo tx a' = .inl p' ∧ p'.1 = 4 ∧ g 40 0 12 = (p'.2.2.2.1 : Int) ∧ p'.2.2.2.2.1 = p.2.2.2.2.1)) 120 [(3, vi v), (2, vi t), (1, vi b), (0, vr 40 0)] [] g := by
    intro t v g hbt hv hT2 hg8 hF hc
    have hF2 : Fr [] kgr h (put g 40 0 12 (v : Int)) := hF.p2 (by simp [kgr])
    have hT3 : TXm L tx (put g 40 0 12 (v : Int)) := hT2.keep (by simp only [put_apply, Nat.reduceEqDiff, reduceIte, false_and, and_false, true_and, and_true, and_self, if_false, if_true, not_false_eq_true, not_true_eq_false, ne_eq]) (fun i => by simp only [put_apply, Nat.reduceEqDiff, reduceIte, false_and, and_false, true_and, and_true, and_self, if_false, if_true, not_false_eq_true, not_true_eq_false, ne_eq])
    have h8' : put g 40 0 12 (v : Int) 40 0 8 = ((b + t : Nat) : Int) := by rw [put_ne (by simp)]; exact hg8
    rcases hc with ⟨⟨e, w, e1, e2, e3, e4⟩, -⟩ | ⟨c1, c2, c3, c4, c5⟩
    · refine u_aloadn (k := 67) rfl rfl ?_
      refine u_iloadn (k := 68) rfl rfl ?_
      refine a_puti (k := 69) rfl pRX11_123 rfl rfl ?_
      refine u_aloadn (k := 70) rfl rfl ?_
      refine uv_virt0 (M' := mX11_ends) (k := 71) rfl lRX11_126 oX11_ends vX11_ends ⟨Nat.le_of_ble_eq_true rfl, Nat.le_of_ble_eq_true rfl⟩ rfl rfl (Nat.le_of_ble_eq_true rfl) (m_ends1 (b + t) _ h8' (by omega) (by rw [put_ne (by simp), e2]; omega)) (by intro r g hp; exact hp.1) (fun g3 hg3 => ?_)
      obtain ⟨-, hF3⟩ := hg3
      refine a_return (k := 72) rfl rfl ?_
      refine ⟨rfl, hF2.tr hF3 (by simp) (by simp [kgr]), Or.inl ⟨e, w, e1, ?_, ?_, e4⟩⟩
      · rw [hF3 40 0 9 (by simp) (by simp), put_ne (by simp)]; exact e2
      · rw [hF3 40 0 10 (by simp) (by simp), put_ne (by simp)]; exact e3
    · obtain ⟨k1, k2, k3⟩ := sk_ok (tx := tx) hbt
      refine u_aloadn (k := 67) rfl rfl ?_
      refine u_iloadn (k := 68) rfl rfl ?_
      refine a_puti (k := 69) rfl pRX11_123 rfl rfl ?_
      refine u_aloadn (k := 70) rfl rfl ?_
      refine uv_virt0 (M' := mX11_ends) (k := 71) rfl lRX11_126 oX11_ends vX11_ends ⟨Nat.le_of_ble_eq_true rfl, Nat.le_of_ble_eq_true rfl⟩ rfl rfl (Nat.le_of_ble_eq_true rfl) (m_ends0 L (b + t) tx _ hT3 hL h256 h8' hbt (by rw [put_ne (by simp)]; exact c1) (by rw [put_ne (by simp)]; exact c2)) (by intro r g hp; exact hp.1) (fun g3 hg3 => ?_)
      obtain ⟨-, e8, e59, en59, hF3⟩ := hg3
      refine a_return (k := 72) rfl rfl ?_
      refine ⟨rfl, hF2.tr hF3 (by simp) (by simp [ken, kgr]), ?_⟩
      have hT4 := hT3.kp hF3 (by simp) (by simp) (by simp [ken]) (by simp [ken])
      obtain ⟨p', q1, q2, q3⟩ := rgo_sk2 hbt (show (2, t, b, v, p.2.2.2.2).1 = 2 from rfl) c5
      by_cases hn : nx tx L (b + t) = 59
      · obtain ⟨n1, n2⟩ := e59 hn
        unfold nx at hn
        split at hn
        · rename_i hlt
          have hl : tx (sk tx L (b + t)) = 59 := by omega
          refine Or.inr ⟨sk tx L (b + t) + 1, (4, p'.2), by omega, by omega, ⟨hT4, e8, n1, n2⟩, rgo_ok q1 ?_, rfl, ?_, ?_⟩
          · rw [hl]
            unfold rs rnum
            rcases q3 with ⟨q3, _⟩ | q3
            · rw [if_neg (by decide), if_neg (by omega), if_neg (by omega), if_pos q3, isd_no (by decide), if_neg (by decide), if_pos rfl]
            · rw [if_neg (by decide), if_neg (by omega), if_neg (by omega), if_neg (by omega), if_pos q3, if_pos rfl]
          · rw [hF3 40 0 12 (by simp) (by simp [ken]), put_eq, q2]
          · rw [q2]
        · omega
      · obtain ⟨n1, n2⟩ := en59 hn
        refine Or.inl ⟨1, sk tx L (b + t), by omega, n1, n2, ?_⟩
        by_cases hlt : sk tx L (b + t) < L
        · have h32 := k3 hlt
          have hl : tx (sk tx L (b + t)) ≠ 59 := fun z => hn (by unfold nx; rw [if_pos hlt, z]; rfl)
          refine vd_rs q1 hlt ?_ (by decide)
          unfold rs rnum
          rcases q3 with ⟨q3, q4⟩ | q3
          · rw [if_neg h32, if_neg (by omega), if_neg (by omega), if_pos q3, isd_no (by rw [q4] at hlt ⊢; exact c4 hlt), if_neg (by decide), if_neg hl]
          · rw [if_neg h32, if_neg (by omega), if_neg (by omega), if_neg (by omega), if_pos q3, if_neg hl]
        · have he : sk tx L (b + t) = L := by omega
          rw [he] at q1 ⊢
          exact vd_end q1 (by omega) (by omega)
  have T90 : ∀ (t v : Nat) (g : HH), b + t ≤ L → GJ tx p b t v → (b + t < L → ¬ (48 ≤ tx (b + t) ∧ tx (b + t) ≤ 57)) → TXm L tx g → g 40 0 8 = ((b + t : Nat) : Int) → g 40 0 9 = 0 → g 40 0 10 = -1 → Fr [] kgr h g → AW mX11_grains (fun z g => z = none ∧ Fr [] kgr h g ∧ (FS L tx g ∨ ∃ a' p', a < a' ∧ a' ≤ L ∧ RS L tx a' g ∧ rgo tx a' = .inl p' ∧ p'.1 = 4 ∧ g 40 0 12 = (p'.2.2.2.1 : Int) ∧ p'.2.2.2.2.1 = p.2.2.2.2.1)) 90 [(3, vi v), (2, vi t), (1, vi b), (0, vr 40 0)] [] g := by
    intro t v g hbt hJ hnd hT2 hg8 hg9 hg10 hF
    have hv := hJ.v.1
    have bl : ∀ n : Nat, 0 < n → vd tx L = some (n, b) → AW mX11_grains (fun z g => z = none ∧ Fr [] kgr h g ∧ (FS L tx g ∨ ∃ a' p', a < a' ∧ a' ≤ L ∧ RS L tx a' g ∧ rgo tx a' = .inl p' ∧ p'.1 = 4 ∧ g 40 0 12 = (p'.2.2.2.1 : Int) ∧ p'.2.2.2.2.1 = p.2.2.2.2.1)) 120 [(3, vi v), (2, vi t), (1, vi b), (0, vr 40 0)] [] (put (put g 40 0 9 (n : Int)) 40 0 10 (b : Int)) := fun n hn hvd =>
      T120 t v _ hbt hv (hT2.keep (by simp only [put_apply, Nat.reduceEqDiff, reduceIte, false_and, and_false, true_and, and_true, and_self, if_false, if_true, not_false_eq_true, not_true_eq_false, ne_eq]) (fun i => by simp only [put_apply, Nat.reduceEqDiff, reduceIte, false_and, and_false, true_and, and_true, and_self, if_false, if_true, not_false_eq_true, not_true_eq_false, ne_eq])) (by simp only [put_apply, Nat.reduceEqDiff, reduceIte, false_and, and_false, true_and, and_true, and_self, if_false, if_true, not_false_eq_true, not_true_eq_false, ne_eq]; exact hg8) ((hF.p2 (by simp [kgr])).p2 (by simp [kgr])) (Or.inl ⟨⟨n, b, hn, by simp only [put_apply, Nat.reduceEqDiff, reduceIte, false_and, and_false, true_and, and_true, and_self, if_false, if_true, not_false_eq_true, not_true_eq_false, ne_eq], by simp only [put_apply, Nat.reduceEqDiff, reduceIte, false_and, and_false, true_and, and_true, and_self, if_false, if_true, not_false_eq_true, not_true_eq_false, ne_eq], hvd⟩, trivial⟩)
    rcases hJ with ⟨j1, j2, j3⟩ | ⟨j1, j2, j3, j4, j5⟩ | ⟨j1, j2, j3, j4, j5⟩
    · subst j1
      subst j2
      refine u_iloadn (k := 50) rfl rfl ?_
      refine a_if_ne (k := 51) rfl (fun c_91 => ?_) (fun c_91 => ?_)
      · exact absurd rfl c_91
      · refine u_aloadn (k := 52) rfl rfl ?_
        refine a_iconst (k := 53) rfl ?_
        refine u_iloadn (k := 54) rfl rfl ?_
        refine v_virt2 (M' := mX11_blames) (k := 55) rfl lRX11_115 oX11_blames vX11_blames ⟨Nat.le_of_ble_eq_true rfl, Nat.le_of_ble_eq_true rfl⟩ rfl rfl (Nat.le_of_ble_eq_true rfl) (m_blames 1 b g hg9 hg10) ?_
        refine a_goto (k := 56) rfl ?_
        refine bl 1 (by omega) ?_
        by_cases hlt : b < L
        · refine vd_rs hg2 hlt ?_ (by decide)
          unfold rs
          rw [if_neg (s3 hlt), if_neg (by omega), if_pos hp, isd_no (show ¬ (48 ≤ tx b ∧ tx b ≤ 57) from hnd hlt), if_neg (by decide)]
        · have hbL : b = L := by omega
          rw [hbL] at hg2 ⊢
          exact vd_end hg2 (by omega) (by omega)
    · refine u_iloadn (k := 50) rfl rfl ?_
      refine a_if_ne (k := 51) rfl (fun c_91 => ?_) (fun c_91 => ?_)
      · refine u_iloadn (k := 57) rfl rfl ?_
        refine a_iconst (k := 58) rfl ?_
        refine a_icmp_gt (k := 59) rfl (fun c_105 => ?_) (fun c_105 => ?_)
        · omega
        · refine u_iloadn (k := 60) rfl rfl ?_
          refine a_bipush (k := 61) rfl ?_
          refine a_icmp_le (k := 62) rfl (fun c_111 => ?_) (fun c_111 => ?_)
          · exact T120 t v g hbt hv hT2 hg8 hF (Or.inr ⟨hg9, hg10, j1, hnd, j5⟩)
          · omega
      · omega
    · have hvd : vd tx L = some (2, b) := vd_bad j5 hbt
      refine u_iloadn (k := 50) rfl rfl ?_
      refine a_if_ne (k := 51) rfl (fun c_91 => ?_) (fun c_91 => ?_)
      · refine u_iloadn (k := 57) rfl rfl ?_
        refine a_iconst (k := 58) rfl ?_
        refine a_icmp_gt (k := 59) rfl (fun c_105 => ?_) (fun c_105 => ?_)
        · refine u_aloadn (k := 63) rfl rfl ?_
          refine a_iconst (k := 64) rfl ?_
          refine u_iloadn (k := 65) rfl rfl ?_
          refine v_virt2 (M' := mX11_blames) (k := 66) rfl lRX11_115 oX11_blames vX11_blames ⟨Nat.le_of_ble_eq_true rfl, Nat.le_of_ble_eq_true rfl⟩ rfl rfl (Nat.le_of_ble_eq_true rfl) (m_blames 2 b g hg9 hg10) ?_
          exact bl 2 (by omega) hvd
        · refine u_iloadn (k := 60) rfl rfl ?_
          refine a_bipush (k := 61) rfl ?_
          refine a_icmp_le (k := 62) rfl (fun c_111 => ?_) (fun c_111 => ?_)
          · omega
          · refine u_aloadn (k := 63) rfl rfl ?_
            refine a_iconst (k := 64) rfl ?_
            refine u_iloadn (k := 65) rfl rfl ?_
            refine v_virt2 (M' := mX11_blames) (k := 66) rfl lRX11_115 oX11_blames vX11_blames ⟨Nat.le_of_ble_eq_true rfl, Nat.le_of_ble_eq_true rfl⟩ rfl rfl (Nat.le_of_ble_eq_true rfl) (m_blames 2 b g hg9 hg10) ?_
            exact bl 2 (by omega) hvd
      · omega
  have Lp : ∀ (d t v : Nat) (g : HH), b + t + d = L → GJ tx p b t v → TXm L tx g → g 40 0 8 = ((b + t : Nat) : Int) → g 40 0 9 = 0 → g 40 0 10 = -1 → Fr [] kgr h g → AW mX11_grains (fun z g => z = none ∧ Fr [] kgr h g ∧ (FS L tx g ∨ ∃ a' p', a < a' ∧ a' ≤ L ∧ RS L tx a' g ∧ rgo tx a' = .inl p' ∧ p'.1 = 4 ∧ g 40 0 12 = (p'.2.2.2.1 : Int) ∧ p'.2.2.2.2.1 = p.2.2.2.2.1)) 14 [(3, vi v), (2, vi t), (1, vi b), (0, vr 40 0)] [] g := by
    intro d
    induction d with
    | zero =>
      intro t v g hd hJ hT2 hg8 hg9 hg10 hF
      refine u_aloadn (k := 10) rfl rfl ?_
      refine a_geti (k := 11) rfl fRX11_102 rfl rfl ?_
      refine u_aloadn (k := 12) rfl rfl ?_
      refine a_geti (k := 13) rfl fRX11_98 rfl rfl ?_
      rw [hg8, hT2.1]
      refine a_icmp_ge (k := 14) rfl (fun c_22 => ?_) (fun c_22 => ?_)
      · exact T90 t v g (by omega) hJ (fun z => by omega) hT2 hg8 hg9 hg10 hF
      · omega
    | succ d ih =>
      intro t v g hd hJ hT2 hg8 hg9 hg10 hF
      have h256' := h256 (b + t) (by omega)
      have sb1 := sb_all (tx (b + t)) h256'
      have htx := hT2.2 (b + t) (by omega)
      have hjv := hJ.v
      by_cases hdg : 48 ≤ tx (b + t) ∧ tx (b + t) ≤ 57
      · have esb := sb1.2.1 (by omega)
        have hJ2 := GJ.step hp hJ hdg
        have T73 : ∀ v2 : Nat, GJ tx p b (t + 1) v2 → AW mX11_grains (fun z g => z = none ∧ Fr [] kgr h g ∧ (FS L tx g ∨ ∃ a' p', a < a' ∧ a' ≤ L ∧ RS L tx a' g ∧ rgo tx a' = .inl p' ∧ p'.1 = 4 ∧ g 40 0 12 = (p'.2.2.2.1 : Int) ∧ p'.2.2.2.2.1 = p.2.2.2.2.1)) 73 [(3, vi v), (2, vi t), (1, vi b), (0, vr 40 0)] [vi (v2 : Int)] g := by
          intro v2 hJ3
          refine a_istoren (k := 41) (lv' := [(3, _), (2, _), (1, _), (0, _)]) rfl (Nat.le_of_ble_eq_true rfl) rfl ?_
          refine u_iinc (k := 42) (lv' := [(2, _), (3, _), (1, _), (0, _)]) rfl rfl (Nat.le_of_ble_eq_true rfl) (by omega) rfl ?_
          refine u_aloadn (k := 43) rfl rfl ?_
          refine a_dup (k := 44) rfl rfl ?_
          refine a_geti (k := 45) rfl fRX11_102 rfl rfl ?_
          refine a_iconst (k := 46) rfl ?_
          rw [hg8]
          refine u_iadd (k := 47) rfl (by omega) ?_
          refine a_puti (k := 48) rfl pRX11_102 rfl rfl ?_
          refine a_goto (k := 49) rfl ?_
          refine a_sub [1, 0, 2, 3] rfl ?_
          exact ih (t + 1) v2 _ (by omega) hJ3 (hT2.keep (by simp only [put_apply, Nat.reduceEqDiff, reduceIte, false_and, and_false, true_and, and_true, and_self, if_false, if_true, not_false_eq_true, not_true_eq_false, ne_eq]) (fun i => by simp only [put_apply, Nat.reduceEqDiff, reduceIte, false_and, and_false, true_and, and_true, and_self, if_false, if_true, not_false_eq_true, not_true_eq_false, ne_eq])) (by rw [put_eq]; omega) (by rw [put_ne (by simp)]; exact hg9) (by rw [put_ne (by simp)]; exact hg10) (hF.p2 (by simp [kgr]))
        refine u_aloadn (k := 10) rfl rfl ?_
        refine a_geti (k := 11) rfl fRX11_102 rfl rfl ?_
        refine u_aloadn (k := 12) rfl rfl ?_
        refine a_geti (k := 13) rfl fRX11_98 rfl rfl ?_
        rw [hg8, hT2.1]
        refine a_icmp_ge (k := 14) rfl (fun c_22 => ?_) (fun c_22 => ?_)
        · omega
        · refine u_aloadn (k := 15) rfl rfl ?_
          refine a_getr (k := 16) rfl fRX11_19 rfl rfl rfl ?_
          refine u_aloadn (k := 17) rfl rfl ?_
          refine a_geti (k := 18) rfl fRX11_102 rfl rfl ?_
          rw [hg8]
          refine u_bald (k := 19) rfl rfl rfl (by omega) ?_
          rw [htx, esb]
          refine a_i2l (k := 20) rfl ?_
          refine a_ldc2 (k := 21) rfl nRX11_119 ⟨by decide, by decide⟩ ?_
          refine a_ldc2 (k := 22) rfl nRX11_121 ⟨by decide, by decide⟩ ?_
          refine i_stat3 (M' := mX11_in) (k := 23) rfl lRX11_81 oX11_in vX11_in ⟨Nat.le_of_ble_eq_true rfl, Nat.le_of_ble_eq_true rfl⟩ rfl (Nat.le_of_ble_eq_true rfl) (m_in _ 48 57 g) ?_
          rw [inb_t (by omega)]
          refine a_if_eq (k := 24) rfl (fun c_44 => ?_) (fun c_44 => ?_)
          · exact absurd c_44 (by decide)
          · refine u_iloadn (k := 25) rfl rfl ?_
            refine a_iconst (k := 26) rfl ?_
            refine a_icmp_ge (k := 27) rfl (fun c_49 => ?_) (fun c_49 => ?_)
            · refine u_iloadn (k := 40) rfl rfl ?_
              first
                | (rw [if_neg (by omega)] at hJ2; exact T73 v hJ2)
                | (rw [if_pos (by omega)] at hJ2; rw [show 10 * (v : Int) + (tx (b + t) : Int) - 48 = ((10 * v + tx (b + t) - 48 : Nat) : Int) by omega]; exact T73 _ hJ2)
            · refine a_bipush (k := 28) rfl ?_
              refine u_iloadn (k := 29) rfl rfl ?_
              refine u_imul (k := 30) rfl (by omega) ?_
              refine u_aloadn (k := 31) rfl rfl ?_
              refine a_getr (k := 32) rfl fRX11_19 rfl rfl rfl ?_
              refine u_aloadn (k := 33) rfl rfl ?_
              refine a_geti (k := 34) rfl fRX11_102 rfl rfl ?_
              rw [hg8]
              refine u_bald (k := 35) rfl rfl rfl (by omega) ?_
              rw [htx, esb]
              refine u_iadd (k := 36) rfl (by omega) ?_
              refine a_bipush (k := 37) rfl ?_
              refine u_isub (k := 38) rfl (by omega) ?_
              refine a_goto (k := 39) rfl ?_
              first
                | (rw [if_neg (by omega)] at hJ2; exact T73 v hJ2)
                | (rw [if_pos (by omega)] at hJ2; rw [show 10 * (v : Int) + (tx (b + t) : Int) - 48 = ((10 * v + tx (b + t) - 48 : Nat) : Int) by omega]; exact T73 _ hJ2)
      · have hin : inb (sb (tx (b + t) : Int)) 48 57 = false := inb_f (by
          intro z
          by_cases hh : tx (b + t) < 128
          · have := sb1.2.1 hh; omega
          · have := sb1.2.2 (by omega); omega)
        refine u_aloadn (k := 10) rfl rfl ?_
        refine a_geti (k := 11) rfl fRX11_102 rfl rfl ?_
        refine u_aloadn (k := 12) rfl rfl ?_
        refine a_geti (k := 13) rfl fRX11_98 rfl rfl ?_
        rw [hg8, hT2.1]
        refine a_icmp_ge (k := 14) rfl (fun c_22 => ?_) (fun c_22 => ?_)
        · omega
        · refine u_aloadn (k := 15) rfl rfl ?_
          refine a_getr (k := 16) rfl fRX11_19 rfl rfl rfl ?_
          refine u_aloadn (k := 17) rfl rfl ?_
          refine a_geti (k := 18) rfl fRX11_102 rfl rfl ?_
          rw [hg8]
          refine u_bald (k := 19) rfl rfl rfl (by omega) ?_
          rw [htx]
          refine a_i2l (k := 20) rfl ?_
          refine a_ldc2 (k := 21) rfl nRX11_119 ⟨by decide, by decide⟩ ?_
          refine a_ldc2 (k := 22) rfl nRX11_121 ⟨by decide, by decide⟩ ?_
          refine i_stat3 (M' := mX11_in) (k := 23) rfl lRX11_81 oX11_in vX11_in ⟨Nat.le_of_ble_eq_true rfl, Nat.le_of_ble_eq_true rfl⟩ rfl (Nat.le_of_ble_eq_true rfl) (m_in _ 48 57 g) ?_
          rw [hin]
          refine a_if_eq (k := 24) rfl (fun c_44 => ?_) (fun c_44 => ?_)
          · exact T90 t v g (by omega) hJ (fun _ => hdg) hT2 hg8 hg9 hg10 hF
          · exact absurd rfl c_44
  refine u_aloadn (k := 0) rfl rfl ?_
  refine ui_virt0 (M' := mX11_next) (k := 1) rfl lRX11_111 oX11_next vX11_next ⟨Nat.le_of_ble_eq_true rfl, Nat.le_of_ble_eq_true rfl⟩ rfl rfl (Nat.le_of_ble_eq_true rfl) (m_next L a tx h hT hL h256 ha haL) (by intro r g hp; exact ⟨_, hp.1⟩) (fun z g hg => ?_)
  obtain ⟨hz, hg8, hF⟩ := hg; cases hz; rw [hb] at hg8
  refine a_pop (k := 2) rfl rfl ?_
  refine u_aloadn (k := 3) rfl rfl ?_
  refine a_geti (k := 4) rfl fRX11_102 rfl rfl ?_
  rw [hg8]
  refine a_istoren (k := 5) (lv' := [(1, _), (0, _)]) rfl (Nat.le_of_ble_eq_true rfl) rfl ?_
  refine a_iconst (k := 6) rfl ?_
  refine a_istoren (k := 7) (lv' := [(2, _), (1, _), (0, _)]) rfl (Nat.le_of_ble_eq_true rfl) rfl ?_
  refine a_iconst (k := 8) rfl ?_
  refine a_istoren (k := 9) (lv' := [(3, _), (2, _), (1, _), (0, _)]) rfl (Nat.le_of_ble_eq_true rfl) rfl ?_
  exact Lp (L - b) 0 0 g (by omega) (Or.inl ⟨rfl, rfl, hg2⟩) (hT.kp hF (by simp) (by simp) (by simp) (by simp)) (by rw [Nat.add_zero]; exact hg8) (by rw [hF 40 0 9 (by simp) (by simp)]; exact h9) (by rw [hF 40 0 10 (by simp) (by simp)]; exact h10) (hF.mono (by simp) (by simp [kgr]))
