/-! how many colourings, by the reference -/
def rz (p : Nat → Bool) : Nat → Nat → Option Nat
  | 0, _ => none
  | d + 1, r => if p r then some r else rz p d (r + 1)
theorem rz_some {p : Nat → Bool} : ∀ {d r q : Nat}, rz p d r = some q → r ≤ q ∧ q < r + d ∧ p q = true
  | 0, r, q, h => by cases h
  | d + 1, r, q, h => by
    unfold rz at h
    split at h
    · cases h; exact ⟨Nat.le_refl _, by omega, by assumption⟩
    · obtain ⟨h1, h2, h3⟩ := rz_some h
      exact ⟨by omega, by omega, h3⟩
theorem rz_none {p : Nat → Bool} : ∀ {d r : Nat}, rz p d r = none → ∀ i, r ≤ i → i < r + d → p i = false
  | 0, r, _, i, h1, h2 => by omega
  | d + 1, r, h, i, h1, h2 => by
    unfold rz at h
    split at h
    · cases h
    · by_cases he : i = r
      · subst he
        rename_i hh
        revert hh
        cases p i <;> simp
      · exact rz_none h i (by omega) (by omega)
def nzp (A : MZT) (m k r : Nat) : Bool := decide (A r k % (m : Int) ≠ 0)
def czs (n m k : Nat) (x : MZT × Nat) : MZT × Nat := match rz (nzp x.1 m k) (n - x.2) x.2 with
  | none => x
  | some r => (clz (swz x.1 r x.2) x.2 k n m, x.2 + 1)
def czf (n m : Nat) : Nat → Nat → MZT × Nat → MZT × Nat
  | 0, _, x => x
  | d + 1, k, x => czf n m d (k + 1) (czs n m k x)
def stx (r : Rp) (j : Nat) : Nat := pos (obB r) j r.1
def mz0 (r : Rp) : MZT := fun j q => if j < r.1 then (if q = obO r (stx r j) then 2 else 0) - (if q = j then 1 else 0) - (if q = enp r.1 j then 1 else 0) else 0
def r_wz (r : Rp) (m : Nat) : Nat := if r.1 = 0 then m else m ^ (r.1 - (czf r.1 m r.1 0 (mz0 r, 0)).2)
theorem obB_pos {r : Rp} (h : WR r) {x : Nat} (hx : x < r.1) : ∃ p, p < 2 * r.1 ∧ r.2.2 p = 2 * x ∧ obB r x = bg r.2.2 p ∧ bg r.2.2 (p + 1) = bg r.2.2 p + 1 := by
  obtain ⟨p1, p2⟩ := pos_ok (VT_sur h.2.2.1 (v := 2 * x) (by omega))
  refine ⟨_, p1, p2, rfl, ?_⟩
  rw [bg_s, p2, if_pos (by omega)]
theorem obB_inj {r : Rp} (h : WR r) : inj2 (obB r) r.1 := fun x y hx hy he => by
  obtain ⟨p, p1, p2, p3, p4⟩ := obB_pos h hx
  obtain ⟨q, q1, q2, q3, q4⟩ := obB_pos h hy
  have hpq : p = q := by
    by_cases hlt : p < q
    · have := bg_mono r.2.2 (show p + 1 ≤ q by omega)
      omega
    · by_cases hgt : q < p
      · have := bg_mono r.2.2 (show q + 1 ≤ p by omega)
        omega
      · omega
  subst hpq
  omega
theorem bg_at (f : Nat → Nat) {j : Nat} : ∀ {n : Nat}, j < bg f n → ∃ q, q < n ∧ f q % 2 = 0 ∧ bg f q = j
  | 0, h => absurd h (Nat.not_lt_zero j)
  | n + 1, h => by
    rw [bg_s] at h
    by_cases hj : j < bg f n
    · obtain ⟨q, h1, h2⟩ := bg_at f hj
      exact ⟨q, by omega, h2⟩
    · split at h
      · exact ⟨n, by omega, by assumption, by omega⟩
      · omega
theorem obB_sur {r : Rp} (h : WR r) {j : Nat} (hj : j < r.1) : ∃ x, x < r.1 ∧ obB r x = j := by
  have hc : r.1 ≤ bg r.2.2 (2 * r.1) := by
    have := nodup_len (nodup_map (obB_inj h)) (m := bg r.2.2 (2 * r.1)) (fun x hx => by
      obtain ⟨y, hy, rfl⟩ := List.mem_map.mp hx
      obtain ⟨p, p1, p2, p3, p4⟩ := obB_pos h (List.mem_range.mp hy)
      have := bg_mono r.2.2 (show p + 1 ≤ 2 * r.1 by omega)
      omega)
    rw [List.length_map, List.length_range] at this
    exact this
  obtain ⟨q, h1, h2, h3⟩ := bg_at r.2.2 (show j < bg r.2.2 (2 * r.1) by omega)
  have h4 := h.2.2.1.1 q h1
  refine ⟨r.2.2 q / 2, by omega, ?_⟩
  obtain ⟨p, p1, p2, p3, p4⟩ := obB_pos h (x := r.2.2 q / 2) (by omega)
  have : p = q := h.2.2.1.2 p q p1 h1 (by omega)
  subst this
  omega
theorem stx_ok {r : Rp} (h : WR r) {j : Nat} (hj : j < r.1) : stx r j < r.1 ∧ obB r (stx r j) = j := pos_ok (obB_sur h hj)
theorem enp_lt {P b : Nat} (h : b < P) : enp P b < P := by
  unfold enp
  split <;> omega
theorem MB_mz0 (r : Rp) : MB (mz0 r) := fun j q => by
  unfold mz0
  split
  · split <;> split <;> split <;> omega
  · omega
def tcz : List (Nat × Nat) := [(58, 0), (59, 0), (60, 0)]
theorem m_colours {r : Rp} (hW : WR r) (s m : Nat) (h : HH) (hm : m = 3 ∨ m = 5) (hR : RW (2 * r.1) r.2.2 s h) : Sp mX11_colours [vr 40 0, vi m] h (fun z g => z = some (vi (r_wz r m : Int)) ∧ Fr tcz [] h g) := by
  have h8 := hW.1
  by_cases hc : r.1 = 0
  · have e : r_wz r m = m := if_pos hc
    rw [e]
    refine Sp.of rfl kX11_colours (Nat.le_of_ble_eq_true rfl) ?_
    refine u_aloadn (k := 0) rfl rfl ?_
    refine a_geti (k := 1) rfl fRX11_156 rfl rfl ?_
    rw [hR.1]
    refine a_iconst (k := 2) rfl ?_
    refine u_idiv (k := 3) rfl (by omega) (by omega) ?_
    rw [show ((2 * r.1 : Nat) : Int) / 2 = (r.1 : Int) by omega]
    refine a_istoren (k := 4) (lv' := [(2, _), (0, _), (1, _)]) rfl (Nat.le_of_ble_eq_true rfl) rfl ?_
    refine u_iloadn (k := 5) rfl rfl ?_
    refine a_if_ne (k := 6) rfl (fun c_8 => ?_) (fun c_8 => ?_)
    · omega
    · refine u_iloadn (k := 7) rfl rfl ?_
      refine a_ireturn (k := 8) rfl rfl ?_
      exact ⟨rfl, Fr.rf⟩
  · have e : r_wz r m = m ^ (r.1 - (czf r.1 m r.1 0 (mz0 r, 0)).2) := if_neg hc
    have hm0 : 0 < m := by omega
    generalize hw : r_wz r m = w at *
    refine Sp.of rfl kX11_colours (Nat.le_of_ble_eq_true rfl) ?_
    have pw : ∀ t, t ≤ 8 → m ^ t ≤ 390625 := fun t ht => Nat.le_trans (Nat.pow_le_pow_left (show m ≤ 5 by omega) t) (Nat.le_trans (Nat.pow_le_pow_right (by omega) ht) (by decide))
    have L4 : ∀ (rk : Nat) (g : HH), rk ≤ r.1 → w = m ^ (r.1 - rk) → Fr tcz [] h g → ∀ (d q : Nat), q + d = r.1 → rk ≤ q → AW mX11_colours (fun z g => z = some (vi (w : Int)) ∧ Fr tcz [] h g) 208 [(5, vi q), (4, vi ((m ^ (q - rk) : Nat) : Int)), (3, vi rk), (2, vi (r.1 : Int)), (0, vr 40 0), (1, vi m)] [] g := by
      intro rk g hrk hwe hF d
      induction d with
      | zero =>
        intro q hq h1
        have hq : q = r.1 := by omega
        subst hq
        refine u_iload (k := 130) rfl rfl ?_
        refine u_iloadn (k := 131) rfl rfl ?_
        refine a_icmp_ge (k := 132) rfl (fun c_211 => ?_) (fun c_211 => ?_)
        · refine u_iload (k := 139) rfl rfl ?_
          refine a_ireturn (k := 140) rfl rfl ?_
          exact ⟨by rw [hwe], hF⟩
        · omega
      | succ d ih =>
        intro q hq h1
        have hmul : ((m ^ (q - rk) : Nat) : Int) * (m : Int) = ((m ^ (q + 1 - rk) : Nat) : Int) := by
          rw [show q + 1 - rk = (q - rk) + 1 by omega, Nat.pow_succ, Int.natCast_mul]
        have hb := pw (q + 1 - rk) (by omega)
        refine u_iload (k := 130) rfl rfl ?_
        refine u_iloadn (k := 131) rfl rfl ?_
        refine a_icmp_ge (k := 132) rfl (fun c_211 => ?_) (fun c_211 => ?_)
        · omega
        · refine u_iload (k := 133) rfl rfl ?_
          refine u_iloadn (k := 134) rfl rfl ?_
          refine u_imul (k := 135) rfl (by rw [hmul]; omega) ?_
          rw [hmul]
          refine a_istore (k := 136) (lv' := [(4, _), (5, _), (3, _), (2, _), (0, _), (1, _)]) rfl (Nat.le_of_ble_eq_true rfl) rfl ?_
          refine u_iinc (k := 137) (lv' := [(5, _), (4, _), (3, _), (2, _), (0, _), (1, _)]) rfl rfl (Nat.le_of_ble_eq_true rfl) (by omega) rfl ?_
          refine a_goto (k := 138) rfl ?_
          exact ih (q + 1) (by omega) (by omega)
    have L3 : ∀ (d k rk : Nat) (A : MZT) (g : HH), k + d = r.1 → rk ≤ k → MZ A g → MB A → w = m ^ (r.1 - (czf r.1 m d k (A, rk)).2) → Fr tcz [] h g → AW mX11_colours (fun z g => z = some (vi (w : Int)) ∧ Fr tcz [] h g) 117 [(4, vi k), (3, vi rk), (2, vi (r.1 : Int)), (0, vr 40 0), (1, vi m)] [] g := by
      intro d
      induction d with
      | zero =>
        intro k rk A g hk hrk hA hB hwe hF
        refine u_iload (k := 82) rfl rfl ?_
        refine u_iloadn (k := 83) rfl rfl ?_
        refine a_icmp_ge (k := 84) rfl (fun c_120 => ?_) (fun c_120 => ?_)
        · refine a_iconst (k := 126) rfl ?_
          refine a_istore (k := 127) (lv' := [(4, _), (3, _), (2, _), (0, _), (1, _)]) rfl (Nat.le_of_ble_eq_true rfl) rfl ?_
          refine u_iloadn (k := 128) rfl rfl ?_
          refine a_istore (k := 129) (lv' := [(5, _), (4, _), (3, _), (2, _), (0, _), (1, _)]) rfl (Nat.le_of_ble_eq_true rfl) rfl ?_
          have := L4 rk g (by omega) hwe hF (r.1 - rk) rk (by omega) (by omega)
          rw [Nat.sub_self, Nat.pow_zero] at this
          exact this
        · omega
      | succ d ih =>
        intro k rk A g hk hrk hA hB hwe hF
        have hwe' : w = m ^ (r.1 - (czf r.1 m d (k + 1) (czs r.1 m k (A, rk))).2) := hwe
        have T172 : ∀ (o : Option Nat) (x6 : Int), o = rz (nzp A m k) (r.1 - rk) rk → AW mX11_colours (fun z g => z = some (vi (w : Int)) ∧ Fr tcz [] h g) 172 [(6, vi x6), (5, vi (oi o)), (4, vi k), (3, vi rk), (2, vi (r.1 : Int)), (0, vr 40 0), (1, vi m)] [] g := by
          intro o x6 ho
          cases o with
          | none =>
            have e1 : czs r.1 m k (A, rk) = (A, rk) := by
              show (match rz (nzp A m k) (r.1 - rk) rk with | none => (A, rk) | some q => _) = _
              rw [← ho]
            rw [e1] at hwe'
            show AW mX11_colours _ 172 [(6, vi x6), (5, vi (-1)), (4, vi k), (3, vi rk), (2, vi (r.1 : Int)), (0, vr 40 0), (1, vi m)] [] g
            refine u_iload (k := 111) rfl rfl ?_
            refine a_if_lt (k := 112) rfl (fun c_174 => ?_) (fun c_174 => ?_)
            · refine u_iinc (k := 124) (lv' := [(4, _), (6, _), (5, _), (3, _), (2, _), (0, _), (1, _)]) rfl rfl (Nat.le_of_ble_eq_true rfl) (by omega) rfl ?_
              refine a_goto (k := 125) rfl ?_
              refine a_sub [0, 3, 4, 5, 6] rfl ?_
              exact ih (k + 1) rk A g (by omega) (by omega) hA hB hwe' hF
            · omega
          | some q =>
            have e1 : czs r.1 m k (A, rk) = (clz (swz A q rk) rk k r.1 m, rk + 1) := by
              show (match rz (nzp A m k) (r.1 - rk) rk with | none => (A, rk) | some q => (clz (swz A q rk) rk k r.1 m, rk + 1)) = _
              rw [← ho]
            rw [e1] at hwe'
            obtain ⟨q1, q2, q3⟩ := rz_some ho.symm
            show AW mX11_colours _ 172 [(6, vi x6), (5, vi (q : Int)), (4, vi k), (3, vi rk), (2, vi (r.1 : Int)), (0, vr 40 0), (1, vi m)] [] g
            refine u_iload (k := 111) rfl rfl ?_
            refine a_if_lt (k := 112) rfl (fun c_174 => ?_) (fun c_174 => ?_)
            · omega
            · refine u_aloadn (k := 113) rfl rfl ?_
              refine u_iload (k := 114) rfl rfl ?_
              refine u_iloadn (k := 115) rfl rfl ?_
              refine uv_virt2 (M' := mX11_swaps) (k := 116) rfl lRX11_229 oX11_swaps vX11_swaps ⟨Nat.le_of_ble_eq_true rfl, Nat.le_of_ble_eq_true rfl⟩ rfl rfl (Nat.le_of_ble_eq_true rfl) (m_swaps q rk A g hA (by omega) (by omega)) (by intro r g hp; exact hp.1) (fun g2 hg2 => ?_)
              obtain ⟨-, hA2, hF2⟩ := hg2
              refine u_aloadn (k := 117) rfl rfl ?_
              refine u_iloadn (k := 118) rfl rfl ?_
              refine u_iload (k := 119) rfl rfl ?_
              refine u_iloadn (k := 120) rfl rfl ?_
              refine u_iloadn (k := 121) rfl rfl ?_
              refine uv_virt4 (M' := mX11_clears) (k := 122) rfl lRX11_232 oX11_clears vX11_clears ⟨Nat.le_of_ble_eq_true rfl, Nat.le_of_ble_eq_true rfl⟩ rfl rfl (Nat.le_of_ble_eq_true rfl) (m_clears rk k r.1 m (swz A q rk) g2 hA2 (MB_swz hB q rk) hm h8 (by omega) (by omega)) (by intro r g hp; exact hp.1) (fun g3 hg3 => ?_)
              obtain ⟨-, hA3, hF3⟩ := hg3
              refine u_iinc (k := 123) (lv' := [(3, _), (6, _), (5, _), (4, _), (2, _), (0, _), (1, _)]) rfl rfl (Nat.le_of_ble_eq_true rfl) (by omega) rfl ?_
              refine u_iinc (k := 124) (lv' := [(4, _), (3, _), (6, _), (5, _), (2, _), (0, _), (1, _)]) rfl rfl (Nat.le_of_ble_eq_true rfl) (by omega) rfl ?_
              refine a_goto (k := 125) rfl ?_
              refine a_sub [0, 1, 4, 5, 6] rfl ?_
              exact ih (k + 1) (rk + 1) _ g3 (by omega) (by omega) hA3 (MB_clz (MB_swz hB q rk) hm rk k r.1) hwe' ((hF.tr hF2 (by simp [tcz]) (by simp)).tr hF3 (by simp [tcz]) (by simp))
        have Li : ∀ (t q : Nat) (x5 x6 : Int), q = rk + t → q ≤ r.1 → x6 = (q : Int) - 1 → x5 = oi (rz (nzp A m k) (r.1 - q) q) → AW mX11_colours (fun z g => z = some (vi (w : Int)) ∧ Fr tcz [] h g) 131 [(6, vi x6), (5, vi x5), (4, vi k), (3, vi rk), (2, vi (r.1 : Int)), (0, vr 40 0), (1, vi m)] [] g := by
          intro t
          induction t with
          | zero =>
            intro q x5 x6 hq hq2 h6 h5
            have hq : q = rk := by omega
            subst hq
            subst h5
            refine u_iload (k := 91) rfl rfl ?_
            refine u_iloadn (k := 92) rfl rfl ?_
            refine a_icmp_lt (k := 93) rfl (fun c_134 => ?_) (fun c_134 => ?_)
            · exact T172 _ x6 rfl
            · omega
          | succ t iht =>
            intro q x5 x6 hq hq2 h6 h5
            have eA : g 58 0 (8 * (q - 1) + k) = A (q - 1) k := hA _ _ (by omega) (by omega)
            have hb := hB (q - 1) k
            have ez : rz (nzp A m k) (r.1 - (q - 1)) (q - 1) = if nzp A m k (q - 1) then some (q - 1) else rz (nzp A m k) (r.1 - q) q := by
              rw [show r.1 - (q - 1) = (r.1 - q) + 1 by omega]
              show (if nzp A m k (q - 1) then some (q - 1) else rz (nzp A m k) (r.1 - q) (q - 1 + 1)) = _
              rw [show q - 1 + 1 = q by omega]
            refine u_iload (k := 91) rfl rfl ?_
            refine u_iloadn (k := 92) rfl rfl ?_
            refine a_icmp_lt (k := 93) rfl (fun c_134 => ?_) (fun c_134 => ?_)
            · omega
            · refine u_aloadn (k := 94) rfl rfl ?_
              refine a_getr (k := 95) rfl fRX11_66 rfl rfl rfl ?_
              refine a_bipush (k := 96) rfl ?_
              refine u_iload (k := 97) rfl rfl ?_
              refine u_imul (k := 98) rfl (by omega) ?_
              refine u_iload (k := 99) rfl rfl ?_
              refine u_iadd (k := 100) rfl (by omega) ?_
              refine u_ialdx (8 * (q - 1) + k) (k := 101) rfl rfl rfl (by omega) (by omega) ?_
              rw [eA]
              refine u_iloadn (k := 102) rfl rfl ?_
              refine i_stat2 (M' := mX11_left) (k := 103) rfl lRX11_226 oX11_left vX11_left ⟨Nat.le_of_ble_eq_true rfl, Nat.le_of_ble_eq_true rfl⟩ rfl (Nat.le_of_ble_eq_true rfl) (m_left _ m g hm (by omega) (by omega)) ?_
              refine a_if_eq (k := 104) rfl (fun c_154 => ?_) (fun c_154 => ?_)
              · refine u_iload (k := 107) rfl rfl ?_
                refine a_istore (k := 108) (lv' := [(5, _), (6, _), (4, _), (3, _), (2, _), (0, _), (1, _)]) rfl (Nat.le_of_ble_eq_true rfl) rfl ?_
                refine u_iinc (k := 109) (lv' := [(6, _), (5, _), (4, _), (3, _), (2, _), (0, _), (1, _)]) rfl rfl (Nat.le_of_ble_eq_true rfl) (by omega) rfl ?_
                refine a_goto (k := 110) rfl ?_
                first
                  | exact iht (q - 1) _ _ (by omega) (by omega) (by omega) (by rw [ez, if_pos (show nzp A m k (q - 1) = true from decide_eq_true c_154)]; show _ = ((q - 1 : Nat) : Int); omega)
                  | exact iht (q - 1) _ _ (by omega) (by omega) (by omega) (by rw [ez, if_neg (by unfold nzp; rw [decide_eq_true_iff]; exact fun z => z c_154)]; exact h5)
              · refine u_iload (k := 105) rfl rfl ?_
                refine a_goto (k := 106) rfl ?_
                refine a_istore (k := 108) (lv' := [(5, _), (6, _), (4, _), (3, _), (2, _), (0, _), (1, _)]) rfl (Nat.le_of_ble_eq_true rfl) rfl ?_
                refine u_iinc (k := 109) (lv' := [(6, _), (5, _), (4, _), (3, _), (2, _), (0, _), (1, _)]) rfl rfl (Nat.le_of_ble_eq_true rfl) (by omega) rfl ?_
                refine a_goto (k := 110) rfl ?_
                first
                  | exact iht (q - 1) _ _ (by omega) (by omega) (by omega) (by rw [ez, if_pos (show nzp A m k (q - 1) = true from decide_eq_true c_154)]; show _ = ((q - 1 : Nat) : Int); omega)
                  | exact iht (q - 1) _ _ (by omega) (by omega) (by omega) (by rw [ez, if_neg (by unfold nzp; rw [decide_eq_true_iff]; exact fun z => z c_154)]; exact h5)
        refine u_iload (k := 82) rfl rfl ?_
        refine u_iloadn (k := 83) rfl rfl ?_
        refine a_icmp_ge (k := 84) rfl (fun c_120 => ?_) (fun c_120 => ?_)
        · omega
        · refine a_iconst (k := 85) rfl ?_
          refine a_istore (k := 86) (lv' := [(5, _), (4, _), (3, _), (2, _), (0, _), (1, _)]) rfl (Nat.le_of_ble_eq_true rfl) rfl ?_
          refine u_iloadn (k := 87) rfl rfl ?_
          refine a_iconst (k := 88) rfl ?_
          refine u_isub (k := 89) rfl (by omega) ?_
          refine a_istore (k := 90) (lv' := [(6, _), (5, _), (4, _), (3, _), (2, _), (0, _), (1, _)]) rfl (Nat.le_of_ble_eq_true rfl) rfl ?_
          refine Li (r.1 - rk) r.1 _ _ (by omega) (by omega) rfl ?_
          rw [Nat.sub_self]
          rfl
    have L2 : ∀ (d j : Nat) (A : MZT) (g : HH), j + d = r.1 → MZ A g → (∀ a q, a < 8 → q < 8 → A a q = if a < j then mz0 r a q else 0) → PT r g → Fr tcz [] h g → AW mX11_colours (fun z g => z = some (vi (w : Int)) ∧ Fr tcz [] h g) 40 [(3, vi j), (2, vi (r.1 : Int)), (0, vr 40 0), (1, vi m)] [] g := by
      intro d
      induction d with
      | zero =>
        intro j A g hj hA he hP hF
        have hj : j = r.1 := by omega
        subst hj
        refine u_iloadn (k := 25) rfl rfl ?_
        refine u_iloadn (k := 26) rfl rfl ?_
        refine a_icmp_ge (k := 27) rfl (fun c_42 => ?_) (fun c_42 => ?_)
        · refine a_iconst (k := 78) rfl ?_
          refine a_istoren (k := 79) (lv' := [(3, _), (2, _), (0, _), (1, _)]) rfl (Nat.le_of_ble_eq_true rfl) rfl ?_
          refine a_iconst (k := 80) rfl ?_
          refine a_istore (k := 81) (lv' := [(4, _), (3, _), (2, _), (0, _), (1, _)]) rfl (Nat.le_of_ble_eq_true rfl) rfl ?_
          refine L3 r.1 0 0 (mz0 r) g (by omega) (by omega) (hA.cong (fun a q ha hq => ?_)) (MB_mz0 r) e hF
          rw [he a q ha hq]
          unfold mz0
          split <;> rfl
        · omega
      | succ d ih =>
        intro j A g hj hA he hP hF
        obtain ⟨s1, s2⟩ := stx_ok hW (j := j) (by omega)
        have h60 : g 60 0 j = (stx r j : Int) := by have := hP.2 _ s1; rw [s2] at this; exact this
        have h59 := hP.1 _ s1
        have hO := obO_lt hW s1
        have hE := enp_lt (P := r.1) (b := j) (by omega)
        have hwm := wrap_m (b := j) (c := r.1) (by omega) (by omega)
        have hwm : ((j : Int) + (r.1 : Int) - 1) % (r.1 : Int) = (enp r.1 j : Int) := hwm
        have z : ∀ q, q < 8 → A j q = 0 := fun q hq => by rw [he j q (by omega) hq, if_neg (by omega)]
        have M1 := hA.put (r := j) (k := obO r (stx r j)) (v := A j (obO r (stx r j)) + 2) (by omega)
        have M2 := M1.put (r := j) (k := j) (v := uz A j (obO r (stx r j)) (A j (obO r (stx r j)) + 2) j j - 1) (by omega)
        have M3 := M2.put (r := j) (k := enp r.1 j) (v := uz (uz A j (obO r (stx r j)) (A j (obO r (stx r j)) + 2)) j j (uz A j (obO r (stx r j)) (A j (obO r (stx r j)) + 2) j j - 1) j (enp r.1 j) - 1) (by omega)
        have b1 : -10 ≤ A j (obO r (stx r j)) ∧ A j (obO r (stx r j)) ≤ 0 := by rw [z _ (by omega)]; omega
        have b2 : -10 ≤ uz A j (obO r (stx r j)) (A j (obO r (stx r j)) + 2) j j ∧ uz A j (obO r (stx r j)) (A j (obO r (stx r j)) + 2) j j ≤ 10 := by
          unfold uz
          have := z j (by omega)
          split <;> omega
        have b3 : -20 ≤ uz (uz A j (obO r (stx r j)) (A j (obO r (stx r j)) + 2)) j j (uz A j (obO r (stx r j)) (A j (obO r (stx r j)) + 2) j j - 1) j (enp r.1 j) ∧ uz (uz A j (obO r (stx r j)) (A j (obO r (stx r j)) + 2)) j j (uz A j (obO r (stx r j)) (A j (obO r (stx r j)) + 2) j j - 1) j (enp r.1 j) ≤ 20 := by
          unfold uz at b2 ⊢
          have := z (enp r.1 j) (by omega)
          split
          · omega
          · split <;> omega
        refine u_iloadn (k := 25) rfl rfl ?_
        refine u_iloadn (k := 26) rfl rfl ?_
        refine a_icmp_ge (k := 27) rfl (fun c_42 => ?_) (fun c_42 => ?_)
        · omega
        · refine u_aloadn (k := 28) rfl rfl ?_
          refine a_getr (k := 29) rfl fRX11_66 rfl rfl rfl ?_
          refine a_bipush (k := 30) rfl ?_
          refine u_iloadn (k := 31) rfl rfl ?_
          refine u_imul (k := 32) rfl (by omega) ?_
          refine u_aloadn (k := 33) rfl rfl ?_
          refine a_getr (k := 34) rfl fRX11_69 rfl rfl rfl ?_
          refine u_aloadn (k := 35) rfl rfl ?_
          refine a_getr (k := 36) rfl fRX11_72 rfl rfl rfl ?_
          refine u_iloadn (k := 37) rfl rfl ?_
          refine u_iald (k := 38) rfl rfl rfl (by omega) ?_
          rw [h60]
          refine u_iald (k := 39) rfl rfl rfl (by omega) ?_
          rw [h59]
          refine u_iadd (k := 40) rfl (by omega) ?_
          refine a_dup2 (k := 41) rfl rfl rfl ?_
          refine u_ialdx (8 * j + obO r (stx r j)) (k := 42) rfl rfl rfl (by omega) (by omega) ?_
          rw [hA j (obO r (stx r j)) (by omega) (by omega)]
          refine a_iconst (k := 43) rfl ?_
          refine u_iadd (k := 44) rfl (by omega) ?_
          refine u_iastx (8 * j + obO r (stx r j)) (k := 45) rfl rfl rfl (by omega) (by omega) ?_
          refine u_aloadn (k := 46) rfl rfl ?_
          refine a_getr (k := 47) rfl fRX11_66 rfl rfl rfl ?_
          refine a_bipush (k := 48) rfl ?_
          refine u_iloadn (k := 49) rfl rfl ?_
          refine u_imul (k := 50) rfl (by omega) ?_
          refine u_iloadn (k := 51) rfl rfl ?_
          refine u_iadd (k := 52) rfl (by omega) ?_
          refine a_dup2 (k := 53) rfl rfl rfl ?_
          refine u_ialdx (8 * j + j) (k := 54) rfl rfl rfl (by omega) (by omega) ?_
          rw [M1 j j (by omega) (by omega)]
          refine a_iconst (k := 55) rfl ?_
          refine u_isub (k := 56) rfl (by omega) ?_
          refine u_iastx (8 * j + j) (k := 57) rfl rfl rfl (by omega) (by omega) ?_
          refine u_aloadn (k := 58) rfl rfl ?_
          refine a_getr (k := 59) rfl fRX11_66 rfl rfl rfl ?_
          refine a_bipush (k := 60) rfl ?_
          refine u_iloadn (k := 61) rfl rfl ?_
          refine u_imul (k := 62) rfl (by omega) ?_
          refine u_iloadn (k := 63) rfl rfl ?_
          refine u_iloadn (k := 64) rfl rfl ?_
          refine u_iadd (k := 65) rfl (by omega) ?_
          refine a_iconst (k := 66) rfl ?_
          refine u_isub (k := 67) rfl (by omega) ?_
          refine u_iloadn (k := 68) rfl rfl ?_
          refine u_irem (k := 69) rfl (by omega) (by omega) ?_
          rw [hwm]
          refine u_iadd (k := 70) rfl (by omega) ?_
          refine a_dup2 (k := 71) rfl rfl rfl ?_
          refine u_ialdx (8 * j + enp r.1 j) (k := 72) rfl rfl rfl (by omega) (by omega) ?_
          rw [M2 j (enp r.1 j) (by omega) (by omega)]
          refine a_iconst (k := 73) rfl ?_
          refine u_isub (k := 74) rfl (by omega) ?_
          refine u_iastx (8 * j + enp r.1 j) (k := 75) rfl rfl rfl (by omega) (by omega) ?_
          refine u_iinc (k := 76) (lv' := [(3, _), (2, _), (0, _), (1, _)]) rfl rfl (Nat.le_of_ble_eq_true rfl) (by omega) rfl ?_
          refine a_goto (k := 77) rfl ?_
          refine ih (j + 1) _ _ (by omega) M3 (fun a q ha hq => ?_) ?_ (((hF.p1 (by simp [tcz])).p1 (by simp [tcz])).p1 (by simp [tcz]))
          · by_cases hr : a = j
            · subst hr
              rw [if_pos (show a < a + 1 by omega)]
              have z1 := z q hq
              have z2 := z (obO r (stx r a)) (by omega)
              have z3 := z a (by omega)
              have z4 := z (enp r.1 a) (by omega)
              have ham : a < r.1 := by omega
              simp only [uz, mz0, true_and, z1, z2, z3, z4, ham, if_true]
              repeat' split
              all_goals omega
            · simp only [uz, hr, false_and, if_false]
              rw [he a q ha hq]
              by_cases hlt : a < j
              · rw [if_pos hlt, if_pos (by omega)]
              · rw [if_neg hlt, if_neg (by omega)]
          · exact ⟨fun x hx => by simp only [put_apply, Nat.reduceEqDiff, reduceIte, false_and, and_false, true_and, and_true, and_self, if_false, if_true, not_false_eq_true, not_true_eq_false, ne_eq]; exact hP.1 x hx, fun x hx => by simp only [put_apply, Nat.reduceEqDiff, reduceIte, false_and, and_false, true_and, and_true, and_self, if_false, if_true, not_false_eq_true, not_true_eq_false, ne_eq]; exact hP.2 x hx⟩
    have L1 : ∀ (d q : Nat) (g : HH), q + d = 64 → (∀ i, i < q → g 58 0 i = 0) → PT r g → Fr tcz [] h g → AW mX11_colours (fun z g => z = some (vi (w : Int)) ∧ Fr tcz [] h g) 19 [(3, vi q), (2, vi (r.1 : Int)), (0, vr 40 0), (1, vi m)] [] g := by
      intro d
      induction d with
      | zero =>
        intro q g hq hz hP hF
        refine u_iloadn (k := 13) rfl rfl ?_
        refine a_bipush (k := 14) rfl ?_
        refine a_icmp_ge (k := 15) rfl (fun c_22 => ?_) (fun c_22 => ?_)
        · refine a_iconst (k := 23) rfl ?_
          refine a_istoren (k := 24) (lv' := [(3, _), (2, _), (0, _), (1, _)]) rfl (Nat.le_of_ble_eq_true rfl) rfl ?_
          exact L2 r.1 0 (fun _ _ => 0) g (by omega) (fun a b ha hb => hz _ (by omega)) (fun a q _ _ => (if_neg (Nat.not_lt_zero a)).symm) hP hF
        · omega
      | succ d ih =>
        intro q g hq hz hP hF
        refine u_iloadn (k := 13) rfl rfl ?_
        refine a_bipush (k := 14) rfl ?_
        refine a_icmp_ge (k := 15) rfl (fun c_22 => ?_) (fun c_22 => ?_)
        · omega
        · refine u_aloadn (k := 16) rfl rfl ?_
          refine a_getr (k := 17) rfl fRX11_66 rfl rfl rfl ?_
          refine u_iloadn (k := 18) rfl rfl ?_
          refine a_iconst (k := 19) rfl ?_
          refine u_iast (k := 20) rfl rfl rfl (by omega) ?_
          refine u_iinc (k := 21) (lv' := [(3, _), (2, _), (0, _), (1, _)]) rfl rfl (Nat.le_of_ble_eq_true rfl) (by omega) rfl ?_
          refine a_goto (k := 22) rfl ?_
          refine ih (q + 1) _ (by omega) (fun i hi => ?_) ⟨fun x hx => by simp only [put_apply, Nat.reduceEqDiff, reduceIte, false_and, and_false, true_and, and_true, and_self, if_false, if_true, not_false_eq_true, not_true_eq_false, ne_eq]; exact hP.1 x hx, fun x hx => by simp only [put_apply, Nat.reduceEqDiff, reduceIte, false_and, and_false, true_and, and_true, and_self, if_false, if_true, not_false_eq_true, not_true_eq_false, ne_eq]; exact hP.2 x hx⟩ (hF.p1 (by simp [tcz]))
          by_cases hiq : i = q
          · subst hiq; rw [put_eq]
          · rw [put_ne (by simp [hiq])]; exact hz i (by omega)
    refine u_aloadn (k := 0) rfl rfl ?_
    refine a_geti (k := 1) rfl fRX11_156 rfl rfl ?_
    rw [hR.1]
    refine a_iconst (k := 2) rfl ?_
    refine u_idiv (k := 3) rfl (by omega) (by omega) ?_
    rw [show ((2 * r.1 : Nat) : Int) / 2 = (r.1 : Int) by omega]
    refine a_istoren (k := 4) (lv' := [(2, _), (0, _), (1, _)]) rfl (Nat.le_of_ble_eq_true rfl) rfl ?_
    refine u_iloadn (k := 5) rfl rfl ?_
    refine a_if_ne (k := 6) rfl (fun c_8 => ?_) (fun c_8 => ?_)
    · refine u_aloadn (k := 9) rfl rfl ?_
      refine uv_virt0 (M' := mX11_parts) (k := 10) rfl lRX11_223 oX11_parts vX11_parts ⟨Nat.le_of_ble_eq_true rfl, Nat.le_of_ble_eq_true rfl⟩ rfl rfl (Nat.le_of_ble_eq_true rfl) (m_parts hW (by omega) s h hR) (by intro r g hp; exact hp.1) (fun g2 hg2 => ?_)
      obtain ⟨-, hP2, hF2⟩ := hg2
      refine a_iconst (k := 11) rfl ?_
      refine a_istoren (k := 12) (lv' := [(3, _), (2, _), (0, _), (1, _)]) rfl (Nat.le_of_ble_eq_true rfl) rfl ?_
      exact L1 64 0 g2 (by omega) (fun i hi => absurd hi (Nat.not_lt_zero i)) hP2 (hF2.mono (by simp [tcz]) (by simp))
    · omega
