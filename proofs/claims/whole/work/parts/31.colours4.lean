def OBok (f : Nat → Nat) (c : Nat) (O B : Nat → Nat) : Prop := ∀ r, r < c → ∃ i k, i < 2 * c ∧ k < 2 * c ∧ f i = 2 * r + 1 ∧ f k = 2 * r ∧ O r = opp f (pts c) i ∧ B r = bg f k ∧ O r < 8 ∧ B r < 8
def inj2 (f : Nat → Nat) (n : Nat) : Prop := ∀ i k, i < n → k < n → f i = f k → i = k
theorem pow5 {m n : Nat} (hm : 2 ≤ m) (hm5 : m ≤ 5) (hn : n ≤ 8) : m ^ n ≤ 390625 := Nat.le_trans (Nat.pow_le_pow_left hm5 n) (Nat.le_trans (Nat.pow_le_pow_right (by omega) hn) (by decide))
theorem svs_ok {c P m n : Nat} (hm : 0 < m) (x : SV) (h1 : ∀ r k, r < c → k < 8 → x.1 r k < m) (h2 : x.2.1 ≤ c) (h3 : ∀ k, n + 1 ≤ k → k < P → -1 ≤ x.2.2 k ∧ x.2.2 k < c) : (∀ r k, r < c → k < 8 → (svs c P m n x).1 r k < m) ∧ (svs c P m n x).2.1 ≤ c ∧ (∀ k, n ≤ k → k < P → -1 ≤ (svs c P m n x).2.2 k ∧ (svs c P m n x).2.2 k < c) := by
  unfold svs
  cases hq : rwt x.1 n (c - x.2.1) x.2.1 with
  | none =>
    refine ⟨h1, h2, fun k hk hP => ?_⟩
    dsimp only
    unfold ui
    split
    · omega
    · exact h3 k (by omega) hP
  | some r =>
    obtain ⟨q1, q2, -, -⟩ := rwt_some hq
    refine ⟨clr_lt hm (scl_lt hm (exch_lt h1 (by omega) (by omega))), by dsimp only; omega, fun k hk hP => ?_⟩
    dsimp only
    unfold ui
    split
    · omega
    · exact h3 k (by omega) hP
theorem svl_ok {c P m : Nat} (hm : 0 < m) : ∀ (n : Nat) (x : SV), (∀ r k, r < c → k < 8 → x.1 r k < m) → x.2.1 ≤ c → (∀ k, n ≤ k → k < P → -1 ≤ x.2.2 k ∧ x.2.2 k < c) → (∀ r k, r < c → k < 8 → (svl c P m n x).1 r k < m) ∧ (svl c P m n x).2.1 ≤ c ∧ (∀ k, k < P → -1 ≤ (svl c P m n x).2.2 k ∧ (svl c P m n x).2.2 k < c)
  | 0, x, h1, h2, h3 => ⟨h1, h2, fun k hk => h3 k (Nat.zero_le k) hk⟩
  | n + 1, x, h1, h2, h3 => by
    obtain ⟨a, b, d⟩ := svs_ok (n := n) hm x h1 h2 h3
    exact svl_ok hm n (svs c P m n x) a b d
theorem x_waysBy (j c s m : Nat) (f O B : Nat → Nat) (h : HH) (hR : RP j c f s h) (hinj : inj2 f (2 * c)) (hm : 2 ≤ m) (hm5 : m ≤ 5) (hOB : OBok f c O B) :
    Sp mX1_waysBy [vr 25 0, vr 5 j, vi m] h (fun z g => z = some (vi ((m ^ (pts c - (svl c (pts c) m (pts c) (mx0 O B (pts c) m, 0, h 30 0)).2.1) : Nat) : Int)) ∧ Fr tcl [] h g) := by
  refine Sp.of rfl kX1_waysBy (Nat.le_of_ble_eq_true rfl) ?_
  have hpt : pts c ≤ 8 ∧ 1 ≤ pts c := by have := hR.2.1; unfold pts; split <;> omega
  generalize hx : svl c (pts c) m (pts c) (mx0 O B (pts c) m, 0, h 30 0) = x
  have L : ∀ (d i : Nat) (g : HH), g 25 0 4 = (pts c : Int) → (i + d = pts c ∨ (d = 0 ∧ pts c ≤ i)) → x.2.1 ≤ i → i < 1000 → (i ≤ pts c ∨ i = x.2.1) → Fr tcl [] h g → AW mX1_waysBy (fun z g => z = some (vi ((m ^ (pts c - x.2.1) : Nat) : Int)) ∧ Fr tcl [] h g) 14 [(0, vr 25 0), (2, vi m), (3, vi ((m ^ (i - x.2.1) : Nat) : Int)), (4, vi i)] [] g := by
    intro d
    induction d with
    | zero =>
      intro i g hP hi h1 h2 h3 hF
      refine u_iload (k := 9) rfl rfl ?_
      refine u_aloadn (k := 10) rfl rfl ?_
      refine a_geti (k := 11) rfl fRX1_34 rfl rfl ?_
      refine a_icmp_ge (k := 12) rfl (fun c_20 => ?_) (fun c_20 => ?_)
      · refine u_iloadn (k := 19) rfl rfl ?_
        refine a_ireturn (k := 20) rfl rfl ?_
        exact ⟨by rw [show i - x.2.1 = pts c - x.2.1 by omega], hF⟩
      · omega
    | succ d ih =>
      intro i g hP hi h1 h2 h3 hF
      have hp := pow5 (n := i + 1 - x.2.1) hm hm5 (by omega)
      have e1 : ((m ^ (i - x.2.1) : Nat) : Int) * (m : Int) = ((m ^ (i + 1 - x.2.1) : Nat) : Int) := by rw [show i + 1 - x.2.1 = (i - x.2.1) + 1 by omega, Nat.pow_succ]; push_cast; rfl
      refine u_iload (k := 9) rfl rfl ?_
      refine u_aloadn (k := 10) rfl rfl ?_
      refine a_geti (k := 11) rfl fRX1_34 rfl rfl ?_
      refine a_icmp_ge (k := 12) rfl (fun c_20 => ?_) (fun c_20 => ?_)
      · omega
      · refine u_iloadn (k := 13) rfl rfl ?_
        refine u_iloadn (k := 14) rfl rfl ?_
        refine u_imul (k := 15) rfl (by rw [e1]; omega) ?_
        rw [e1]
        refine a_istoren (k := 16) (lv' := [(3, _), (0, _), (2, _), (4, _)]) rfl (Nat.le_of_ble_eq_true rfl) rfl ?_
        refine u_iinc (k := 17) (lv' := [(4, _), (3, _), (0, _), (2, _)]) rfl rfl (Nat.le_of_ble_eq_true rfl) (by omega) rfl ?_
        refine a_goto (k := 18) rfl ?_
        refine a_sub [2, 3, 1, 0] rfl ?_
        exact ih (i + 1) g hP (by omega) (by omega) (by omega) (by omega) hF
  refine u_aloadn (k := 0) rfl rfl ?_
  refine u_aloadn (k := 1) rfl rfl ?_
  refine u_iloadn (k := 2) rfl rfl ?_
  refine uv_virt2 (M' := mX1_solve) (k := 3) rfl lRX1_26 oX1_solve vX1_solve ⟨Nat.le_of_ble_eq_true rfl, Nat.le_of_ble_eq_true rfl⟩ rfl rfl (Nat.le_of_ble_eq_true rfl) (x_solve j c s m f O B h hR hinj hm hm5 hOB) (by intro r g hp; exact hp.1) (fun g1 hg1 => ?_)
  obtain ⟨-, b1, b2, b3⟩ := hg1; rw [hx] at b2
  refine a_iconst (k := 4) rfl ?_
  refine a_istoren (k := 5) (lv' := [(3, _), (0, _), (1, _), (2, _)]) rfl (Nat.le_of_ble_eq_true rfl) rfl ?_
  refine u_aloadn (k := 6) rfl rfl ?_
  refine a_geti (k := 7) rfl fRX1_30 rfl rfl ?_
  rw [b2.2.1]
  refine a_istore (k := 8) (lv' := [(4, _), (3, _), (0, _), (1, _), (2, _)]) rfl (Nat.le_of_ble_eq_true rfl) rfl ?_
  refine a_sub [2, 4, 1, 0] rfl ?_
  have hrk : x.2.1 ≤ c := by rw [← hx]; exact (svl_ok (by omega) (pts c) _ (fun r k _ _ => mx0_lt (by omega) r k) (Nat.zero_le _) (fun k h1 h2 => by omega)).2.1
  have hcp : c ≤ pts c := by unfold pts; split <;> omega
  have := L (pts c - x.2.1) x.2.1 g1 b1 (by omega) (Nat.le_refl _) (by omega) (Or.inr rfl) b3
  rw [Nat.sub_self, Nat.pow_zero] at this
  exact this
/-- the last free part -/
def frp (V : Nat → Int) : Nat → Nat
  | 0 => 0
  | k + 1 => if V (k + 1) = -1 then k + 1 else frp V k
theorem frp_le (V : Nat → Int) : ∀ n, frp V n ≤ n
  | 0 => Nat.le_refl 0
  | n + 1 => by
    unfold frp
    split
    · omega
    · have := frp_le V n; omega
def fcl (x : SV) (P p : Nat) : Int := if frp x.2.2 (P - 1) = 0 then -1 else if x.2.2 p < 0 then (if p = frp x.2.2 (P - 1) then 1 else 0) else (((3 - x.1 (x.2.2 p).toNat (frp x.2.2 (P - 1))) % 3 : Nat) : Int)
theorem x_firstColour (j c s : Nat) (d : Int) (f O B : Nat → Nat) (h : HH) (hR : RP j c f s h) (hinj : inj2 f (2 * c)) (hOB : OBok f c O B) (x : SV) (hx : svl c (pts c) 3 (pts c) (mx0 O B (pts c) 3, 0, h 30 0) = x) (hV : ∀ k, k < pts c → -1 ≤ x.2.2 k ∧ x.2.2 k < c) (hlt : ∀ r k, r < c → k < 8 → x.1 r k < 3) :
    Sp mX1_firstColourOf [vr 25 0, vr 5 j, vi d] h (fun z g => z = some (vi (if 0 ≤ d ∧ d < pts c then fcl x (pts c) d.toNat else -1)) ∧ Fr tcl [] h g) := by
  refine Sp.of rfl kX1_firstColourOf (Nat.le_of_ble_eq_true rfl) ?_
  have h8 := hR.2.1
  have hpt : pts c ≤ 8 ∧ 1 ≤ pts c := by unfold pts; split <;> omega
  have F2 : ∀ (g : HH) (p : Nat), p < pts c → SVH c x g → g 25 0 4 = (pts c : Int) → Fr tcl [] h g → AW mX1_firstColourOf (fun z g => z = some (vi (fcl x (pts c) p)) ∧ Fr tcl [] h g) 47 [(0, vr 25 0), (2, vi p), (3, vi (frp x.2.2 (pts c - 1)))] [] g := by
    intro g p hp hH hP hF
    have hfr := frp_le x.2.2 (pts c - 1)
    have hvp := hV p hp
    have e30 := hH.2.2 p (by omega)
    by_cases hneg : x.2.2 p < 0
    · refine u_iloadn (k := 27) rfl rfl ?_
      refine a_if_gt (k := 28) rfl (fun c_48 => ?_) (fun c_48 => ?_)
      · refine u_aloadn (k := 31) rfl rfl ?_
        refine a_getr (k := 32) rfl fRX1_23 rfl rfl rfl ?_
        refine u_iloadn (k := 33) rfl rfl ?_
        refine u_iald (k := 34) rfl rfl rfl (by omega) ?_
        rw [e30]
        refine a_istore (k := 35) (lv' := [(4, _), (0, _), (2, _), (3, _)]) rfl (Nat.le_of_ble_eq_true rfl) rfl ?_
        refine u_iload (k := 36) rfl rfl ?_
        refine a_if_lt (k := 37) rfl (fun c_63 => ?_) (fun c_63 => ?_)
        · refine u_iloadn (k := 41) rfl rfl ?_
          refine u_iloadn (k := 42) rfl rfl ?_
          refine a_icmp_ne (k := 43) rfl (fun c_75 => ?_) (fun c_75 => ?_)
          · refine a_iconst (k := 46) rfl ?_
            refine a_ireturn (k := 47) rfl rfl ?_
            exact ⟨by unfold fcl; rw [if_neg (by omega), if_pos hneg]; congr 2; split <;> omega, hF⟩
          · refine a_iconst (k := 44) rfl ?_
            refine a_goto (k := 45) rfl ?_
            refine a_ireturn (k := 47) rfl rfl ?_
            exact ⟨by unfold fcl; rw [if_neg (by omega), if_pos hneg]; congr 2; split <;> omega, hF⟩
        · omega
      · refine a_iconst (k := 29) rfl ?_
        refine a_ireturn (k := 30) rfl rfl ?_
        exact ⟨by unfold fcl; rw [if_pos (by omega)], hF⟩
    · obtain ⟨r, hr⟩ : ∃ r : Nat, x.2.2 p = (r : Int) := ⟨(x.2.2 p).toNat, by omega⟩
      have hl := hlt r (frp x.2.2 (pts c - 1)) (by omega) (by omega)
      have em := hH.1 r (frp x.2.2 (pts c - 1)) (by omega) (by omega)
      have e3 : (3 : Int) - (x.1 r (frp x.2.2 (pts c - 1)) : Int) = ((3 - x.1 r (frp x.2.2 (pts c - 1)) : Nat) : Int) := by omega
      refine u_iloadn (k := 27) rfl rfl ?_
      refine a_if_gt (k := 28) rfl (fun c_48 => ?_) (fun c_48 => ?_)
      · refine u_aloadn (k := 31) rfl rfl ?_
        refine a_getr (k := 32) rfl fRX1_23 rfl rfl rfl ?_
        refine u_iloadn (k := 33) rfl rfl ?_
        refine u_iald (k := 34) rfl rfl rfl (by omega) ?_
        rw [e30, hr]
        refine a_istore (k := 35) (lv' := [(4, _), (0, _), (2, _), (3, _)]) rfl (Nat.le_of_ble_eq_true rfl) rfl ?_
        refine u_iload (k := 36) rfl rfl ?_
        refine a_if_lt (k := 37) rfl (fun c_63 => ?_) (fun c_63 => ?_)
        · omega
        · refine u_iload (k := 38) rfl rfl ?_
          refine a_bipush (k := 39) rfl ?_
          refine a_icmp_lt (k := 40) rfl (fun c_70 => ?_) (fun c_70 => ?_)
          · refine a_iconst (k := 48) rfl ?_
            refine u_aloadn (k := 49) rfl rfl ?_
            refine a_getr (k := 50) rfl fRX1_11 rfl rfl rfl ?_
            refine u_iload (k := 51) rfl rfl ?_
            refine u_aald (k := 52) rfl rfl rfl (by decide) (by omega) rfl ?_
            refine u_iloadn (k := 53) rfl rfl ?_
            refine u_iald (k := 54) rfl rfl rfl (by omega) ?_
            rw [em]
            refine u_isub (k := 55) rfl (by omega) ?_
            rw [e3]
            refine a_iconst (k := 56) rfl ?_
            refine i_statN2 (M' := mX10_leftOver) (k := 57) rfl lRX1_37 oX10_leftOver vX10_leftOver ⟨Nat.le_of_ble_eq_true rfl, Nat.le_of_ble_eq_true rfl⟩ rfl (Nat.le_of_ble_eq_true rfl) (x_leftOver (3 - x.1 r (frp x.2.2 (pts c - 1))) 3 g (by omega)) ?_
            refine a_ireturn (k := 58) rfl rfl ?_
            exact ⟨by unfold fcl; rw [if_neg (by omega), if_neg hneg, hr, Int.toNat_natCast], hF⟩
          · omega
      · refine a_iconst (k := 29) rfl ?_
        refine a_ireturn (k := 30) rfl rfl ?_
        exact ⟨by unfold fcl; rw [if_pos (by omega)], hF⟩
  have L : ∀ (n : Nat) (g : HH) (p : Nat), p < pts c → n ≤ pts c - 1 → frp x.2.2 (pts c - 1) = frp x.2.2 n → SVH c x g → g 25 0 4 = (pts c : Int) → Fr tcl [] h g → AW mX1_firstColourOf (fun z g => z = some (vi (fcl x (pts c) p)) ∧ Fr tcl [] h g) 27 [(0, vr 25 0), (2, vi p), (3, vi n)] [] g := by
    intro n
    induction n with
    | zero =>
      intro g p hp hn he hH hP hF
      refine u_iloadn (k := 17) rfl rfl ?_
      refine a_if_le (k := 18) rfl (fun c_28 => ?_) (fun c_28 => ?_)
      · have := F2 g p hp hH hP hF; rw [he] at this; exact this
      · omega
    | succ n ih =>
      intro g p hp hn he hH hP hF
      have e30 := hH.2.2 (n + 1) (by omega)
      have e1 : frp x.2.2 (n + 1) = if x.2.2 (n + 1) = -1 then n + 1 else frp x.2.2 n := rfl
      have em : ((n + 1 : Nat) : Int) + (-1) = (n : Int) := by omega
      refine u_iloadn (k := 17) rfl rfl ?_
      refine a_if_le (k := 18) rfl (fun c_28 => ?_) (fun c_28 => ?_)
      · omega
      · refine u_aloadn (k := 19) rfl rfl ?_
        refine a_getr (k := 20) rfl fRX1_23 rfl rfl rfl ?_
        refine u_iloadn (k := 21) rfl rfl ?_
        refine u_iald (k := 22) rfl rfl rfl (by omega) ?_
        rw [e30]
        refine a_iconst (k := 23) rfl ?_
        refine a_icmp_eq (k := 24) rfl (fun c_38 => ?_) (fun c_38 => ?_)
        · rw [e1, if_pos (by assumption)] at he; have := F2 g p hp hH hP hF; rw [he] at this; exact this
        · refine u_iinc (k := 25) (lv' := [(3, _), (0, _), (2, _)]) rfl rfl (Nat.le_of_ble_eq_true rfl) (by omega) rfl ?_
          refine a_goto (k := 26) rfl ?_
          refine a_sub [1, 2, 0] rfl ?_
          rw [em]; rw [e1, if_neg (by assumption)] at he; exact ih g p hp (by omega) he hH hP hF
  refine u_aloadn (k := 0) rfl rfl ?_
  refine u_aloadn (k := 1) rfl rfl ?_
  refine a_iconst (k := 2) rfl ?_
  refine uv_virt2 (M' := mX1_solve) (k := 3) rfl lRX1_26 oX1_solve vX1_solve ⟨Nat.le_of_ble_eq_true rfl, Nat.le_of_ble_eq_true rfl⟩ rfl rfl (Nat.le_of_ble_eq_true rfl) (x_solve j c s 3 f O B h hR hinj (by omega) (by omega) hOB) (by intro r g hp; exact hp.1) (fun g1 hg1 => ?_)
  obtain ⟨-, b1, b2, b3⟩ := hg1; rw [hx] at b2
  refine u_iloadn (k := 4) rfl rfl ?_
  refine a_if_lt (k := 5) rfl (fun c_7 => ?_) (fun c_7 => ?_)
  · refine a_iconst (k := 10) rfl ?_
    refine a_ireturn (k := 11) rfl rfl ?_
    exact ⟨by rw [if_neg (by omega)], b3⟩
  · refine u_iloadn (k := 6) rfl rfl ?_
    refine u_aloadn (k := 7) rfl rfl ?_
    refine a_geti (k := 8) rfl fRX1_34 rfl rfl ?_
    refine a_icmp_lt (k := 9) rfl (fun c_15 => ?_) (fun c_15 => ?_)
    · refine u_aloadn (k := 12) rfl rfl ?_
      refine a_geti (k := 13) rfl fRX1_34 rfl rfl ?_
      rw [b1]
      refine a_iconst (k := 14) rfl ?_
      refine u_isub (k := 15) rfl (by omega) ?_
      refine a_istoren (k := 16) (lv' := [(3, _), (0, _), (1, _), (2, _)]) rfl (Nat.le_of_ble_eq_true rfl) rfl ?_
      refine a_sub [1, 3, 0] rfl ?_
      obtain ⟨p, hp⟩ : ∃ p : Nat, d = (p : Int) := ⟨d.toNat, by omega⟩
      subst hp
      rw [if_pos (by omega), Int.toNat_natCast, show ((pts c : Nat) : Int) - 1 = ((pts c - 1 : Nat) : Int) by omega]
      exact L (pts c - 1) g1 p (by omega) (Nat.le_refl _) rfl b2 b1 b3
    · refine a_iconst (k := 10) rfl ?_
      refine a_ireturn (k := 11) rfl rfl ?_
      exact ⟨by rw [if_neg (by omega)], b3⟩
