/-! Shaking: all that can be left, set by set -/
abbrev FB : Type := (Nat → Int) × (Nat → Int)
def ui (F : Nat → Int) (k : Nat) (v : Int) : Nat → Int := fun j => if j = k then v else F j
/-- the first move to it, by v from S -/
def fsv (S a v : Nat) (x : FB) : Int := if S = a then (v : Int) else x.2 S
def RC (S a v : Nat) (x : FB) : Prop := x.1 (ndiff S (tkb v)) = -1 ∨ x.1 S + 1 < x.1 (ndiff S (tkb v)) ∨ (x.1 S + 1 = x.1 (ndiff S (tkb v)) ∧ fsv S a v x < x.2 (ndiff S (tkb v)))
noncomputable def rl1 (S a v : Nat) (x : FB) : FB := by
  classical
  exact if RC S a v x then (ui x.1 (ndiff S (tkb v)) (x.1 S + 1), ui x.2 (ndiff S (tkb v)) (fsv S a v x)) else x
theorem rl1_p {S a v : Nat} {x : FB} (h : RC S a v x) : rl1 S a v x = (ui x.1 (ndiff S (tkb v)) (x.1 S + 1), ui x.2 (ndiff S (tkb v)) (fsv S a v x)) := by unfold rl1; exact if_pos h
theorem rl1_n {S a v : Nat} {x : FB} (h : ¬ RC S a v x) : rl1 S a v x = x := by unfold rl1; exact if_neg h
noncomputable def rli (S a : Nat) (l : List Nat) (x : FB) : Nat → FB
  | 0 => x
  | i + 1 => rl1 S a (fn l i) (rli S a l x i)
/-- the arrays hold x -/
def HB (x : FB) (g : HH) : Prop := ∀ T, T < 256 → g 23 0 T = x.1 T ∧ g 24 0 T = x.2 T
def FO (x : FB) : Prop := ∀ T, T < 256 → -1 ≤ x.1 T ∧ x.1 T ≤ 255 - T
theorem ndiff_lt {S a b : Nat} (h : S.testBit a = true) : ndiff S (2 ^ a ||| 2 ^ b) < S := by
  have h1 := ndiff_le S (2 ^ a ||| 2 ^ b)
  have h2 : ndiff S (2 ^ a ||| 2 ^ b) ≠ S := fun he => by
    have := ndiff_bit S (2 ^ a ||| 2 ^ b) a
    rw [he, h, Nat.testBit_or, Nat.testBit_two_pow_self] at this
    simp at this
  omega
theorem tkb_ab {a b : Nat} (hb : b < 8) : tkb (10 * a + b) = 2 ^ a ||| 2 ^ b := by
  unfold tkb
  rw [show (10 * a + b) / 10 = a by omega, show (10 * a + b) % 10 = b by omega]
theorem FO.rl1 {S a v : Nat} {x : FB} (h : FO x) (hS : S < 256) (hT : ndiff S (tkb v) < S) (h0 : 0 ≤ x.1 S) : FO (rl1 S a v x) ∧ (rl1 S a v x).1 S = x.1 S ∧ (rl1 S a v x).2 S = x.2 S := by
  by_cases hc : RC S a v x
  · rw [rl1_p hc]
    refine ⟨fun T hT2 => ?_, ?_, ?_⟩
    · unfold ui
      dsimp only
      split
      · have := h S hS
        omega
      · exact h T hT2
    · unfold ui
      dsimp only
      rw [if_neg (by omega)]
    · unfold ui
      dsimp only
      rw [if_neg (by omega)]
  · rw [rl1_n hc]
    exact ⟨h, rfl, rfl⟩
/-- a list of moves from S -/
def ML (S : Nat) (l : List Nat) : Prop := ∀ i, i < l.length → ∃ a b, a < 8 ∧ b < 8 ∧ fn l i = 10 * a + b ∧ S.testBit a = true
theorem rli_ok {S a : Nat} {l : List Nat} {x : FB} (hM : ML S l) (h : FO x) (hS : S < 256) (h0 : 0 ≤ x.1 S) : ∀ i, i ≤ l.length → FO (rli S a l x i) ∧ (rli S a l x i).1 S = x.1 S ∧ (rli S a l x i).2 S = x.2 S
  | 0, _ => ⟨h, rfl, rfl⟩
  | i + 1, hi => by
    obtain ⟨h1, h2, h3⟩ := rli_ok (a := a) hM h hS h0 i (by omega)
    obtain ⟨p, q, hp, hq, e1, e2⟩ := hM i (by omega)
    have := FO.rl1 (a := a) (v := fn l i) h1 hS (by rw [e1, tkb_ab hq]; exact ndiff_lt e2) (by rw [h2]; exact h0)
    exact ⟨this.1, this.2.1.trans h2, this.2.2.trans h3⟩
theorem x_followMoves (S a : Nat) (l : List Nat) (x : FB) (h : HH) (hN : NL l h) (hl : l.length ≤ 36) (hM : ML S l) (hS : S < 256) (hB : HB x h) (hO : FO x) (h0 : 0 ≤ x.1 S) (ha : a < 256) :
    Sp mX8_followMoves [vr 22 0, vi S, vi (b01 (decide (S = a))), vr 17 0] h (fun r g => r = none ∧ HB (rli S a l x l.length) g ∧ Fr [(23, 0), (24, 0)] [] h g) := by
  refine Sp.of rfl kX8_followMoves (Nat.le_of_ble_eq_true rfl) ?_
  have L : ∀ (m n : Nat) (g : HH), n + m = l.length → HB (rli S a l x n) g → Fr [(23, 0), (24, 0)] [] h g → AW mX8_followMoves (fun r g => r = none ∧ HB (rli S a l x l.length) g ∧ Fr [(23, 0), (24, 0)] [] h g) 3 [(0, vr 22 0), (1, vi S), (2, vi (b01 (decide (S = a)))), (3, vr 17 0), (4, vi n)] [] g := by
    intro m
    induction m with
    | zero =>
      intro n g hn hB hF
      have hn : n = l.length := by omega
      subst hn
      have h1 : g 17 0 5 = (l.length : Int) := (hF 17 0 5 (by simp) (by simp)).trans hN.1
      refine u_iload (k := 2) rfl rfl ?_
      refine u_aloadn (k := 3) rfl rfl ?_
      refine a_geti (k := 4) rfl fRX8_63 rfl rfl ?_
      refine a_icmp_ge (k := 5) rfl (fun c_9 => ?_) (fun c_9 => ?_)
      · refine a_return (k := 77) rfl rfl ?_
        exact ⟨rfl, hB, hF⟩
      · omega
    | succ m ih =>
      intro n g hn hB hF
      have h1 : g 17 0 5 = (l.length : Int) := (hF 17 0 5 (by simp) (by simp)).trans hN.1
      have hN' : NL l g := ⟨h1, fun i hi => (hF 21 0 i (by simp) (by simp)).trans (hN.2 i hi)⟩
      obtain ⟨p, q, hp, hq, ev, eb⟩ := hM n (by omega)
      obtain ⟨o1, o2, o3⟩ := rli_ok (a := a) hM hO hS h0 n (by omega)
      have hTl := ndiff_lt (b := q) eb
      have etk : tkb (fn l n) = 2 ^ p ||| 2 ^ q := by rw [ev, tkb_ab hq]
      have epos : (if (0 : Int) ≤ (n : Int) ∧ (n : Int) < (l.length : Int) then (fn l (n : Int).toNat : Int) else -1) = ((10 * p + q : Nat) : Int) := by
        rw [if_pos (by omega), Int.toNat_natCast, ev]
      have pt : 2 ^ p ||| 2 ^ q < 2 ^ 31 := Nat.or_lt_two_pow (Nat.pow_lt_pow_right (by omega) (by omega)) (Nat.pow_lt_pow_right (by omega) (by omega))
      have eT : iand (iand (S : Int) (ixor ((2 ^ p ||| 2 ^ q : Nat) : Int) (-1))) 255 = ((ndiff S (2 ^ p ||| 2 ^ q) : Nat) : Int) := by
        rw [iandn_nat (by omega) pt]
        have := iand_nat (a := ndiff S (2 ^ p ||| 2 ^ q)) (b := 255) (by omega)
        rw [show ((255 : Nat) : Int) = 255 from rfl] at this
        rw [this, show (255 : Nat) = 2 ^ 8 - 1 from rfl, Nat.and_two_pow_sub_one_eq_mod, Nat.mod_eq_of_lt (by omega)]
      have er : rli S a l x (n + 1) = rl1 S a (fn l n) (rli S a l x n) := rfl
      have hB' := hB
      generalize rli S a l x n = y at hB hB' o1 o2 o3 er
      generalize hT : ndiff S (2 ^ p ||| 2 ^ q) = T at eT hTl
      have hbS := hB S hS
      have hbT := hB T (by omega)
      have oS := o1 S hS
      have oT := o1 T (by omega)
      have efs : fsv S a (fn l n) y = if S = a then ((10 * p + q : Nat) : Int) else y.2 S := by rw [fsv, ev]
      have upd_ : ∀ fs : Int, fs = fsv S a (fn l n) y → RC S a (fn l n) y → HB (rli S a l x (n + 1)) (put (put g 23 0 T (y.1 S + 1)) 24 0 T fs) := by
        intro fs hfs hR
        rw [er, rl1_p hR, etk, hT, ← hfs]
        intro U hU
        refine ⟨?_, ?_⟩
        · rw [put_ne (by simp)]
          unfold ui
          by_cases he : U = T
          · subst he; rw [put_eq]; simp
          · rw [put_ne (by simp [he])]; simp only [if_neg he]; exact (hB' U hU).1
        · unfold ui
          by_cases he : U = T
          · subst he; rw [put_eq]; simp
          · rw [put_ne (by simp [he]), put_ne (by simp)]; simp only [if_neg he]; exact (hB' U hU).2
      have stay_ : ¬ RC S a (fn l n) y → HB (rli S a l x (n + 1)) g := fun hR => by rw [er, rl1_n hR]; exact hB'
      have body : ∀ fs : Int, fs = fsv S a (fn l n) y → AW mX8_followMoves (fun r g => r = none ∧ HB (rli S a l x l.length) g ∧ Fr [(23, 0), (24, 0)] [] h g) 60 [(0, vr 22 0), (1, vi S), (2, vi (b01 (decide (S = a)))), (3, vr 17 0), (4, vi n), (6, vi T), (7, vi (y.1 S + 1))] [vi fs] g := by
        intro fs hfs
        have hRC : RC S a (fn l n) y ↔ (y.1 T = -1 ∨ y.1 S + 1 < y.1 T ∨ (y.1 S + 1 = y.1 T ∧ fs < y.2 T)) := by unfold RC; rw [etk, hT, ← hfs]
        refine a_istore (k := 34) (lv' := [(8, _), (0, _), (1, _), (2, _), (3, _), (4, _), (6, _), (7, _)]) rfl (Nat.le_of_ble_eq_true rfl) rfl ?_
        refine u_aloadn (k := 35) rfl rfl ?_
        refine a_getr (k := 36) rfl fRX8_9 rfl rfl rfl ?_
        refine u_iload (k := 37) rfl rfl ?_
        refine u_iald (k := 38) rfl rfl rfl (by omega) ?_
        rw [hbT.1]
        refine a_iconst (k := 39) rfl ?_
        refine a_icmp_eq (k := 40) rfl (fun c_70 => ?_) (fun c_70 => ?_)
        · refine a_iconst (k := 47) rfl ?_
          refine a_goto (k := 48) rfl ?_
          refine a_istore (k := 50) (lv' := [(9, _), (8, _), (0, _), (1, _), (2, _), (3, _), (4, _), (6, _), (7, _)]) rfl (Nat.le_of_ble_eq_true rfl) rfl ?_
          refine u_iload (k := 51) rfl rfl ?_
          refine a_if_ne (k := 52) rfl (fun c_94 => ?_) (fun c_94 => ?_)
          · refine u_aloadn (k := 65) rfl rfl ?_
            refine a_getr (k := 66) rfl fRX8_9 rfl rfl rfl ?_
            refine u_iload (k := 67) rfl rfl ?_
            refine u_iload (k := 68) rfl rfl ?_
            refine u_iast (k := 69) rfl rfl rfl (by omega) ?_
            refine u_aloadn (k := 70) rfl rfl ?_
            refine a_getr (k := 71) rfl fRX8_15 rfl rfl rfl ?_
            refine u_iload (k := 72) rfl rfl ?_
            refine u_iload (k := 73) rfl rfl ?_
            refine u_iast (k := 74) rfl rfl rfl (by omega) ?_
            refine u_iinc (k := 75) (lv' := [(4, _), (9, _), (8, _), (0, _), (1, _), (2, _), (3, _), (6, _), (7, _)]) rfl rfl (Nat.le_of_ble_eq_true rfl) (by omega) rfl ?_
            refine a_goto (k := 76) rfl ?_
            refine a_sub [3, 4, 5, 6, 0] rfl ?_
            first
              | exact ih (n + 1) _ (by omega) (stay_ (by rw [hRC]; omega)) hF
              | exact ih (n + 1) _ (by omega) (upd_ fs hfs (by rw [hRC]; omega)) ((hF.p1 (by simp)).p1 (by simp))
              | omega
          · refine u_iload (k := 53) rfl rfl ?_
            refine u_aloadn (k := 54) rfl rfl ?_
            refine a_getr (k := 55) rfl fRX8_9 rfl rfl rfl ?_
            refine u_iload (k := 56) rfl rfl ?_
            refine u_iald (k := 57) rfl rfl rfl (by omega) ?_
            rw [hbT.1]
            refine a_icmp_ne (k := 58) rfl (fun c_106 => ?_) (fun c_106 => ?_)
            · refine u_iinc (k := 75) (lv' := [(4, _), (9, _), (8, _), (0, _), (1, _), (2, _), (3, _), (6, _), (7, _)]) rfl rfl (Nat.le_of_ble_eq_true rfl) (by omega) rfl ?_
              refine a_goto (k := 76) rfl ?_
              refine a_sub [3, 4, 5, 6, 0] rfl ?_
              first
                | exact ih (n + 1) _ (by omega) (stay_ (by rw [hRC]; omega)) hF
                | exact ih (n + 1) _ (by omega) (upd_ fs hfs (by rw [hRC]; omega)) ((hF.p1 (by simp)).p1 (by simp))
                | omega
            · refine u_iload (k := 59) rfl rfl ?_
              refine u_aloadn (k := 60) rfl rfl ?_
              refine a_getr (k := 61) rfl fRX8_15 rfl rfl rfl ?_
              refine u_iload (k := 62) rfl rfl ?_
              refine u_iald (k := 63) rfl rfl rfl (by omega) ?_
              rw [hbT.2]
              refine a_icmp_ge (k := 64) rfl (fun c_118 => ?_) (fun c_118 => ?_)
              · refine u_iinc (k := 75) (lv' := [(4, _), (9, _), (8, _), (0, _), (1, _), (2, _), (3, _), (6, _), (7, _)]) rfl rfl (Nat.le_of_ble_eq_true rfl) (by omega) rfl ?_
                refine a_goto (k := 76) rfl ?_
                refine a_sub [3, 4, 5, 6, 0] rfl ?_
                first
                  | exact ih (n + 1) _ (by omega) (stay_ (by rw [hRC]; omega)) hF
                  | exact ih (n + 1) _ (by omega) (upd_ fs hfs (by rw [hRC]; omega)) ((hF.p1 (by simp)).p1 (by simp))
                  | omega
              · refine u_aloadn (k := 65) rfl rfl ?_
                refine a_getr (k := 66) rfl fRX8_9 rfl rfl rfl ?_
                refine u_iload (k := 67) rfl rfl ?_
                refine u_iload (k := 68) rfl rfl ?_
                refine u_iast (k := 69) rfl rfl rfl (by omega) ?_
                refine u_aloadn (k := 70) rfl rfl ?_
                refine a_getr (k := 71) rfl fRX8_15 rfl rfl rfl ?_
                refine u_iload (k := 72) rfl rfl ?_
                refine u_iload (k := 73) rfl rfl ?_
                refine u_iast (k := 74) rfl rfl rfl (by omega) ?_
                refine u_iinc (k := 75) (lv' := [(4, _), (9, _), (8, _), (0, _), (1, _), (2, _), (3, _), (6, _), (7, _)]) rfl rfl (Nat.le_of_ble_eq_true rfl) (by omega) rfl ?_
                refine a_goto (k := 76) rfl ?_
                refine a_sub [3, 4, 5, 6, 0] rfl ?_
                first
                  | exact ih (n + 1) _ (by omega) (stay_ (by rw [hRC]; omega)) hF
                  | exact ih (n + 1) _ (by omega) (upd_ fs hfs (by rw [hRC]; omega)) ((hF.p1 (by simp)).p1 (by simp))
                  | omega
        · refine u_iload (k := 41) rfl rfl ?_
          refine u_aloadn (k := 42) rfl rfl ?_
          refine a_getr (k := 43) rfl fRX8_9 rfl rfl rfl ?_
          refine u_iload (k := 44) rfl rfl ?_
          refine u_iald (k := 45) rfl rfl rfl (by omega) ?_
          rw [hbT.1]
          refine a_icmp_ge (k := 46) rfl (fun c_82 => ?_) (fun c_82 => ?_)
          · refine a_iconst (k := 49) rfl ?_
            refine a_istore (k := 50) (lv' := [(9, _), (8, _), (0, _), (1, _), (2, _), (3, _), (4, _), (6, _), (7, _)]) rfl (Nat.le_of_ble_eq_true rfl) rfl ?_
            refine u_iload (k := 51) rfl rfl ?_
            refine a_if_ne (k := 52) rfl (fun c_94 => ?_) (fun c_94 => ?_)
            · refine u_aloadn (k := 65) rfl rfl ?_
              refine a_getr (k := 66) rfl fRX8_9 rfl rfl rfl ?_
              refine u_iload (k := 67) rfl rfl ?_
              refine u_iload (k := 68) rfl rfl ?_
              refine u_iast (k := 69) rfl rfl rfl (by omega) ?_
              refine u_aloadn (k := 70) rfl rfl ?_
              refine a_getr (k := 71) rfl fRX8_15 rfl rfl rfl ?_
              refine u_iload (k := 72) rfl rfl ?_
              refine u_iload (k := 73) rfl rfl ?_
              refine u_iast (k := 74) rfl rfl rfl (by omega) ?_
              refine u_iinc (k := 75) (lv' := [(4, _), (9, _), (8, _), (0, _), (1, _), (2, _), (3, _), (6, _), (7, _)]) rfl rfl (Nat.le_of_ble_eq_true rfl) (by omega) rfl ?_
              refine a_goto (k := 76) rfl ?_
              refine a_sub [3, 4, 5, 6, 0] rfl ?_
              first
                | exact ih (n + 1) _ (by omega) (stay_ (by rw [hRC]; omega)) hF
                | exact ih (n + 1) _ (by omega) (upd_ fs hfs (by rw [hRC]; omega)) ((hF.p1 (by simp)).p1 (by simp))
                | omega
            · refine u_iload (k := 53) rfl rfl ?_
              refine u_aloadn (k := 54) rfl rfl ?_
              refine a_getr (k := 55) rfl fRX8_9 rfl rfl rfl ?_
              refine u_iload (k := 56) rfl rfl ?_
              refine u_iald (k := 57) rfl rfl rfl (by omega) ?_
              rw [hbT.1]
              refine a_icmp_ne (k := 58) rfl (fun c_106 => ?_) (fun c_106 => ?_)
              · refine u_iinc (k := 75) (lv' := [(4, _), (9, _), (8, _), (0, _), (1, _), (2, _), (3, _), (6, _), (7, _)]) rfl rfl (Nat.le_of_ble_eq_true rfl) (by omega) rfl ?_
                refine a_goto (k := 76) rfl ?_
                refine a_sub [3, 4, 5, 6, 0] rfl ?_
                first
                  | exact ih (n + 1) _ (by omega) (stay_ (by rw [hRC]; omega)) hF
                  | exact ih (n + 1) _ (by omega) (upd_ fs hfs (by rw [hRC]; omega)) ((hF.p1 (by simp)).p1 (by simp))
                  | omega
              · refine u_iload (k := 59) rfl rfl ?_
                refine u_aloadn (k := 60) rfl rfl ?_
                refine a_getr (k := 61) rfl fRX8_15 rfl rfl rfl ?_
                refine u_iload (k := 62) rfl rfl ?_
                refine u_iald (k := 63) rfl rfl rfl (by omega) ?_
                rw [hbT.2]
                refine a_icmp_ge (k := 64) rfl (fun c_118 => ?_) (fun c_118 => ?_)
                · refine u_iinc (k := 75) (lv' := [(4, _), (9, _), (8, _), (0, _), (1, _), (2, _), (3, _), (6, _), (7, _)]) rfl rfl (Nat.le_of_ble_eq_true rfl) (by omega) rfl ?_
                  refine a_goto (k := 76) rfl ?_
                  refine a_sub [3, 4, 5, 6, 0] rfl ?_
                  first
                    | exact ih (n + 1) _ (by omega) (stay_ (by rw [hRC]; omega)) hF
                    | exact ih (n + 1) _ (by omega) (upd_ fs hfs (by rw [hRC]; omega)) ((hF.p1 (by simp)).p1 (by simp))
                    | omega
                · refine u_aloadn (k := 65) rfl rfl ?_
                  refine a_getr (k := 66) rfl fRX8_9 rfl rfl rfl ?_
                  refine u_iload (k := 67) rfl rfl ?_
                  refine u_iload (k := 68) rfl rfl ?_
                  refine u_iast (k := 69) rfl rfl rfl (by omega) ?_
                  refine u_aloadn (k := 70) rfl rfl ?_
                  refine a_getr (k := 71) rfl fRX8_15 rfl rfl rfl ?_
                  refine u_iload (k := 72) rfl rfl ?_
                  refine u_iload (k := 73) rfl rfl ?_
                  refine u_iast (k := 74) rfl rfl rfl (by omega) ?_
                  refine u_iinc (k := 75) (lv' := [(4, _), (9, _), (8, _), (0, _), (1, _), (2, _), (3, _), (6, _), (7, _)]) rfl rfl (Nat.le_of_ble_eq_true rfl) (by omega) rfl ?_
                  refine a_goto (k := 76) rfl ?_
                  refine a_sub [3, 4, 5, 6, 0] rfl ?_
                  first
                    | exact ih (n + 1) _ (by omega) (stay_ (by rw [hRC]; omega)) hF
                    | exact ih (n + 1) _ (by omega) (upd_ fs hfs (by rw [hRC]; omega)) ((hF.p1 (by simp)).p1 (by simp))
                    | omega
          · refine a_iconst (k := 47) rfl ?_
            refine a_goto (k := 48) rfl ?_
            refine a_istore (k := 50) (lv' := [(9, _), (8, _), (0, _), (1, _), (2, _), (3, _), (4, _), (6, _), (7, _)]) rfl (Nat.le_of_ble_eq_true rfl) rfl ?_
            refine u_iload (k := 51) rfl rfl ?_
            refine a_if_ne (k := 52) rfl (fun c_94 => ?_) (fun c_94 => ?_)
            · refine u_aloadn (k := 65) rfl rfl ?_
              refine a_getr (k := 66) rfl fRX8_9 rfl rfl rfl ?_
              refine u_iload (k := 67) rfl rfl ?_
              refine u_iload (k := 68) rfl rfl ?_
              refine u_iast (k := 69) rfl rfl rfl (by omega) ?_
              refine u_aloadn (k := 70) rfl rfl ?_
              refine a_getr (k := 71) rfl fRX8_15 rfl rfl rfl ?_
              refine u_iload (k := 72) rfl rfl ?_
              refine u_iload (k := 73) rfl rfl ?_
              refine u_iast (k := 74) rfl rfl rfl (by omega) ?_
              refine u_iinc (k := 75) (lv' := [(4, _), (9, _), (8, _), (0, _), (1, _), (2, _), (3, _), (6, _), (7, _)]) rfl rfl (Nat.le_of_ble_eq_true rfl) (by omega) rfl ?_
              refine a_goto (k := 76) rfl ?_
              refine a_sub [3, 4, 5, 6, 0] rfl ?_
              first
                | exact ih (n + 1) _ (by omega) (stay_ (by rw [hRC]; omega)) hF
                | exact ih (n + 1) _ (by omega) (upd_ fs hfs (by rw [hRC]; omega)) ((hF.p1 (by simp)).p1 (by simp))
                | omega
            · refine u_iload (k := 53) rfl rfl ?_
              refine u_aloadn (k := 54) rfl rfl ?_
              refine a_getr (k := 55) rfl fRX8_9 rfl rfl rfl ?_
              refine u_iload (k := 56) rfl rfl ?_
              refine u_iald (k := 57) rfl rfl rfl (by omega) ?_
              rw [hbT.1]
              refine a_icmp_ne (k := 58) rfl (fun c_106 => ?_) (fun c_106 => ?_)
              · refine u_iinc (k := 75) (lv' := [(4, _), (9, _), (8, _), (0, _), (1, _), (2, _), (3, _), (6, _), (7, _)]) rfl rfl (Nat.le_of_ble_eq_true rfl) (by omega) rfl ?_
                refine a_goto (k := 76) rfl ?_
                refine a_sub [3, 4, 5, 6, 0] rfl ?_
                first
                  | exact ih (n + 1) _ (by omega) (stay_ (by rw [hRC]; omega)) hF
                  | exact ih (n + 1) _ (by omega) (upd_ fs hfs (by rw [hRC]; omega)) ((hF.p1 (by simp)).p1 (by simp))
                  | omega
              · refine u_iload (k := 59) rfl rfl ?_
                refine u_aloadn (k := 60) rfl rfl ?_
                refine a_getr (k := 61) rfl fRX8_15 rfl rfl rfl ?_
                refine u_iload (k := 62) rfl rfl ?_
                refine u_iald (k := 63) rfl rfl rfl (by omega) ?_
                rw [hbT.2]
                refine a_icmp_ge (k := 64) rfl (fun c_118 => ?_) (fun c_118 => ?_)
                · refine u_iinc (k := 75) (lv' := [(4, _), (9, _), (8, _), (0, _), (1, _), (2, _), (3, _), (6, _), (7, _)]) rfl rfl (Nat.le_of_ble_eq_true rfl) (by omega) rfl ?_
                  refine a_goto (k := 76) rfl ?_
                  refine a_sub [3, 4, 5, 6, 0] rfl ?_
                  first
                    | exact ih (n + 1) _ (by omega) (stay_ (by rw [hRC]; omega)) hF
                    | exact ih (n + 1) _ (by omega) (upd_ fs hfs (by rw [hRC]; omega)) ((hF.p1 (by simp)).p1 (by simp))
                    | omega
                · refine u_aloadn (k := 65) rfl rfl ?_
                  refine a_getr (k := 66) rfl fRX8_9 rfl rfl rfl ?_
                  refine u_iload (k := 67) rfl rfl ?_
                  refine u_iload (k := 68) rfl rfl ?_
                  refine u_iast (k := 69) rfl rfl rfl (by omega) ?_
                  refine u_aloadn (k := 70) rfl rfl ?_
                  refine a_getr (k := 71) rfl fRX8_15 rfl rfl rfl ?_
                  refine u_iload (k := 72) rfl rfl ?_
                  refine u_iload (k := 73) rfl rfl ?_
                  refine u_iast (k := 74) rfl rfl rfl (by omega) ?_
                  refine u_iinc (k := 75) (lv' := [(4, _), (9, _), (8, _), (0, _), (1, _), (2, _), (3, _), (6, _), (7, _)]) rfl rfl (Nat.le_of_ble_eq_true rfl) (by omega) rfl ?_
                  refine a_goto (k := 76) rfl ?_
                  refine a_sub [3, 4, 5, 6, 0] rfl ?_
                  first
                    | exact ih (n + 1) _ (by omega) (stay_ (by rw [hRC]; omega)) hF
                    | exact ih (n + 1) _ (by omega) (upd_ fs hfs (by rw [hRC]; omega)) ((hF.p1 (by simp)).p1 (by simp))
                    | omega
      refine u_iload (k := 2) rfl rfl ?_
      refine u_aloadn (k := 3) rfl rfl ?_
      refine a_geti (k := 4) rfl fRX8_63 rfl rfl ?_
      refine a_icmp_ge (k := 5) rfl (fun c_9 => ?_) (fun c_9 => ?_)
      · omega
      · refine u_aloadn (k := 6) rfl rfl ?_
        refine u_iload (k := 7) rfl rfl ?_
        refine i_virt1 (M' := mX3_moveAt) (k := 8) rfl lRX8_66 oX3_moveAt vX3_moveAt ⟨Nat.le_of_ble_eq_true rfl, Nat.le_of_ble_eq_true rfl⟩ rfl rfl (Nat.le_of_ble_eq_true rfl) (x_moveAt l n g hN' hl) ?_
        rw [epos]
        refine a_istore (k := 9) (lv' := [(5, _), (0, _), (1, _), (2, _), (3, _), (4, _)]) rfl (Nat.le_of_ble_eq_true rfl) rfl ?_
        refine u_iloadn (k := 10) rfl rfl ?_
        refine u_iload (k := 11) rfl rfl ?_
        refine i_statN1 (M' := mX10_takenBy) (k := 12) rfl lRX8_70 oX10_takenBy vX10_takenBy ⟨Nat.le_of_ble_eq_true rfl, Nat.le_of_ble_eq_true rfl⟩ rfl (Nat.le_of_ble_eq_true rfl) (x_takenBy p q g hp hq) ?_
        refine a_iconst (k := 13) rfl ?_
        refine a_ixor (k := 14) rfl ?_
        refine a_iand (k := 15) rfl ?_
        refine a_sipush (k := 16) rfl ?_
        refine a_iand (k := 17) rfl ?_
        rw [eT]
        refine a_istore (k := 18) (lv' := [(6, _), (5, _), (0, _), (1, _), (2, _), (3, _), (4, _)]) rfl (Nat.le_of_ble_eq_true rfl) rfl ?_
        refine u_aloadn (k := 19) rfl rfl ?_
        refine a_getr (k := 20) rfl fRX8_9 rfl rfl rfl ?_
        refine u_iloadn (k := 21) rfl rfl ?_
        refine u_iald (k := 22) rfl rfl rfl (by omega) ?_
        rw [hbS.1]
        refine a_iconst (k := 23) rfl ?_
        refine u_iadd (k := 24) rfl (by omega) ?_
        refine a_istore (k := 25) (lv' := [(7, _), (6, _), (5, _), (0, _), (1, _), (2, _), (3, _), (4, _)]) rfl (Nat.le_of_ble_eq_true rfl) rfl ?_
        refine u_iloadn (k := 26) rfl rfl ?_
        refine a_if_eq (k := 27) rfl (fun c_46 => ?_) (fun c_46 => ?_)
        · have hsa : ¬ S = a := fun z => by simp [z, b01] at c_46
          refine u_aloadn (k := 30) rfl rfl ?_
          refine a_getr (k := 31) rfl fRX8_15 rfl rfl rfl ?_
          refine u_iloadn (k := 32) rfl rfl ?_
          refine u_iald (k := 33) rfl rfl rfl (by omega) ?_
          refine a_sub [3, 4, 5, 6, 7, 1, 0] rfl ?_
          first | exact body _ (by rw [efs, if_pos hsa]) | exact body _ (by rw [efs, if_neg hsa]; exact hbS.2)
        · have hsa : S = a := by
            by_cases z : S = a
            · exact z
            · simp [z, b01] at c_46
          refine u_iload (k := 28) rfl rfl ?_
          refine a_goto (k := 29) rfl ?_
          refine a_sub [3, 4, 5, 6, 7, 1, 0] rfl ?_
          first | exact body _ (by rw [efs, if_pos hsa]) | exact body _ (by rw [efs, if_neg hsa]; exact hbS.2)
  refine a_iconst (k := 0) rfl ?_
  refine a_istore (k := 1) (lv' := [(4, _), (0, _), (1, _), (2, _), (3, _)]) rfl (Nat.le_of_ble_eq_true rfl) rfl ?_
  refine a_sub [1, 2, 3, 4, 0] rfl ?_
  exact L l.length 0 h (by omega) hB Fr.rf

/-- sets seen, fewest, its moves, its first -/
abbrev WT : Type := Nat × Int × Int × Int
def lx3 (cr : Int) (m f : Int) (w : WT) : Prop := cr < w.2.1 ∨ (cr = w.2.1 ∧ (m < w.2.2.1 ∨ (m = w.2.2.1 ∧ f < w.2.2.2)))
noncomputable def wg (x : FB) (S : Nat) (w : WT) : WT := by
  classical
  exact if lx3 (pc_ S) (x.1 S) (x.2 S) w then (w.1, (pc_ S : Int), x.1 S, x.2 S) else w
theorem wg_p {x : FB} {S : Nat} {w : WT} (h : lx3 (pc_ S) (x.1 S) (x.2 S) w) : wg x S w = (w.1, (pc_ S : Int), x.1 S, x.2 S) := by unfold wg; exact if_pos h
theorem wg_n {x : FB} {S : Nat} {w : WT} (h : ¬ lx3 (pc_ S) (x.1 S) (x.2 S) w) : wg x S w = w := by unfold wg; exact if_neg h
def HWt (w : WT) (g : HH) : Prop := g 22 0 2 = (w.1 : Int) ∧ g 22 0 3 = w.2.1 ∧ g 22 0 4 = w.2.2.1 ∧ g 22 0 5 = w.2.2.2
theorem x_weigh (S : Nat) (x : FB) (w : WT) (h : HH) (hS : S < 256) (hB : HB x h) (hw : HWt w h) : Sp mX8_weigh [vr 22 0, vi S] h (fun r g => r = none ∧ HWt (wg x S w) g ∧ Fr [] [(22, 0, 3), (22, 0, 4), (22, 0, 5)] h g) := by
  refine Sp.of rfl kX8_weigh (Nat.le_of_ble_eq_true rfl) ?_
  obtain ⟨w1, w2, w3, w4⟩ := hw
  obtain ⟨b1, b2⟩ := hB S hS
  have up : lx3 (pc_ S) (x.1 S) (x.2 S) w → AW mX8_weigh (fun r g => r = none ∧ HWt (wg x S w) g ∧ Fr [] [(22, 0, 3), (22, 0, 4), (22, 0, 5)] h g) 90 [(0, vr 22 0), (1, vi S), (2, vi (pc_ S))] [] h := by
    intro hc
    refine u_aloadn (k := 48) rfl rfl ?_
    refine u_iloadn (k := 49) rfl rfl ?_
    refine a_puti (k := 50) rfl pRX8_37 rfl rfl ?_
    refine u_aloadn (k := 51) rfl rfl ?_
    refine u_aloadn (k := 52) rfl rfl ?_
    refine a_getr (k := 53) rfl fRX8_9 rfl rfl rfl ?_
    refine u_iloadn (k := 54) rfl rfl ?_
    refine u_iald (k := 55) rfl rfl rfl (by omega) ?_
    rw [put_ne (by simp), b1]
    refine a_puti (k := 56) rfl pRX8_40 rfl rfl ?_
    refine u_aloadn (k := 57) rfl rfl ?_
    refine u_aloadn (k := 58) rfl rfl ?_
    refine a_getr (k := 59) rfl fRX8_15 rfl rfl rfl ?_
    refine u_iloadn (k := 60) rfl rfl ?_
    refine u_iald (k := 61) rfl rfl rfl (by omega) ?_
    rw [put_ne (by simp), put_ne (by simp), b2]
    refine a_puti (k := 62) rfl pRX8_43 rfl rfl ?_
    refine a_return (k := 63) rfl rfl ?_
    exact ⟨rfl, by rw [wg_p hc]; exact ⟨by simp only [put_apply, Nat.reduceEqDiff, reduceIte, false_and, and_false, true_and, and_true, and_self, if_false, if_true, not_false_eq_true, not_true_eq_false, ne_eq]; exact w1, by simp only [put_apply, Nat.reduceEqDiff, reduceIte, false_and, and_false, true_and, and_true, and_self, if_false, if_true, not_false_eq_true, not_true_eq_false, ne_eq], by simp only [put_apply, Nat.reduceEqDiff, reduceIte, false_and, and_false, true_and, and_true, and_self, if_false, if_true, not_false_eq_true, not_true_eq_false, ne_eq], by simp only [put_apply, Nat.reduceEqDiff, reduceIte, false_and, and_false, true_and, and_true, and_self, if_false, if_true, not_false_eq_true, not_true_eq_false, ne_eq]⟩, ((Fr.rf.p2 (by simp)).p2 (by simp)).p2 (by simp)⟩
  have no_ : ¬ lx3 (pc_ S) (x.1 S) (x.2 S) w → (none : Option AV) = none ∧ HWt (wg x S w) h ∧ Fr [] [(22, 0, 3), (22, 0, 4), (22, 0, 5)] h h := fun hc => ⟨rfl, by rw [wg_n hc]; exact ⟨w1, w2, w3, w4⟩, Fr.rf⟩
  refine u_iloadn (k := 0) rfl rfl ?_
  refine i_stat1 (M' := mJ6_bitCount_0f7a4) (k := 1) rfl lRX8_73 oJ6_bitCount_0f7a4 vJ6_bitCount_0f7a4 ⟨Nat.le_of_ble_eq_true rfl, Nat.le_of_ble_eq_true rfl⟩ rfl (Nat.le_of_ble_eq_true rfl) (j_bitCount S h (by omega)) ?_
  refine a_istoren (k := 2) (lv' := [(2, _), (0, _), (1, _)]) rfl (Nat.le_of_ble_eq_true rfl) rfl ?_
  refine u_iloadn (k := 3) rfl rfl ?_
  refine u_aloadn (k := 4) rfl rfl ?_
  refine a_geti (k := 5) rfl fRX8_37 rfl rfl ?_
  rw [w2]
  refine a_icmp_lt (k := 6) rfl (fun c_10 => ?_) (fun c_10 => ?_)
  · refine a_iconst (k := 18) rfl ?_
    refine a_goto (k := 19) rfl ?_
    refine a_istoren (k := 21) (lv' := [(3, _), (2, _), (0, _), (1, _)]) rfl (Nat.le_of_ble_eq_true rfl) rfl ?_
    refine u_iloadn (k := 22) rfl rfl ?_
    refine u_aloadn (k := 23) rfl rfl ?_
    refine a_geti (k := 24) rfl fRX8_37 rfl rfl ?_
    rw [w2]
    refine a_icmp_ne (k := 25) rfl (fun c_45 => ?_) (fun c_45 => ?_)
    · refine a_iconst (k := 35) rfl ?_
      refine a_istore (k := 36) (lv' := [(4, _), (3, _), (2, _), (0, _), (1, _)]) rfl (Nat.le_of_ble_eq_true rfl) rfl ?_
      refine u_iloadn (k := 37) rfl rfl ?_
      refine a_if_ne (k := 38) rfl (fun c_69 => ?_) (fun c_69 => ?_)
      · refine a_sub [3, 4, 2] rfl ?_
        first | exact up (by unfold lx3; omega) | omega
      · refine u_iload (k := 39) rfl rfl ?_
        refine a_if_eq (k := 40) rfl (fun c_74 => ?_) (fun c_74 => ?_)
        · refine a_return (k := 63) rfl rfl ?_
          first | exact no_ (by unfold lx3; omega) | omega
        · refine u_aloadn (k := 41) rfl rfl ?_
          refine a_getr (k := 42) rfl fRX8_15 rfl rfl rfl ?_
          refine u_iloadn (k := 43) rfl rfl ?_
          refine u_iald (k := 44) rfl rfl rfl (by omega) ?_
          refine u_aloadn (k := 45) rfl rfl ?_
          refine a_geti (k := 46) rfl fRX8_43 rfl rfl ?_
          rw [b2, w4]
          refine a_icmp_ge (k := 47) rfl (fun c_87 => ?_) (fun c_87 => ?_)
          · refine a_return (k := 63) rfl rfl ?_
            first | exact no_ (by unfold lx3; omega) | omega
          · refine a_sub [3, 4, 2] rfl ?_
            first | exact up (by unfold lx3; omega) | omega
    · refine u_aloadn (k := 26) rfl rfl ?_
      refine a_getr (k := 27) rfl fRX8_9 rfl rfl rfl ?_
      refine u_iloadn (k := 28) rfl rfl ?_
      refine u_iald (k := 29) rfl rfl rfl (by omega) ?_
      refine u_aloadn (k := 30) rfl rfl ?_
      refine a_geti (k := 31) rfl fRX8_40 rfl rfl ?_
      rw [b1, w3]
      refine a_icmp_ne (k := 32) rfl (fun c_58 => ?_) (fun c_58 => ?_)
      · refine a_iconst (k := 35) rfl ?_
        refine a_istore (k := 36) (lv' := [(4, _), (3, _), (2, _), (0, _), (1, _)]) rfl (Nat.le_of_ble_eq_true rfl) rfl ?_
        refine u_iloadn (k := 37) rfl rfl ?_
        refine a_if_ne (k := 38) rfl (fun c_69 => ?_) (fun c_69 => ?_)
        · refine a_sub [3, 4, 2] rfl ?_
          first | exact up (by unfold lx3; omega) | omega
        · refine u_iload (k := 39) rfl rfl ?_
          refine a_if_eq (k := 40) rfl (fun c_74 => ?_) (fun c_74 => ?_)
          · refine a_return (k := 63) rfl rfl ?_
            first | exact no_ (by unfold lx3; omega) | omega
          · refine u_aloadn (k := 41) rfl rfl ?_
            refine a_getr (k := 42) rfl fRX8_15 rfl rfl rfl ?_
            refine u_iloadn (k := 43) rfl rfl ?_
            refine u_iald (k := 44) rfl rfl rfl (by omega) ?_
            refine u_aloadn (k := 45) rfl rfl ?_
            refine a_geti (k := 46) rfl fRX8_43 rfl rfl ?_
            rw [b2, w4]
            refine a_icmp_ge (k := 47) rfl (fun c_87 => ?_) (fun c_87 => ?_)
            · refine a_return (k := 63) rfl rfl ?_
              first | exact no_ (by unfold lx3; omega) | omega
            · refine a_sub [3, 4, 2] rfl ?_
              first | exact up (by unfold lx3; omega) | omega
      · refine a_iconst (k := 33) rfl ?_
        refine a_goto (k := 34) rfl ?_
        refine a_istore (k := 36) (lv' := [(4, _), (3, _), (2, _), (0, _), (1, _)]) rfl (Nat.le_of_ble_eq_true rfl) rfl ?_
        refine u_iloadn (k := 37) rfl rfl ?_
        refine a_if_ne (k := 38) rfl (fun c_69 => ?_) (fun c_69 => ?_)
        · refine a_sub [3, 4, 2] rfl ?_
          first | exact up (by unfold lx3; omega) | omega
        · refine u_iload (k := 39) rfl rfl ?_
          refine a_if_eq (k := 40) rfl (fun c_74 => ?_) (fun c_74 => ?_)
          · refine a_return (k := 63) rfl rfl ?_
            first | exact no_ (by unfold lx3; omega) | omega
          · refine u_aloadn (k := 41) rfl rfl ?_
            refine a_getr (k := 42) rfl fRX8_15 rfl rfl rfl ?_
            refine u_iloadn (k := 43) rfl rfl ?_
            refine u_iald (k := 44) rfl rfl rfl (by omega) ?_
            refine u_aloadn (k := 45) rfl rfl ?_
            refine a_geti (k := 46) rfl fRX8_43 rfl rfl ?_
            rw [b2, w4]
            refine a_icmp_ge (k := 47) rfl (fun c_87 => ?_) (fun c_87 => ?_)
            · refine a_return (k := 63) rfl rfl ?_
              first | exact no_ (by unfold lx3; omega) | omega
            · refine a_sub [3, 4, 2] rfl ?_
              first | exact up (by unfold lx3; omega) | omega
  · refine u_iloadn (k := 7) rfl rfl ?_
    refine u_aloadn (k := 8) rfl rfl ?_
    refine a_geti (k := 9) rfl fRX8_37 rfl rfl ?_
    rw [w2]
    refine a_icmp_ne (k := 10) rfl (fun c_18 => ?_) (fun c_18 => ?_)
    · refine a_iconst (k := 20) rfl ?_
      refine a_istoren (k := 21) (lv' := [(3, _), (2, _), (0, _), (1, _)]) rfl (Nat.le_of_ble_eq_true rfl) rfl ?_
      refine u_iloadn (k := 22) rfl rfl ?_
      refine u_aloadn (k := 23) rfl rfl ?_
      refine a_geti (k := 24) rfl fRX8_37 rfl rfl ?_
      rw [w2]
      refine a_icmp_ne (k := 25) rfl (fun c_45 => ?_) (fun c_45 => ?_)
      · refine a_iconst (k := 35) rfl ?_
        refine a_istore (k := 36) (lv' := [(4, _), (3, _), (2, _), (0, _), (1, _)]) rfl (Nat.le_of_ble_eq_true rfl) rfl ?_
        refine u_iloadn (k := 37) rfl rfl ?_
        refine a_if_ne (k := 38) rfl (fun c_69 => ?_) (fun c_69 => ?_)
        · refine a_sub [3, 4, 2] rfl ?_
          first | exact up (by unfold lx3; omega) | omega
        · refine u_iload (k := 39) rfl rfl ?_
          refine a_if_eq (k := 40) rfl (fun c_74 => ?_) (fun c_74 => ?_)
          · refine a_return (k := 63) rfl rfl ?_
            first | exact no_ (by unfold lx3; omega) | omega
          · refine u_aloadn (k := 41) rfl rfl ?_
            refine a_getr (k := 42) rfl fRX8_15 rfl rfl rfl ?_
            refine u_iloadn (k := 43) rfl rfl ?_
            refine u_iald (k := 44) rfl rfl rfl (by omega) ?_
            refine u_aloadn (k := 45) rfl rfl ?_
            refine a_geti (k := 46) rfl fRX8_43 rfl rfl ?_
            rw [b2, w4]
            refine a_icmp_ge (k := 47) rfl (fun c_87 => ?_) (fun c_87 => ?_)
            · refine a_return (k := 63) rfl rfl ?_
              first | exact no_ (by unfold lx3; omega) | omega
            · refine a_sub [3, 4, 2] rfl ?_
              first | exact up (by unfold lx3; omega) | omega
      · refine u_aloadn (k := 26) rfl rfl ?_
        refine a_getr (k := 27) rfl fRX8_9 rfl rfl rfl ?_
        refine u_iloadn (k := 28) rfl rfl ?_
        refine u_iald (k := 29) rfl rfl rfl (by omega) ?_
        refine u_aloadn (k := 30) rfl rfl ?_
        refine a_geti (k := 31) rfl fRX8_40 rfl rfl ?_
        rw [b1, w3]
        refine a_icmp_ne (k := 32) rfl (fun c_58 => ?_) (fun c_58 => ?_)
        · refine a_iconst (k := 35) rfl ?_
          refine a_istore (k := 36) (lv' := [(4, _), (3, _), (2, _), (0, _), (1, _)]) rfl (Nat.le_of_ble_eq_true rfl) rfl ?_
          refine u_iloadn (k := 37) rfl rfl ?_
          refine a_if_ne (k := 38) rfl (fun c_69 => ?_) (fun c_69 => ?_)
          · refine a_sub [3, 4, 2] rfl ?_
            first | exact up (by unfold lx3; omega) | omega
          · refine u_iload (k := 39) rfl rfl ?_
            refine a_if_eq (k := 40) rfl (fun c_74 => ?_) (fun c_74 => ?_)
            · refine a_return (k := 63) rfl rfl ?_
              first | exact no_ (by unfold lx3; omega) | omega
            · refine u_aloadn (k := 41) rfl rfl ?_
              refine a_getr (k := 42) rfl fRX8_15 rfl rfl rfl ?_
              refine u_iloadn (k := 43) rfl rfl ?_
              refine u_iald (k := 44) rfl rfl rfl (by omega) ?_
              refine u_aloadn (k := 45) rfl rfl ?_
              refine a_geti (k := 46) rfl fRX8_43 rfl rfl ?_
              rw [b2, w4]
              refine a_icmp_ge (k := 47) rfl (fun c_87 => ?_) (fun c_87 => ?_)
              · refine a_return (k := 63) rfl rfl ?_
                first | exact no_ (by unfold lx3; omega) | omega
              · refine a_sub [3, 4, 2] rfl ?_
                first | exact up (by unfold lx3; omega) | omega
        · refine a_iconst (k := 33) rfl ?_
          refine a_goto (k := 34) rfl ?_
          refine a_istore (k := 36) (lv' := [(4, _), (3, _), (2, _), (0, _), (1, _)]) rfl (Nat.le_of_ble_eq_true rfl) rfl ?_
          refine u_iloadn (k := 37) rfl rfl ?_
          refine a_if_ne (k := 38) rfl (fun c_69 => ?_) (fun c_69 => ?_)
          · refine a_sub [3, 4, 2] rfl ?_
            first | exact up (by unfold lx3; omega) | omega
          · refine u_iload (k := 39) rfl rfl ?_
            refine a_if_eq (k := 40) rfl (fun c_74 => ?_) (fun c_74 => ?_)
            · refine a_return (k := 63) rfl rfl ?_
              first | exact no_ (by unfold lx3; omega) | omega
            · refine u_aloadn (k := 41) rfl rfl ?_
              refine a_getr (k := 42) rfl fRX8_15 rfl rfl rfl ?_
              refine u_iloadn (k := 43) rfl rfl ?_
              refine u_iald (k := 44) rfl rfl rfl (by omega) ?_
              refine u_aloadn (k := 45) rfl rfl ?_
              refine a_geti (k := 46) rfl fRX8_43 rfl rfl ?_
              rw [b2, w4]
              refine a_icmp_ge (k := 47) rfl (fun c_87 => ?_) (fun c_87 => ?_)
              · refine a_return (k := 63) rfl rfl ?_
                first | exact no_ (by unfold lx3; omega) | omega
              · refine a_sub [3, 4, 2] rfl ?_
                first | exact up (by unfold lx3; omega) | omega
    · refine u_aloadn (k := 11) rfl rfl ?_
      refine a_getr (k := 12) rfl fRX8_9 rfl rfl rfl ?_
      refine u_iloadn (k := 13) rfl rfl ?_
      refine u_iald (k := 14) rfl rfl rfl (by omega) ?_
      refine u_aloadn (k := 15) rfl rfl ?_
      refine a_geti (k := 16) rfl fRX8_40 rfl rfl ?_
      rw [b1, w3]
      refine a_icmp_ge (k := 17) rfl (fun c_31 => ?_) (fun c_31 => ?_)
      · refine a_iconst (k := 20) rfl ?_
        refine a_istoren (k := 21) (lv' := [(3, _), (2, _), (0, _), (1, _)]) rfl (Nat.le_of_ble_eq_true rfl) rfl ?_
        refine u_iloadn (k := 22) rfl rfl ?_
        refine u_aloadn (k := 23) rfl rfl ?_
        refine a_geti (k := 24) rfl fRX8_37 rfl rfl ?_
        rw [w2]
        refine a_icmp_ne (k := 25) rfl (fun c_45 => ?_) (fun c_45 => ?_)
        · refine a_iconst (k := 35) rfl ?_
          refine a_istore (k := 36) (lv' := [(4, _), (3, _), (2, _), (0, _), (1, _)]) rfl (Nat.le_of_ble_eq_true rfl) rfl ?_
          refine u_iloadn (k := 37) rfl rfl ?_
          refine a_if_ne (k := 38) rfl (fun c_69 => ?_) (fun c_69 => ?_)
          · refine a_sub [3, 4, 2] rfl ?_
            first | exact up (by unfold lx3; omega) | omega
          · refine u_iload (k := 39) rfl rfl ?_
            refine a_if_eq (k := 40) rfl (fun c_74 => ?_) (fun c_74 => ?_)
            · refine a_return (k := 63) rfl rfl ?_
              first | exact no_ (by unfold lx3; omega) | omega
            · refine u_aloadn (k := 41) rfl rfl ?_
              refine a_getr (k := 42) rfl fRX8_15 rfl rfl rfl ?_
              refine u_iloadn (k := 43) rfl rfl ?_
              refine u_iald (k := 44) rfl rfl rfl (by omega) ?_
              refine u_aloadn (k := 45) rfl rfl ?_
              refine a_geti (k := 46) rfl fRX8_43 rfl rfl ?_
              rw [b2, w4]
              refine a_icmp_ge (k := 47) rfl (fun c_87 => ?_) (fun c_87 => ?_)
              · refine a_return (k := 63) rfl rfl ?_
                first | exact no_ (by unfold lx3; omega) | omega
              · refine a_sub [3, 4, 2] rfl ?_
                first | exact up (by unfold lx3; omega) | omega
        · refine u_aloadn (k := 26) rfl rfl ?_
          refine a_getr (k := 27) rfl fRX8_9 rfl rfl rfl ?_
          refine u_iloadn (k := 28) rfl rfl ?_
          refine u_iald (k := 29) rfl rfl rfl (by omega) ?_
          refine u_aloadn (k := 30) rfl rfl ?_
          refine a_geti (k := 31) rfl fRX8_40 rfl rfl ?_
          rw [b1, w3]
          refine a_icmp_ne (k := 32) rfl (fun c_58 => ?_) (fun c_58 => ?_)
          · refine a_iconst (k := 35) rfl ?_
            refine a_istore (k := 36) (lv' := [(4, _), (3, _), (2, _), (0, _), (1, _)]) rfl (Nat.le_of_ble_eq_true rfl) rfl ?_
            refine u_iloadn (k := 37) rfl rfl ?_
            refine a_if_ne (k := 38) rfl (fun c_69 => ?_) (fun c_69 => ?_)
            · refine a_sub [3, 4, 2] rfl ?_
              first | exact up (by unfold lx3; omega) | omega
            · refine u_iload (k := 39) rfl rfl ?_
              refine a_if_eq (k := 40) rfl (fun c_74 => ?_) (fun c_74 => ?_)
              · refine a_return (k := 63) rfl rfl ?_
                first | exact no_ (by unfold lx3; omega) | omega
              · refine u_aloadn (k := 41) rfl rfl ?_
                refine a_getr (k := 42) rfl fRX8_15 rfl rfl rfl ?_
                refine u_iloadn (k := 43) rfl rfl ?_
                refine u_iald (k := 44) rfl rfl rfl (by omega) ?_
                refine u_aloadn (k := 45) rfl rfl ?_
                refine a_geti (k := 46) rfl fRX8_43 rfl rfl ?_
                rw [b2, w4]
                refine a_icmp_ge (k := 47) rfl (fun c_87 => ?_) (fun c_87 => ?_)
                · refine a_return (k := 63) rfl rfl ?_
                  first | exact no_ (by unfold lx3; omega) | omega
                · refine a_sub [3, 4, 2] rfl ?_
                  first | exact up (by unfold lx3; omega) | omega
          · refine a_iconst (k := 33) rfl ?_
            refine a_goto (k := 34) rfl ?_
            refine a_istore (k := 36) (lv' := [(4, _), (3, _), (2, _), (0, _), (1, _)]) rfl (Nat.le_of_ble_eq_true rfl) rfl ?_
            refine u_iloadn (k := 37) rfl rfl ?_
            refine a_if_ne (k := 38) rfl (fun c_69 => ?_) (fun c_69 => ?_)
            · refine a_sub [3, 4, 2] rfl ?_
              first | exact up (by unfold lx3; omega) | omega
            · refine u_iload (k := 39) rfl rfl ?_
              refine a_if_eq (k := 40) rfl (fun c_74 => ?_) (fun c_74 => ?_)
              · refine a_return (k := 63) rfl rfl ?_
                first | exact no_ (by unfold lx3; omega) | omega
              · refine u_aloadn (k := 41) rfl rfl ?_
                refine a_getr (k := 42) rfl fRX8_15 rfl rfl rfl ?_
                refine u_iloadn (k := 43) rfl rfl ?_
                refine u_iald (k := 44) rfl rfl rfl (by omega) ?_
                refine u_aloadn (k := 45) rfl rfl ?_
                refine a_geti (k := 46) rfl fRX8_43 rfl rfl ?_
                rw [b2, w4]
                refine a_icmp_ge (k := 47) rfl (fun c_87 => ?_) (fun c_87 => ?_)
                · refine a_return (k := 63) rfl rfl ?_
                  first | exact no_ (by unfold lx3; omega) | omega
                · refine a_sub [3, 4, 2] rfl ?_
                  first | exact up (by unfold lx3; omega) | omega
      · refine a_iconst (k := 18) rfl ?_
        refine a_goto (k := 19) rfl ?_
        refine a_istoren (k := 21) (lv' := [(3, _), (2, _), (0, _), (1, _)]) rfl (Nat.le_of_ble_eq_true rfl) rfl ?_
        refine u_iloadn (k := 22) rfl rfl ?_
        refine u_aloadn (k := 23) rfl rfl ?_
        refine a_geti (k := 24) rfl fRX8_37 rfl rfl ?_
        rw [w2]
        refine a_icmp_ne (k := 25) rfl (fun c_45 => ?_) (fun c_45 => ?_)
        · refine a_iconst (k := 35) rfl ?_
          refine a_istore (k := 36) (lv' := [(4, _), (3, _), (2, _), (0, _), (1, _)]) rfl (Nat.le_of_ble_eq_true rfl) rfl ?_
          refine u_iloadn (k := 37) rfl rfl ?_
          refine a_if_ne (k := 38) rfl (fun c_69 => ?_) (fun c_69 => ?_)
          · refine a_sub [3, 4, 2] rfl ?_
            first | exact up (by unfold lx3; omega) | omega
          · refine u_iload (k := 39) rfl rfl ?_
            refine a_if_eq (k := 40) rfl (fun c_74 => ?_) (fun c_74 => ?_)
            · refine a_return (k := 63) rfl rfl ?_
              first | exact no_ (by unfold lx3; omega) | omega
            · refine u_aloadn (k := 41) rfl rfl ?_
              refine a_getr (k := 42) rfl fRX8_15 rfl rfl rfl ?_
              refine u_iloadn (k := 43) rfl rfl ?_
              refine u_iald (k := 44) rfl rfl rfl (by omega) ?_
              refine u_aloadn (k := 45) rfl rfl ?_
              refine a_geti (k := 46) rfl fRX8_43 rfl rfl ?_
              rw [b2, w4]
              refine a_icmp_ge (k := 47) rfl (fun c_87 => ?_) (fun c_87 => ?_)
              · refine a_return (k := 63) rfl rfl ?_
                first | exact no_ (by unfold lx3; omega) | omega
              · refine a_sub [3, 4, 2] rfl ?_
                first | exact up (by unfold lx3; omega) | omega
        · refine u_aloadn (k := 26) rfl rfl ?_
          refine a_getr (k := 27) rfl fRX8_9 rfl rfl rfl ?_
          refine u_iloadn (k := 28) rfl rfl ?_
          refine u_iald (k := 29) rfl rfl rfl (by omega) ?_
          refine u_aloadn (k := 30) rfl rfl ?_
          refine a_geti (k := 31) rfl fRX8_40 rfl rfl ?_
          rw [b1, w3]
          refine a_icmp_ne (k := 32) rfl (fun c_58 => ?_) (fun c_58 => ?_)
          · refine a_iconst (k := 35) rfl ?_
            refine a_istore (k := 36) (lv' := [(4, _), (3, _), (2, _), (0, _), (1, _)]) rfl (Nat.le_of_ble_eq_true rfl) rfl ?_
            refine u_iloadn (k := 37) rfl rfl ?_
            refine a_if_ne (k := 38) rfl (fun c_69 => ?_) (fun c_69 => ?_)
            · refine a_sub [3, 4, 2] rfl ?_
              first | exact up (by unfold lx3; omega) | omega
            · refine u_iload (k := 39) rfl rfl ?_
              refine a_if_eq (k := 40) rfl (fun c_74 => ?_) (fun c_74 => ?_)
              · refine a_return (k := 63) rfl rfl ?_
                first | exact no_ (by unfold lx3; omega) | omega
              · refine u_aloadn (k := 41) rfl rfl ?_
                refine a_getr (k := 42) rfl fRX8_15 rfl rfl rfl ?_
                refine u_iloadn (k := 43) rfl rfl ?_
                refine u_iald (k := 44) rfl rfl rfl (by omega) ?_
                refine u_aloadn (k := 45) rfl rfl ?_
                refine a_geti (k := 46) rfl fRX8_43 rfl rfl ?_
                rw [b2, w4]
                refine a_icmp_ge (k := 47) rfl (fun c_87 => ?_) (fun c_87 => ?_)
                · refine a_return (k := 63) rfl rfl ?_
                  first | exact no_ (by unfold lx3; omega) | omega
                · refine a_sub [3, 4, 2] rfl ?_
                  first | exact up (by unfold lx3; omega) | omega
          · refine a_iconst (k := 33) rfl ?_
            refine a_goto (k := 34) rfl ?_
            refine a_istore (k := 36) (lv' := [(4, _), (3, _), (2, _), (0, _), (1, _)]) rfl (Nat.le_of_ble_eq_true rfl) rfl ?_
            refine u_iloadn (k := 37) rfl rfl ?_
            refine a_if_ne (k := 38) rfl (fun c_69 => ?_) (fun c_69 => ?_)
            · refine a_sub [3, 4, 2] rfl ?_
              first | exact up (by unfold lx3; omega) | omega
            · refine u_iload (k := 39) rfl rfl ?_
              refine a_if_eq (k := 40) rfl (fun c_74 => ?_) (fun c_74 => ?_)
              · refine a_return (k := 63) rfl rfl ?_
                first | exact no_ (by unfold lx3; omega) | omega
              · refine u_aloadn (k := 41) rfl rfl ?_
                refine a_getr (k := 42) rfl fRX8_15 rfl rfl rfl ?_
                refine u_iloadn (k := 43) rfl rfl ?_
                refine u_iald (k := 44) rfl rfl rfl (by omega) ?_
                refine u_aloadn (k := 45) rfl rfl ?_
                refine a_geti (k := 46) rfl fRX8_43 rfl rfl ?_
                rw [b2, w4]
                refine a_icmp_ge (k := 47) rfl (fun c_87 => ?_) (fun c_87 => ?_)
                · refine a_return (k := 63) rfl rfl ?_
                  first | exact no_ (by unfold lx3; omega) | omega
                · refine a_sub [3, 4, 2] rfl ?_
                  first | exact up (by unfold lx3; omega) | omega
