def Lr (f : Nat → Nat) (c S W : Nat) : List Nat := tr_ f S W (2 * c)
def cls (f : Nat → Nat) (c S W : Nat) : Nat := nk (Lr f c S W) (Lr f c S W).length
def mls (f : Nat → Nat) (c S W H : Nat) : List Nat := mpre (mvp (cls f c S W) (nq 1 (Lr f c S W) (Lr f c S W).length) (nq 0 (Lr f c S W) (Lr f c S W).length) (ndiff S H)) 8
def tml : List (Nat × Nat) := [(17, 0), (18, 0), (19, 0), (20, 0), (21, 0)]
/-- what lookAt leaves -/
def LK (f : Nat → Nat) (c S W H : Nat) (g : HH) : Prop := NL (mls f c S W H) g ∧ g 17 0 4 = (cls f c S W : Int)
/-- rope j of h: c crossings, thread f, salt s -/
def RP (j c : Nat) (f : Nat → Nat) (s : Nat) (h : HH) : Prop := h 5 j 2 = (c : Int) ∧ c ≤ 8 ∧ h 5 j 3 = (s : Int) ∧ s < 256 ∧ (∀ i, i < 2 * c → h 6 j i = (f i : Int)) ∧ ∀ i, i < 2 * c → f i < 16
theorem RP.keep {j c s : Nat} {f : Nat → Nat} {h g : HH} (h1 : RP j c f s h) (h2 : ∀ k, g 5 j k = h 5 j k) (h3 : ∀ k, g 6 j k = h 6 j k) : RP j c f s g := by
  obtain ⟨a, b, d, e, i, k⟩ := h1
  exact ⟨by rw [h2]; exact a, b, by rw [h2]; exact d, e, fun q hq => by rw [h3]; exact i q hq, k⟩
theorem RP.fr {j c s : Nat} {f : Nat → Nat} {h g : HH} {T : List (Nat × Nat)} {K : List (Nat × Nat × Nat)} (h1 : RP j c f s h) (hF : Fr T K h g) (h5 : (5, j) ∉ T) (h6 : (6, j) ∉ T) (k5 : ∀ k, (5, j, k) ∉ K) (k6 : ∀ k, (6, j, k) ∉ K) : RP j c f s g := h1.keep (fun k => hF 5 j k h5 (k5 k)) (fun k => hF 6 j k h6 (k6 k))
theorem Lr_lt {f : Nat → Nat} {c S W : Nat} (hf2 : ∀ i, i < 2 * c → f i < 16) : ∀ q, fn (Lr f c S W) q < 16 := fun q => tr_lt hf2 q
theorem Lr_len (f : Nat → Nat) (c S W : Nat) : (Lr f c S W).length ≤ 2 * c := tr_len f S W (2 * c)
theorem x_lookAt (j c s S W H : Nat) (f : Nat → Nat) (h : HH) (hR : RP j c f s h) (hS : S < 2 ^ 31) (hW : W < 2 ^ 31) (hH : H < 2 ^ 31) :
    Sp mX3_lookAt [vr 17 0, vr 5 j, vi S, vi W, vi H] h (fun r g => r = none ∧ LK f c S W H g ∧ Fr tml [] h g) := by
  refine Sp.of rfl kX3_lookAt (Nat.le_of_ble_eq_true rfl) ?_
  obtain ⟨r1, r2, r3, r4, r5, r6⟩ := hR
  have hl := Lr_len f c S W
  refine u_aloadn (k := 0) rfl rfl ?_
  refine u_aloadn (k := 1) rfl rfl ?_
  refine u_aloadn (k := 2) rfl rfl ?_
  refine u_iloadn (k := 3) rfl rfl ?_
  refine u_iloadn (k := 4) rfl rfl ?_
  refine ui_virt3 (M' := mX3_takeRow) (k := 5) rfl lRX3_38 oX3_takeRow vX3_takeRow ⟨Nat.le_of_ble_eq_true rfl, Nat.le_of_ble_eq_true rfl⟩ rfl rfl (Nat.le_of_ble_eq_true rfl) (x_takeRow j c S W f h r1 r2 r5 r6 hS hW) (by intro r g hp; exact ⟨_, hp.1⟩) (fun r g1 hg1 => ?_)
  obtain ⟨e1, b1, b2⟩ := hg1; cases e1
  refine uv_virt1 (M' := mX3_seeNeighbours) (k := 6) rfl lRX3_42 oX3_seeNeighbours vX3_seeNeighbours ⟨Nat.le_of_ble_eq_true rfl, Nat.le_of_ble_eq_true rfl⟩ rfl rfl (Nat.le_of_ble_eq_true rfl) (x_seeN (Lr f c S W) g1 (by omega) b1 (Lr_lt r6)) (by intro r g hp; exact hp.1) (fun g2 hg2 => ?_)
  obtain ⟨-, b3, b4⟩ := hg2
  refine u_aloadn (k := 7) rfl rfl ?_
  refine u_iloadn (k := 8) rfl rfl ?_
  refine u_iload (k := 9) rfl rfl ?_
  refine a_iconst (k := 10) rfl ?_
  refine a_ixor (k := 11) rfl ?_
  refine a_iand (k := 12) rfl ?_
  rw [iandn_nat hS hH]
  refine uv_virt1 (M' := mX3_listMoves) (k := 13) rfl lRX3_46 oX3_listMoves vX3_listMoves ⟨Nat.le_of_ble_eq_true rfl, Nat.le_of_ble_eq_true rfl⟩ rfl rfl (Nat.le_of_ble_eq_true rfl) (x_listMoves (cls f c S W) (nq 1 (Lr f c S W) (Lr f c S W).length) (nq 0 (Lr f c S W) (Lr f c S W).length) (ndiff S H) g2 b3.1 b3.2.1 b3.2.2 (nk_lt (Lr_lt r6) _) (fun x => nq_lt (Lr_lt r6) _ x) (fun x => nq_lt (Lr_lt r6) _ x) (Nat.lt_of_le_of_lt (ndiff_le S H) hS)) (by intro r g hp; exact hp.1) (fun g3 hg3 => ?_)
  obtain ⟨-, b5, b6⟩ := hg3
  refine a_return (k := 14) rfl rfl ?_
  exact ⟨rfl, ⟨b5, by rw [b6 17 0 4 (by simp) (by simp)]; exact b3.1⟩, ((b2.mono (by simp [tml]) (by simp)).tr b4 (by simp [tml]) (by simp [tml])).tr b6 (by simp [tml]) (by simp [tml])⟩
theorem x_lookNow (j c s : Nat) (f : Nat → Nat) (h : HH) (hR : RP j c f s h) :
    Sp mX3_lookNow [vr 17 0, vr 5 j] h (fun r g => r = none ∧ LK f c (2 ^ c - 1) 0 s g ∧ Fr tml [] h g) := by
  refine Sp.of rfl kX3_lookNow (Nat.le_of_ble_eq_true rfl) ?_
  have hR' := hR
  obtain ⟨r1, r2, r3, r4, r5, r6⟩ := hR
  have hq : 2 ^ c ≤ 2 ^ 8 := Nat.pow_le_pow_right (by omega) r2
  refine u_aloadn (k := 0) rfl rfl ?_
  refine u_aloadn (k := 1) rfl rfl ?_
  refine u_aloadn (k := 2) rfl rfl ?_
  refine i_virt0 (M' := mX6_everyCrossing) (k := 3) rfl lRX3_24 oX6_everyCrossing vX6_everyCrossing ⟨Nat.le_of_ble_eq_true rfl, Nat.le_of_ble_eq_true rfl⟩ rfl rfl (Nat.le_of_ble_eq_true rfl) (x_every j c h r1 r2) ?_
  refine a_iconst (k := 4) rfl ?_
  refine u_aloadn (k := 5) rfl rfl ?_
  refine a_geti (k := 6) rfl fRX3_30 rfl rfl ?_
  rw [r3]
  refine uv_virt4 (M' := mX3_lookAt) (k := 7) rfl lRX3_34 oX3_lookAt vX3_lookAt ⟨Nat.le_of_ble_eq_true rfl, Nat.le_of_ble_eq_true rfl⟩ rfl rfl (Nat.le_of_ble_eq_true rfl) (x_lookAt j c s (2 ^ c - 1) 0 s f h hR' (by omega) (by omega) (by omega)) (by intro r g hp; exact hp.1) (fun g1 hg1 => ?_)
  refine a_return (k := 8) rfl rfl ?_
  exact hg1
theorem x_moveAt (l : List Nat) (d : Int) (h : HH) (hN : NL l h) (hl : l.length ≤ 36) : SpI mX3_moveAt [vr 17 0, vi d] h (if 0 ≤ d ∧ d < l.length then (fn l d.toNat : Int) else -1) h := by
  refine Sp.of rfl kX3_moveAt (Nat.le_of_ble_eq_true rfl) ?_
  have h1 := hN.1
  refine u_iloadn (k := 0) rfl rfl ?_
  refine a_if_lt (k := 1) rfl (fun c_1 => ?_) (fun c_1 => ?_)
  · refine a_iconst (k := 14) rfl ?_
    refine a_ireturn (k := 15) rfl rfl ?_
    exact ⟨by congr 2; split <;> omega, rfl⟩
  · refine u_iloadn (k := 2) rfl rfl ?_
    refine u_aloadn (k := 3) rfl rfl ?_
    refine a_geti (k := 4) rfl fRX3_49 rfl rfl ?_
    refine a_icmp_ge (k := 5) rfl (fun c_9 => ?_) (fun c_9 => ?_)
    · refine a_iconst (k := 14) rfl ?_
      refine a_ireturn (k := 15) rfl rfl ?_
      exact ⟨by congr 2; split <;> omega, rfl⟩
    · refine u_iloadn (k := 6) rfl rfl ?_
      refine a_bipush (k := 7) rfl ?_
      refine a_icmp_ge (k := 8) rfl (fun c_15 => ?_) (fun c_15 => ?_)
      · refine a_iconst (k := 14) rfl ?_
        refine a_ireturn (k := 15) rfl rfl ?_
        exact ⟨by congr 2; split <;> omega, rfl⟩
      · refine u_aloadn (k := 9) rfl rfl ?_
        refine a_getr (k := 10) rfl fRX3_21 rfl rfl rfl ?_
        refine u_iloadn (k := 11) rfl rfl ?_
        refine a_iald (k := 12) rfl rfl rfl (by omega) (by omega) ?_
        rw [hN.2 d.toNat (by omega)]
        refine a_goto (k := 13) rfl ?_
        refine a_ireturn (k := 15) rfl rfl ?_
        exact ⟨by congr 2; split <;> omega, rfl⟩
theorem x_contains (l : List Nat) (v : Nat) (h : HH) (hN : NL l h) (hl : l.length ≤ 36) : SpI mX3_contains [vr 17 0, vi v] h (if v ∈ l then 1 else 0) h := by
  refine Sp.of rfl kX3_contains (Nat.le_of_ble_eq_true rfl) ?_
  have L : ∀ (m n : Nat), n + m = l.length → (∀ i, i < n → fn l i ≠ v) → AW mX3_contains (fun r g => r = some (vi (if v ∈ l then 1 else 0)) ∧ g = h) 2 [(0, vr 17 0), (1, vi v), (2, vi n)] [] h := by
    intro m
    have h1 := hN.1
    induction m with
    | zero =>
      intro n hn hp
      have hno : v ∉ l := by
        intro hv
        obtain ⟨i, hi⟩ := List.getElem?_of_mem hv
        have hlt := (List.getElem?_eq_some_iff.mp hi).1
        exact hp i (by omega) (by simp [fn, List.getD, hi])
      refine u_iloadn (k := 2) rfl rfl ?_
      refine u_aloadn (k := 3) rfl rfl ?_
      refine a_geti (k := 4) rfl fRX3_49 rfl rfl ?_
      refine a_icmp_ge (k := 5) rfl (fun c_7 => ?_) (fun c_7 => ?_)
      · refine a_iconst (k := 19) rfl ?_
        refine a_zreturn (k := 20) rfl rfl (by omega) ?_
        exact ⟨by rw [if_neg hno], rfl⟩
      · omega
    | succ m ih =>
      intro n hn hp
      have h2 := hN.2 n (by omega)
      refine u_iloadn (k := 2) rfl rfl ?_
      refine u_aloadn (k := 3) rfl rfl ?_
      refine a_geti (k := 4) rfl fRX3_49 rfl rfl ?_
      refine a_icmp_ge (k := 5) rfl (fun c_7 => ?_) (fun c_7 => ?_)
      · omega
      · refine u_iloadn (k := 6) rfl rfl ?_
        refine a_bipush (k := 7) rfl ?_
        refine a_icmp_ge (k := 8) rfl (fun c_13 => ?_) (fun c_13 => ?_)
        · omega
        · refine u_aloadn (k := 9) rfl rfl ?_
          refine a_getr (k := 10) rfl fRX3_21 rfl rfl rfl ?_
          refine u_iloadn (k := 11) rfl rfl ?_
          refine u_iald (k := 12) rfl rfl rfl (by omega) ?_
          refine u_iloadn (k := 13) rfl rfl ?_
          refine a_icmp_ne (k := 14) rfl (fun c_23 => ?_) (fun c_23 => ?_)
          · refine u_iinc (k := 17) (lv' := [(2, _), (0, _), (1, _)]) rfl rfl (Nat.le_of_ble_eq_true rfl) (by omega) rfl ?_
            refine a_goto (k := 18) rfl ?_
            refine a_sub [1, 2, 0] rfl ?_
            exact ih (n + 1) (by omega) (fun i hi => by by_cases he : i = n; (subst he; omega); exact hp i (by omega))
          · refine a_iconst (k := 15) rfl ?_
            refine a_zreturn (k := 16) rfl rfl (by omega) ?_
            refine ⟨?_, rfl⟩
            have : v ∈ l := by
              have hv : fn l n = v := by omega
              rw [← hv, fn, List.getD, List.getElem?_eq_getElem (by omega)]
              simp
            rw [if_pos this]
  refine a_iconst (k := 0) rfl ?_
  refine a_istoren (k := 1) (lv' := [(2, _), (0, _), (1, _)]) rfl (Nat.le_of_ble_eq_true rfl) rfl ?_
  refine a_sub [1, 2, 0] rfl ?_
  exact L l.length 0 (by omega) (fun i hi => absurd hi (Nat.not_lt_zero i))
theorem mrow_mem {p : Nat → Nat → Bool} {c n v : Nat} : v ∈ mrow p c n ↔ ∃ d, d < n ∧ c ≤ d ∧ p c d = true ∧ v = 10 * c + d := by
  unfold mrow
  simp only [List.mem_map, List.mem_filter, List.mem_range, Bool.and_eq_true, decide_eq_true_eq]
  constructor
  · rintro ⟨d, ⟨h1, h2, h3⟩, rfl⟩
    exact ⟨d, h1, h2, h3, rfl⟩
  · rintro ⟨d, h1, h2, h3, rfl⟩
    exact ⟨d, ⟨h1, h2, h3⟩, rfl⟩
theorem mpre_mem {p : Nat → Nat → Bool} {v : Nat} : ∀ {n : Nat}, v ∈ mpre p n ↔ ∃ c d, c < n ∧ d < 8 ∧ c ≤ d ∧ p c d = true ∧ v = 10 * c + d
  | 0 => by simp [mpre]
  | n + 1 => by
    unfold mpre
    rw [List.mem_append, mpre_mem, mrow_mem]
    constructor
    · rintro (⟨c, d, h1, h2, h3⟩ | ⟨d, h1, h2, h3, h4⟩)
      · exact ⟨c, d, by omega, h2, h3⟩
      · exact ⟨n, d, by omega, h1, h2, h3, h4⟩
    · rintro ⟨c, d, h1, h2, h3, h4, h5⟩
      by_cases he : c = n
      · subst he
        exact Or.inr ⟨d, h2, h3, h4, h5⟩
      · exact Or.inl ⟨c, d, by omega, h2, h3, h4, h5⟩
theorem mls_len (f : Nat → Nat) (c S W H : Nat) : (mls f c S W H).length ≤ 36 := Nat.le_trans (mpre_len _ 8) (by decide)
def tkb (v : Nat) : Nat := 2 ^ (v / 10) ||| 2 ^ (v % 10)
/-- one step of the greedy way: all free curls, or the first move -/
def lstep (f : Nat → Nat) (c W H S : Nat) : Nat := ndiff S (if ndiff (cls f c S W) H ≠ 0 then ndiff (cls f c S W) H else tkb (fn (mls f c S W H) 0))
def lft (f : Nat → Nat) (c W H : Nat) : Nat → Nat → Nat
  | 0, S => S
  | n + 1, S => if mls f c S W H = [] then S else lft f c W H n (lstep f c W H S)
theorem mls_0 {f : Nat → Nat} {c S W H : Nat} (h : mls f c S W H ≠ []) : ∃ a b, a < 8 ∧ b < 8 ∧ a ≤ b ∧ fn (mls f c S W H) 0 = 10 * a + b ∧ 10 * a + b ∈ mls f c S W H := by
  cases hm : mls f c S W H with
  | nil => exact absurd hm h
  | cons v l =>
    have hv : v ∈ mls f c S W H := by rw [hm]; exact List.mem_cons_self
    obtain ⟨a, b, h1, h2, h3, h4, h5⟩ := mpre_mem.mp hv
    subst h5
    exact ⟨a, b, h1, h2, h3, by simp [fn], List.mem_cons_self⟩
theorem lstep_le (f : Nat → Nat) (c W H S : Nat) : lstep f c W H S ≤ S := ndiff_le _ _
theorem x_leftOf (j c s S W H : Nat) (f : Nat → Nat) (h : HH) (hR : RP j c f s h) (hS : S < 2 ^ 31) (hW : W < 2 ^ 31) (hH : H < 2 ^ 31) :
    Sp mX3_leftOf [vr 17 0, vr 5 j, vi S, vi W, vi H] h (fun r g => r = some (vi (lft f c W H 8 S)) ∧ Fr tml [] h g) := by
  refine Sp.of rfl kX3_leftOf (Nat.le_of_ble_eq_true rfl) ?_
  have L : ∀ (m n S : Nat) (g : HH) (lv5 : S < 2 ^ 31), n + m = 8 → Fr tml [] h g → ∀ S0 : Nat, AW mX3_leftOf (fun r g => r = some (vi (lft f c W H m S)) ∧ Fr tml [] h g) 6 [(0, vr 17 0), (1, vr 5 j), (2, vi S0), (3, vi W), (4, vi H), (5, vi S), (6, vi n)] [] g := by
    intro m
    induction m with
    | zero =>
      intro n S g hS hn hF S0
      refine u_iload (k := 4) rfl rfl ?_
      refine a_bipush (k := 5) rfl ?_
      refine a_icmp_ge (k := 6) rfl (fun c_10 => ?_) (fun c_10 => ?_)
      · refine u_iload (k := 40) rfl rfl ?_
        refine a_ireturn (k := 41) rfl rfl ?_
        exact ⟨rfl, hF⟩
      · omega
    | succ m ih =>
      intro n S g hS hn hF S0
      have hR' : RP j c f s g := hR.fr hF (by simp [tml]) (by simp [tml]) (by simp) (by simp)
      have c8 : cls f c S W < 2 ^ 8 := nk_lt (Lr_lt hR.2.2.2.2.2) _
      have d8 := ndiff_le (cls f c S W) H
      have ls := lstep_le f c W H S
      refine u_iload (k := 4) rfl rfl ?_
      refine a_bipush (k := 5) rfl ?_
      refine a_icmp_ge (k := 6) rfl (fun c_10 => ?_) (fun c_10 => ?_)
      · omega
      · refine u_aloadn (k := 7) rfl rfl ?_
        refine u_aloadn (k := 8) rfl rfl ?_
        refine u_iload (k := 9) rfl rfl ?_
        refine u_iloadn (k := 10) rfl rfl ?_
        refine u_iload (k := 11) rfl rfl ?_
        refine uv_virt4 (M' := mX3_lookAt) (k := 12) rfl lRX3_34 oX3_lookAt vX3_lookAt ⟨Nat.le_of_ble_eq_true rfl, Nat.le_of_ble_eq_true rfl⟩ rfl rfl (Nat.le_of_ble_eq_true rfl) (x_lookAt j c s S W H f g hR' hS hW hH) (by intro r g hp; exact hp.1) (fun g1 hg1 => ?_)
        obtain ⟨-, ⟨b1, b2⟩, b3⟩ := hg1; have bl := b1.1
        refine u_aloadn (k := 13) rfl rfl ?_
        refine a_geti (k := 14) rfl fRX3_49 rfl rfl ?_
        refine a_if_ne (k := 15) rfl (fun c_27 => ?_) (fun c_27 => ?_)
        · have hm : ¬ mls f c S W H = [] := fun z => by rw [z] at bl; simp at bl; omega
          obtain ⟨a, b, ha, hb, hab, hv, -⟩ := mls_0 hm
          have hpos : 0 < (mls f c S W H).length := List.length_pos_iff.mpr hm
          have el : lft f c W H (m + 1) S = lft f c W H m (lstep f c W H S) := by simp [lft, hm]
          have pt : 2 ^ a ||| 2 ^ b < 2 ^ 31 := Nat.or_lt_two_pow (Nat.pow_lt_pow_right (by omega) (by omega)) (Nat.pow_lt_pow_right (by omega) (by omega))
          refine u_aloadn (k := 17) rfl rfl ?_
          refine a_geti (k := 18) rfl fRX3_52 rfl rfl ?_
          refine u_iload (k := 19) rfl rfl ?_
          refine a_iconst (k := 20) rfl ?_
          refine a_ixor (k := 21) rfl ?_
          refine a_iand (k := 22) rfl ?_
          rw [b2, iandn_nat (by omega) hH]
          refine a_istore (k := 23) (lv' := [(7, _), (0, _), (1, _), (2, _), (3, _), (4, _), (5, _), (6, _)]) rfl (Nat.le_of_ble_eq_true rfl) rfl ?_
          refine u_iload (k := 24) rfl rfl ?_
          refine u_iload (k := 25) rfl rfl ?_
          refine a_if_eq (k := 26) rfl (fun c_48 => ?_) (fun c_48 => ?_)
          · refine u_aloadn (k := 29) rfl rfl ?_
            refine a_getr (k := 30) rfl fRX3_21 rfl rfl rfl ?_
            refine a_iconst (k := 31) rfl ?_
            refine u_ialdx 0 (k := 32) rfl rfl rfl (by omega) (by omega) ?_
            rw [b1.2 0 hpos, hv]
            refine i_statN1 (M' := mX10_takenBy) (k := 33) rfl lRX3_55 oX10_takenBy vX10_takenBy ⟨Nat.le_of_ble_eq_true rfl, Nat.le_of_ble_eq_true rfl⟩ rfl (Nat.le_of_ble_eq_true rfl) (x_takenBy a b g1 ha hb) ?_
            refine a_iconst (k := 34) rfl ?_
            refine a_ixor (k := 35) rfl ?_
            refine a_iand (k := 36) rfl ?_
            first | rw [iandn_nat hS (by omega)] | rw [iandn_nat hS pt]
            refine a_istore (k := 37) (lv' := [(5, _), (7, _), (0, _), (1, _), (2, _), (3, _), (4, _), (6, _)]) rfl (Nat.le_of_ble_eq_true rfl) rfl ?_
            refine u_iinc (k := 38) (lv' := [(6, _), (5, _), (7, _), (0, _), (1, _), (2, _), (3, _), (4, _)]) rfl rfl (Nat.le_of_ble_eq_true rfl) (by omega) rfl ?_
            refine a_goto (k := 39) rfl ?_
            refine a_sub [3, 4, 5, 6, 7, 1, 0] rfl ?_
            rw [el]
            first
              | (have es : lstep f c W H S = ndiff S (ndiff (cls f c S W) H) := by rw [lstep, if_pos (by omega)]
                 rw [← es]; exact ih (n + 1) _ g1 (by omega) (by omega) (hF.tr b3 (fun q hq => hq) (by simp)) S0)
              | (have es : lstep f c W H S = ndiff S (2 ^ a ||| 2 ^ b) := by rw [lstep, if_neg (by omega), hv, tkb, show (10 * a + b) / 10 = a by omega, show (10 * a + b) % 10 = b by omega]
                 rw [← es]; exact ih (n + 1) _ g1 (by omega) (by omega) (hF.tr b3 (fun q hq => hq) (by simp)) S0)
          · refine u_iload (k := 27) rfl rfl ?_
            refine a_goto (k := 28) rfl ?_
            refine a_iconst (k := 34) rfl ?_
            refine a_ixor (k := 35) rfl ?_
            refine a_iand (k := 36) rfl ?_
            first | rw [iandn_nat hS (by omega)] | rw [iandn_nat hS pt]
            refine a_istore (k := 37) (lv' := [(5, _), (7, _), (0, _), (1, _), (2, _), (3, _), (4, _), (6, _)]) rfl (Nat.le_of_ble_eq_true rfl) rfl ?_
            refine u_iinc (k := 38) (lv' := [(6, _), (5, _), (7, _), (0, _), (1, _), (2, _), (3, _), (4, _)]) rfl rfl (Nat.le_of_ble_eq_true rfl) (by omega) rfl ?_
            refine a_goto (k := 39) rfl ?_
            refine a_sub [3, 4, 5, 6, 7, 1, 0] rfl ?_
            rw [el]
            first
              | (have es : lstep f c W H S = ndiff S (ndiff (cls f c S W) H) := by rw [lstep, if_pos (by omega)]
                 rw [← es]; exact ih (n + 1) _ g1 (by omega) (by omega) (hF.tr b3 (fun q hq => hq) (by simp)) S0)
              | (have es : lstep f c W H S = ndiff S (2 ^ a ||| 2 ^ b) := by rw [lstep, if_neg (by omega), hv, tkb, show (10 * a + b) / 10 = a by omega, show (10 * a + b) % 10 = b by omega]
                 rw [← es]; exact ih (n + 1) _ g1 (by omega) (by omega) (hF.tr b3 (fun q hq => hq) (by simp)) S0)
        · have hm : mls f c S W H = [] := List.eq_nil_of_length_eq_zero (by omega)
          refine a_goto (k := 16) rfl ?_
          refine u_iload (k := 40) rfl rfl ?_
          refine a_ireturn (k := 41) rfl rfl ?_
          exact ⟨by simp [lft, hm], hF.tr b3 (fun q hq => hq) (by simp)⟩
  refine u_iloadn (k := 0) rfl rfl ?_
  refine a_istore (k := 1) (lv' := [(5, _), (0, _), (1, _), (2, _), (3, _), (4, _)]) rfl (Nat.le_of_ble_eq_true rfl) rfl ?_
  refine a_iconst (k := 2) rfl ?_
  refine a_istore (k := 3) (lv' := [(6, _), (5, _), (0, _), (1, _), (2, _), (3, _), (4, _)]) rfl (Nat.le_of_ble_eq_true rfl) rfl ?_
  refine a_sub [2, 3, 4, 5, 6, 1, 0] rfl ?_
  exact L 8 0 S h hS (by omega) Fr.rf S
def lbc (f : Nat → Nat) (c : Nat) : Nat → Nat → Nat
  | 0, S => S
  | n + 1, S => lbc f c n (ndiff S (cls f c S 0))
theorem x_leftByCurls (j c s : Nat) (f : Nat → Nat) (h : HH) (hR : RP j c f s h) :
    Sp mX3_leftByCurls [vr 17 0, vr 5 j] h (fun r g => r = some (vi (lbc f c 8 (2 ^ c - 1))) ∧ Fr tml [] h g) := by
  refine Sp.of rfl kX3_leftByCurls (Nat.le_of_ble_eq_true rfl) ?_
  have hq : 2 ^ c ≤ 2 ^ 8 := Nat.pow_le_pow_right (by omega) hR.2.1
  have L : ∀ (m n S : Nat) (g : HH) (lv5 : S < 2 ^ 31), n + m = 8 → Fr tml [] h g → AW mX3_leftByCurls (fun r g => r = some (vi (lbc f c m S)) ∧ Fr tml [] h g) 7 [(0, vr 17 0), (1, vr 5 j), (2, vi S), (3, vi n)] [] g := by
    intro m
    induction m with
    | zero =>
      intro n S g hS hn hF
      refine u_iloadn (k := 5) rfl rfl ?_
      refine a_bipush (k := 6) rfl ?_
      refine a_icmp_ge (k := 7) rfl (fun c_10 => ?_) (fun c_10 => ?_)
      · refine u_iloadn (k := 24) rfl rfl ?_
        refine a_ireturn (k := 25) rfl rfl ?_
        exact ⟨rfl, hF⟩
      · omega
    | succ m ih =>
      intro n S g hS hn hF
      have hR' : RP j c f s g := hR.fr hF (by simp [tml]) (by simp [tml]) (by simp) (by simp)
      obtain ⟨r1, r2, r3, r4, r5, r6⟩ := hR'
      have c8 : cls f c S 0 < 2 ^ 8 := nk_lt (Lr_lt r6) _
      have hl := Lr_len f c S 0
      have dl := ndiff_le S (cls f c S 0)
      refine u_iloadn (k := 5) rfl rfl ?_
      refine a_bipush (k := 6) rfl ?_
      refine a_icmp_ge (k := 7) rfl (fun c_10 => ?_) (fun c_10 => ?_)
      · omega
      · refine u_aloadn (k := 8) rfl rfl ?_
        refine u_aloadn (k := 9) rfl rfl ?_
        refine u_aloadn (k := 10) rfl rfl ?_
        refine u_iloadn (k := 11) rfl rfl ?_
        refine a_iconst (k := 12) rfl ?_
        refine ui_virt3 (M' := mX3_takeRow) (k := 13) rfl lRX3_38 oX3_takeRow vX3_takeRow ⟨Nat.le_of_ble_eq_true rfl, Nat.le_of_ble_eq_true rfl⟩ rfl rfl (Nat.le_of_ble_eq_true rfl) (x_takeRow j c S 0 f g r1 r2 r5 r6 hS (by omega)) (by intro r g hp; exact ⟨_, hp.1⟩) (fun r g1 hg1 => ?_)
        obtain ⟨e1, b1, b2⟩ := hg1; cases e1
        refine uv_virt1 (M' := mX3_seeNeighbours) (k := 14) rfl lRX3_42 oX3_seeNeighbours vX3_seeNeighbours ⟨Nat.le_of_ble_eq_true rfl, Nat.le_of_ble_eq_true rfl⟩ rfl rfl (Nat.le_of_ble_eq_true rfl) (x_seeN (Lr f c S 0) g1 (by omega) b1 (Lr_lt r6)) (by intro r g hp; exact hp.1) (fun g2 hg2 => ?_)
        obtain ⟨-, b3, b4⟩ := hg2; have b5 : g2 17 0 4 = (cls f c S 0 : Int) := b3.1
        refine u_iloadn (k := 15) rfl rfl ?_
        refine u_aloadn (k := 16) rfl rfl ?_
        refine a_geti (k := 17) rfl fRX3_52 rfl rfl ?_
        refine a_iconst (k := 18) rfl ?_
        refine a_ixor (k := 19) rfl ?_
        refine a_iand (k := 20) rfl ?_
        rw [b5, iandn_nat hS (by omega)]
        refine a_istoren (k := 21) (lv' := [(2, _), (0, _), (1, _), (3, _)]) rfl (Nat.le_of_ble_eq_true rfl) rfl ?_
        refine u_iinc (k := 22) (lv' := [(3, _), (2, _), (0, _), (1, _)]) rfl rfl (Nat.le_of_ble_eq_true rfl) (by omega) rfl ?_
        refine a_goto (k := 23) rfl ?_
        refine a_sub [2, 3, 1, 0] rfl ?_
        exact ih (n + 1) _ g2 (by omega) (by omega) ((hF.tr b2 (by simp [tml]) (by simp)).tr b4 (by simp [tml]) (by simp [tml]))
  refine u_aloadn (k := 0) rfl rfl ?_
  refine i_virt0 (M' := mX6_everyCrossing) (k := 1) rfl lRX3_24 oX6_everyCrossing vX6_everyCrossing ⟨Nat.le_of_ble_eq_true rfl, Nat.le_of_ble_eq_true rfl⟩ rfl rfl (Nat.le_of_ble_eq_true rfl) (x_every j c h hR.1 hR.2.1) ?_
  refine a_istoren (k := 2) (lv' := [(2, _), (0, _), (1, _)]) rfl (Nat.le_of_ble_eq_true rfl) rfl ?_
  refine a_iconst (k := 3) rfl ?_
  refine a_istoren (k := 4) (lv' := [(3, _), (2, _), (0, _), (1, _)]) rfl (Nat.le_of_ble_eq_true rfl) rfl ?_
  refine a_sub [2, 3, 1, 0] rfl ?_
  exact L 8 0 _ h (by omega) (by omega) Fr.rf
