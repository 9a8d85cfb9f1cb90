theorem pct_all : ∀ c, c < 9 → pct (2 ^ c - 1) 8 = c := by decide
theorem pc_8 {S : Nat} (h : S < 256) : pc_ S = pct S 8 := pct_up (k := 8) h 24
def pkw (w : WT) (i : Int) : Int := if i = 0 then w.2.1 else if i = 1 then w.2.2.1 else if i = 2 then (w.1 : Int) else w.2.2.2
theorem m_shaken (c s H : Nat) (i : Int) (G : Nat → Nat) (h : HH) (h8 : c ≤ 8) (hV : VT c G) (hR : RW (2 * c) G s h) (hH : H < 2 ^ 31) :
    Sp mX11_shaken [vr 40 0, vi H, vi i] h (fun z g => z = some (vi (pkw (r_try (c, H, G) (fun _ => 0)) i)) ∧ Fr tsk ksk h g) := by
  have hp : 0 < 2 ^ c := Nat.pow_pos (by omega)
  have hq8 : 2 ^ c ≤ 256 := Nat.pow_le_pow_right (n := 2) (by omega) h8
  have hwf : r_try (c, H, G) (fun _ => 0) = wta (fta G c H (2 ^ c - 1) (2 ^ c) (x00 (2 ^ c - 1) (h 55 0))) (2 ^ c) (0, (c : Int), 0, -1) := by
    rw [r_try_B (c, H, G) (fun _ => 0) (h 55 0)]
    exact ta_wta
  generalize hWF : r_try (c, H, G) (fun _ => 0) = WF at hwf ⊢
  have hx0 : FO (fta G c H (2 ^ c - 1) (2 ^ c) (x00 (2 ^ c - 1) (h 55 0))) := (FO_00 (by omega)).fta (by omega)
  have hxa : (fta G c H (2 ^ c - 1) (2 ^ c) (x00 (2 ^ c - 1) (h 55 0))).1 (2 ^ c - 1) = 0 ∧ (fta G c H (2 ^ c - 1) (2 ^ c) (x00 (2 ^ c - 1) (h 55 0))).2 (2 ^ c - 1) = -1 := by
    have e : fta G c H (2 ^ c - 1) (2 ^ c) (x00 (2 ^ c - 1) (h 55 0)) = fta G c H (2 ^ c - 1) (2 ^ c - 1) (fstep G c H (2 ^ c - 1) (2 ^ c - 1) (x00 (2 ^ c - 1) (h 55 0))) := by
      conv => lhs; rw [show 2 ^ c = (2 ^ c - 1) + 1 by omega]
      rw [show 2 ^ c - 1 + 1 - 1 = 2 ^ c - 1 by omega]
      rfl
    rw [e, (fta_T (Nat.le_refl _)).1, (fta_T (Nat.le_refl _)).2, (fstep_T (Nat.le_refl _)).1, (fstep_T (Nat.le_refl _)).2]
    unfold x00 ui
    dsimp only
    rw [if_pos rfl, if_pos rfl]
    exact ⟨rfl, rfl⟩
  refine Sp.of rfl kX11_shaken (Nat.le_of_ble_eq_true rfl) ?_
  have Lp : ∀ (XF : FB) (g : HH), FO XF → HM c XF g → Fr tsk ksk h g → ∀ (k many best : Nat), k ≤ 2 ^ c → best < 2 ^ c → many + k ≤ 256 → wta XF k (many, (pct best 8 : Int), XF.1 best, XF.2 best) = WF → AW mX11_shaken (fun z g => z = some (vi (pkw WF i)) ∧ Fr tsk ksk h g) 25 [(6, vi ((k : Int) - 1)), (5, vi many), (4, vi best), (3, vi ((2 ^ c - 1 : Nat) : Int)), (0, vr 40 0), (1, vi H), (2, vi i)] [] g := by
    intro XF g hO hM hF k
    induction k with
    | zero =>
      intro many best hk hb hm hw
      have hw : ((many, (pct best 8 : Int), XF.1 best, XF.2 best) : WT) = WF := hw
      have hb2 := hM best hb
      refine u_iload (k := 18) rfl rfl ?_
      refine a_if_lt (k := 19) rfl (fun c_27 => ?_) (fun c_27 => ?_)
      · refine u_iloadn (k := 75) rfl rfl ?_
        refine a_if_ne (k := 76) rfl (fun c_148 => ?_) (fun c_148 => ?_)
        · refine u_iloadn (k := 80) rfl rfl ?_
          refine a_iconst (k := 81) rfl ?_
          refine a_icmp_ne (k := 82) rfl (fun c_161 => ?_) (fun c_161 => ?_)
          · refine u_iloadn (k := 88) rfl rfl ?_
            refine a_iconst (k := 89) rfl ?_
            refine a_icmp_ne (k := 90) rfl (fun c_176 => ?_) (fun c_176 => ?_)
            · refine u_aloadn (k := 93) rfl rfl ?_
              refine a_getr (k := 94) rfl fRX11_57 rfl rfl rfl ?_
              refine u_iload (k := 95) rfl rfl ?_
              refine u_iald (k := 96) rfl rfl rfl (by omega) ?_
              first | rw [hb2.2] | skip
              refine a_ireturn (k := 97) rfl rfl ?_
              refine ⟨?_, hF⟩
              rw [← hw]
              unfold pkw
              dsimp only
              first
                | (rw [if_pos (by omega)]; done)
                | (rw [if_neg (by omega), if_pos (by omega)]; done)
                | (rw [if_neg (by omega), if_neg (by omega), if_pos (by omega)]; done)
                | (rw [if_neg (by omega), if_neg (by omega), if_neg (by omega)]; done)
            · refine u_iload (k := 91) rfl rfl ?_
              refine a_goto (k := 92) rfl ?_
              first | rw [hb2.2] | skip
              refine a_ireturn (k := 97) rfl rfl ?_
              refine ⟨?_, hF⟩
              rw [← hw]
              unfold pkw
              dsimp only
              first
                | (rw [if_pos (by omega)]; done)
                | (rw [if_neg (by omega), if_pos (by omega)]; done)
                | (rw [if_neg (by omega), if_neg (by omega), if_pos (by omega)]; done)
                | (rw [if_neg (by omega), if_neg (by omega), if_neg (by omega)]; done)
          · refine u_aloadn (k := 83) rfl rfl ?_
            refine a_getr (k := 84) rfl fRX11_54 rfl rfl rfl ?_
            refine u_iload (k := 85) rfl rfl ?_
            refine u_iald (k := 86) rfl rfl rfl (by omega) ?_
            rw [hb2.1]
            refine a_goto (k := 87) rfl ?_
            first | rw [hb2.2] | skip
            refine a_ireturn (k := 97) rfl rfl ?_
            refine ⟨?_, hF⟩
            rw [← hw]
            unfold pkw
            dsimp only
            first
              | (rw [if_pos (by omega)]; done)
              | (rw [if_neg (by omega), if_pos (by omega)]; done)
              | (rw [if_neg (by omega), if_neg (by omega), if_pos (by omega)]; done)
              | (rw [if_neg (by omega), if_neg (by omega), if_neg (by omega)]; done)
        · refine u_iload (k := 77) rfl rfl ?_
          refine i_stat1 (M' := mX11_bits) (k := 78) rfl lRX11_203 oX11_bits vX11_bits ⟨Nat.le_of_ble_eq_true rfl, Nat.le_of_ble_eq_true rfl⟩ rfl (Nat.le_of_ble_eq_true rfl) (m_bits best g (by omega)) ?_
          refine a_goto (k := 79) rfl ?_
          first | rw [hb2.2] | skip
          refine a_ireturn (k := 97) rfl rfl ?_
          refine ⟨?_, hF⟩
          rw [← hw]
          unfold pkw
          dsimp only
          first
            | (rw [if_pos (by omega)]; done)
            | (rw [if_neg (by omega), if_pos (by omega)]; done)
            | (rw [if_neg (by omega), if_neg (by omega), if_pos (by omega)]; done)
            | (rw [if_neg (by omega), if_neg (by omega), if_neg (by omega)]; done)
      · omega
    | succ k ih =>
      intro many best hk hb hm hw
      have hv := hM k (by omega)
      have hv2 := hM best hb
      have ho := hO k (by omega)
      have ep := pc_8 (show k < 256 by omega)
      have next : ∀ (many' best' : Nat), best' < 2 ^ c → many' + k ≤ 256 → wta XF k (many', (pct best' 8 : Int), XF.1 best', XF.2 best') = WF → AW mX11_shaken (fun z g => z = some (vi (pkw WF i)) ∧ Fr tsk ksk h g) 141 [(6, vi (k : Int)), (5, vi many'), (4, vi best'), (3, vi ((2 ^ c - 1 : Nat) : Int)), (0, vr 40 0), (1, vi H), (2, vi i)] [] g := by
        intro many' best' h1 h2 h3
        have := ih many' best' (by omega) h1 h2 h3
        refine u_iinc (k := 73) (lv' := [(6, _), (5, _), (4, _), (3, _), (0, _), (1, _), (2, _)]) rfl rfl (Nat.le_of_ble_eq_true rfl) (by omega) rfl ?_
        refine a_goto (k := 74) rfl ?_
        rw [show ((k : Int) + -1) = (k : Int) - 1 by omega]
        exact this
      by_cases hvis : XF.1 k = -1
      · refine u_iload (k := 18) rfl rfl ?_
        refine a_if_lt (k := 19) rfl (fun c_27 => ?_) (fun c_27 => ?_)
        · omega
        · refine u_aloadn (k := 20) rfl rfl ?_
          refine a_getr (k := 21) rfl fRX11_54 rfl rfl rfl ?_
          refine u_iload (k := 22) rfl rfl ?_
          refine u_ialdx k (k := 23) rfl rfl rfl (by omega) (by omega) ?_
          refine a_if_lt (k := 24) rfl (fun c_37 => ?_) (fun c_37 => ?_)
          · rw [show (((k + 1 : Nat) : Int) - 1) = (k : Int) by omega]
            exact next many best hb (by omega) (by rw [← hw, wta_n hvis])
          · omega
      · have hw2 : wta XF k (wg XF k (many + 1, (pct best 8 : Int), XF.1 best, XF.2 best)) = WF := by rw [← hw, wta_p hvis]
        have T125 : ∀ v : Int, ((v = 1 ∧ lx3 (pc_ k) (XF.1 k) (XF.2 k) (many + 1, (pct best 8 : Int), XF.1 best, XF.2 best)) ∨ (v = 0 ∧ ¬ lx3 (pc_ k) (XF.1 k) (XF.2 k) (many + 1, (pct best 8 : Int), XF.1 best, XF.2 best))) → AW mX11_shaken (fun z g => z = some (vi (pkw WF i)) ∧ Fr tsk ksk h g) 125 [(5, vi ((many : Int) + 1)), (6, vi (k : Int)), (4, vi best), (3, vi ((2 ^ c - 1 : Nat) : Int)), (0, vr 40 0), (1, vi H), (2, vi i)] [vi v] g := by
          intro v hv
          rcases hv with ⟨rfl, hl⟩ | ⟨rfl, hl⟩
          · rw [wg_p hl, ep] at hw2
            refine a_istore (k := 66) (lv' := [(7, _), (5, _), (6, _), (4, _), (3, _), (0, _), (1, _), (2, _)]) rfl (Nat.le_of_ble_eq_true rfl) rfl ?_
            refine u_iload (k := 67) rfl rfl ?_
            refine a_if_eq (k := 68) rfl (fun c_129 => ?_) (fun c_129 => ?_)
            · exact absurd c_129 (by decide)
            · refine u_iload (k := 69) rfl rfl ?_
              refine a_goto (k := 70) rfl ?_
              refine a_istore (k := 72) (lv' := [(4, _), (7, _), (5, _), (6, _), (3, _), (0, _), (1, _), (2, _)]) rfl (Nat.le_of_ble_eq_true rfl) rfl ?_
              refine a_sub [3, 2, 0, 4, 5, 6, 7] rfl ?_
              exact next (many + 1) k (by omega) (by omega) hw2
          · rw [wg_n hl] at hw2
            refine a_istore (k := 66) (lv' := [(7, _), (5, _), (6, _), (4, _), (3, _), (0, _), (1, _), (2, _)]) rfl (Nat.le_of_ble_eq_true rfl) rfl ?_
            refine u_iload (k := 67) rfl rfl ?_
            refine a_if_eq (k := 68) rfl (fun c_129 => ?_) (fun c_129 => ?_)
            · refine u_iload (k := 71) rfl rfl ?_
              refine a_istore (k := 72) (lv' := [(4, _), (7, _), (5, _), (6, _), (3, _), (0, _), (1, _), (2, _)]) rfl (Nat.le_of_ble_eq_true rfl) rfl ?_
              refine a_sub [3, 2, 0, 4, 5, 6, 7] rfl ?_
              exact next (many + 1) best hb (by omega) hw2
            · exact absurd rfl c_129
        refine u_iload (k := 18) rfl rfl ?_
        refine a_if_lt (k := 19) rfl (fun c_27 => ?_) (fun c_27 => ?_)
        · omega
        · refine u_aloadn (k := 20) rfl rfl ?_
          refine a_getr (k := 21) rfl fRX11_54 rfl rfl rfl ?_
          refine u_iload (k := 22) rfl rfl ?_
          refine u_ialdx k (k := 23) rfl rfl rfl (by omega) (by omega) ?_
          refine a_if_lt (k := 24) rfl (fun c_37 => ?_) (fun c_37 => ?_)
          · omega
          · refine u_iinc (k := 25) (lv' := [(5, _), (6, _), (4, _), (3, _), (0, _), (1, _), (2, _)]) rfl rfl (Nat.le_of_ble_eq_true rfl) (by omega) rfl ?_
            refine u_iload (k := 26) rfl rfl ?_
            rw [show (((k + 1 : Nat) : Int) - 1) = (k : Int) by omega]
            refine i_stat1 (M' := mX11_bits) (k := 27) rfl lRX11_203 oX11_bits vX11_bits ⟨Nat.le_of_ble_eq_true rfl, Nat.le_of_ble_eq_true rfl⟩ rfl (Nat.le_of_ble_eq_true rfl) (m_bits k g (by omega)) ?_
            refine u_iload (k := 28) rfl rfl ?_
            refine i_stat1 (M' := mX11_bits) (k := 29) rfl lRX11_203 oX11_bits vX11_bits ⟨Nat.le_of_ble_eq_true rfl, Nat.le_of_ble_eq_true rfl⟩ rfl (Nat.le_of_ble_eq_true rfl) (m_bits best g (by omega)) ?_
            refine a_icmp_lt (k := 30) rfl (fun c_53 => ?_) (fun c_53 => ?_)
            · refine a_iconst (k := 63) rfl ?_
              refine a_goto (k := 64) rfl ?_
              first
                | exact T125 1 (Or.inl ⟨rfl, by unfold lx3; dsimp only; omega⟩)
                | exact T125 0 (Or.inr ⟨rfl, by unfold lx3; dsimp only; omega⟩)
            · refine u_iload (k := 31) rfl rfl ?_
              refine i_stat1 (M' := mX11_bits) (k := 32) rfl lRX11_203 oX11_bits vX11_bits ⟨Nat.le_of_ble_eq_true rfl, Nat.le_of_ble_eq_true rfl⟩ rfl (Nat.le_of_ble_eq_true rfl) (m_bits k g (by omega)) ?_
              refine u_iload (k := 33) rfl rfl ?_
              refine i_stat1 (M' := mX11_bits) (k := 34) rfl lRX11_203 oX11_bits vX11_bits ⟨Nat.le_of_ble_eq_true rfl, Nat.le_of_ble_eq_true rfl⟩ rfl (Nat.le_of_ble_eq_true rfl) (m_bits best g (by omega)) ?_
              refine a_icmp_ne (k := 35) rfl (fun c_66 => ?_) (fun c_66 => ?_)
              · refine a_iconst (k := 65) rfl ?_
                first
                  | exact T125 1 (Or.inl ⟨rfl, by unfold lx3; dsimp only; omega⟩)
                  | exact T125 0 (Or.inr ⟨rfl, by unfold lx3; dsimp only; omega⟩)
              · refine u_aloadn (k := 36) rfl rfl ?_
                refine a_getr (k := 37) rfl fRX11_54 rfl rfl rfl ?_
                refine u_iload (k := 38) rfl rfl ?_
                refine u_ialdx k (k := 39) rfl rfl rfl (by omega) (by omega) ?_
                refine u_aloadn (k := 40) rfl rfl ?_
                refine a_getr (k := 41) rfl fRX11_54 rfl rfl rfl ?_
                refine u_iload (k := 42) rfl rfl ?_
                refine u_iald (k := 43) rfl rfl rfl (by omega) ?_
                refine a_icmp_lt (k := 44) rfl (fun c_83 => ?_) (fun c_83 => ?_)
                · refine a_iconst (k := 63) rfl ?_
                  refine a_goto (k := 64) rfl ?_
                  first
                    | exact T125 1 (Or.inl ⟨rfl, by unfold lx3; dsimp only; omega⟩)
                    | exact T125 0 (Or.inr ⟨rfl, by unfold lx3; dsimp only; omega⟩)
                · refine u_aloadn (k := 45) rfl rfl ?_
                  refine a_getr (k := 46) rfl fRX11_54 rfl rfl rfl ?_
                  refine u_iload (k := 47) rfl rfl ?_
                  refine u_ialdx k (k := 48) rfl rfl rfl (by omega) (by omega) ?_
                  refine u_aloadn (k := 49) rfl rfl ?_
                  refine a_getr (k := 50) rfl fRX11_54 rfl rfl rfl ?_
                  refine u_iload (k := 51) rfl rfl ?_
                  refine u_iald (k := 52) rfl rfl rfl (by omega) ?_
                  refine a_icmp_ne (k := 53) rfl (fun c_100 => ?_) (fun c_100 => ?_)
                  · refine a_iconst (k := 65) rfl ?_
                    first
                      | exact T125 1 (Or.inl ⟨rfl, by unfold lx3; dsimp only; omega⟩)
                      | exact T125 0 (Or.inr ⟨rfl, by unfold lx3; dsimp only; omega⟩)
                  · refine u_aloadn (k := 54) rfl rfl ?_
                    refine a_getr (k := 55) rfl fRX11_57 rfl rfl rfl ?_
                    refine u_iload (k := 56) rfl rfl ?_
                    refine u_ialdx k (k := 57) rfl rfl rfl (by omega) (by omega) ?_
                    refine u_aloadn (k := 58) rfl rfl ?_
                    refine a_getr (k := 59) rfl fRX11_57 rfl rfl rfl ?_
                    refine u_iload (k := 60) rfl rfl ?_
                    refine u_iald (k := 61) rfl rfl rfl (by omega) ?_
                    refine a_icmp_ge (k := 62) rfl (fun c_117 => ?_) (fun c_117 => ?_)
                    · refine a_iconst (k := 65) rfl ?_
                      first
                        | exact T125 1 (Or.inl ⟨rfl, by unfold lx3; dsimp only; omega⟩)
                        | exact T125 0 (Or.inr ⟨rfl, by unfold lx3; dsimp only; omega⟩)
                    · refine a_iconst (k := 63) rfl ?_
                      refine a_goto (k := 64) rfl ?_
                      first
                        | exact T125 1 (Or.inl ⟨rfl, by unfold lx3; dsimp only; omega⟩)
                        | exact T125 0 (Or.inr ⟨rfl, by unfold lx3; dsimp only; omega⟩)
  refine u_aloadn (k := 0) rfl rfl ?_
  refine u_iloadn (k := 1) rfl rfl ?_
  refine uv_virt1 (M' := mX11_shakes) (k := 2) rfl lRX11_200 oX11_shakes vX11_shakes ⟨Nat.le_of_ble_eq_true rfl, Nat.le_of_ble_eq_true rfl⟩ rfl rfl (Nat.le_of_ble_eq_true rfl) (m_shakes c s H G h h8 hV hR hH) (by intro r g hp; exact hp.1) (fun g hg => ?_)
  obtain ⟨-, hM, hF⟩ := hg
  have h20 : g 40 0 20 = ((2 * c : Nat) : Int) := by rw [hF 40 0 20 (by simp [tsk]) (by simp [ksk])]; exact hR.1
  refine a_iconst (k := 3) rfl ?_
  refine u_aloadn (k := 4) rfl rfl ?_
  refine a_geti (k := 5) rfl fRX11_156 rfl rfl ?_
  refine a_iconst (k := 6) rfl ?_
  rw [h20]
  refine u_idiv (k := 7) rfl (by omega) (by omega) ?_
  rw [show (((2 * c : Nat) : Int) / 2) = (c : Int) by omega]
  refine a_ishl (k := 8) rfl ?_
  refine a_iconst (k := 9) rfl ?_
  rw [shl1 (by omega)]
  refine u_isub (k := 10) rfl (by omega) ?_
  rw [show (((2 ^ c : Nat) : Int) - 1) = ((2 ^ c - 1 : Nat) : Int) by omega]
  refine a_istoren (k := 11) (lv' := [(3, _), (0, _), (1, _), (2, _)]) rfl (Nat.le_of_ble_eq_true rfl) rfl ?_
  refine u_iloadn (k := 12) rfl rfl ?_
  refine a_istore (k := 13) (lv' := [(4, _), (3, _), (0, _), (1, _), (2, _)]) rfl (Nat.le_of_ble_eq_true rfl) rfl ?_
  refine a_iconst (k := 14) rfl ?_
  refine a_istore (k := 15) (lv' := [(5, _), (4, _), (3, _), (0, _), (1, _), (2, _)]) rfl (Nat.le_of_ble_eq_true rfl) rfl ?_
  refine u_iloadn (k := 16) rfl rfl ?_
  refine a_istore (k := 17) (lv' := [(6, _), (5, _), (4, _), (3, _), (0, _), (1, _), (2, _)]) rfl (Nat.le_of_ble_eq_true rfl) rfl ?_
  have := Lp _ g hx0 hM hF (2 ^ c) 0 (2 ^ c - 1) (by omega) (by omega) (by omega) (by rw [pct_all c (by omega), hxa.1, hxa.2]; exact hwf.symm)
  rw [show (((2 ^ c : Nat) : Int) - 1) = ((2 ^ c - 1 : Nat) : Int) by omega] at this
  exact this
theorem tr_cong {f : Nat → Nat} {S S' W : Nat} : ∀ {n : Nat}, (∀ q, q < n → S.testBit (f q / 2) = S'.testBit (f q / 2)) → tr_ f S W n = tr_ f S' W n
  | 0, _ => rfl
  | n + 1, h => by
    unfold tr_
    rw [tr_cong (fun q hq => h q (by omega)), h n (by omega)]
theorem tb_all {c x : Nat} (h : x < c) : (2 ^ c - 1).testBit x = true := by rw [Nat.testBit_two_pow_sub_one, decide_eq_true h]
theorem tr_255 {c n : Nat} {G : Nat → Nat} (hV : VT c G) (h8 : c ≤ 8) (hn : n ≤ 2 * c) : tr_ G 255 0 n = tr_ G (2 ^ c - 1) 0 n := tr_cong (fun q hq => by
  have := hV.1 q (by omega)
  rw [tb_all (by omega), show (255 : Nat) = 2 ^ 8 - 1 from rfl, tb_all (by omega)])
theorem LH.all {c : Nat} {G : Nat → Nat} {g : HH} (hV : VT c G) (h8 : c ≤ 8) (h : LH G 255 (2 * c) g) : LH G (2 ^ c - 1) (2 * c) g := by
  refine ⟨by rw [← tr_255 hV h8 (Nat.le_refl _)]; exact h.1, fun q hq hb => ?_⟩
  have := hV.1 q hq
  have h0 := h.2 q hq (by rw [show (255 : Nat) = 2 ^ 8 - 1 from rfl, tb_all (by omega)])
  rw [tr_255 hV h8 (by omega)] at h0
  exact h0
theorem mm_pfx (p : Nat → Nat → Bool) (m : Nat) : ∀ d, ∃ t, mm p (m + d) = mm p m ++ t
  | 0 => ⟨[], by simp⟩
  | d + 1 => by
    obtain ⟨t, ht⟩ := mm_pfx p m d
    exact ⟨t ++ (if (m + d) / 8 ≤ (m + d) % 8 ∧ p ((m + d) / 8) ((m + d) % 8) = true then [10 * ((m + d) / 8) + (m + d) % 8] else []), by rw [← Nat.add_assoc, mm_s, ht, List.append_assoc]⟩
theorem mm_0 (p : Nat → Nat → Bool) : (mm p 0).length = 0 := rfl
def mvo (l : List Nat) (i : Int) : Int := if i = -1 then (l.length : Int) else if 0 ≤ i ∧ i < (l.length : Int) then (fn l i.toNat : Int) else -1
theorem mm_len (p : Nat → Nat → Bool) : ∀ m, (mm p m).length ≤ m
  | 0 => Nat.le_refl 0
  | m + 1 => by
    have := mm_len p m
    rw [mm_s, List.length_append]
    split
    · rw [List.length_singleton]; omega
    · rw [List.length_nil]; omega
theorem m_moveOf (c s : Nat) (i : Int) (G : Nat → Nat) (h : HH) (h8 : c ≤ 8) (hV : VT c G) (hs : s < 256) (hR : RW (2 * c) G s h) :
    Sp mX11_moveOf [vr 40 0, vi i] h (fun z g => z = some (vi (mvo (mls G c (2 ^ c - 1) 0 s) i)) ∧ Fr [(53, 0), (56, 0), (57, 0)] [(40, 0, 25)] h g) := by
  have hp : 0 < 2 ^ c := Nat.pow_pos (by omega)
  have hq8 : 2 ^ c ≤ 256 := Nat.pow_le_pow_right (n := 2) (by omega) h8
  rw [mls_mm hV (by omega)]
  refine Sp.of rfl kX11_moveOf (Nat.le_of_ble_eq_true rfl) ?_
  have Lp : ∀ (g : HH), LH G (2 ^ c - 1) (2 * c) g → Fr [(53, 0), (56, 0), (57, 0)] [(40, 0, 25)] h g → ∀ (d m : Nat), m + d = 64 → ¬ (0 ≤ i ∧ i < ((mm (rmv G c (2 ^ c - 1) s) m).length : Int)) → AW mX11_moveOf (fun z g => z = some (vi (mvo (mm (rmv G c (2 ^ c - 1) s) 64) i)) ∧ Fr [(53, 0), (56, 0), (57, 0)] [(40, 0, 25)] h g) 23 [(4, vi m), (3, vi ((mm (rmv G c (2 ^ c - 1) s) m).length : Int)), (2, vi ((2 ^ c - 1 : Nat) : Int)), (0, vr 40 0), (1, vi i)] [] g := by
    intro g hL hF d
    have h24 : g 40 0 24 = (s : Int) := by rw [hF 40 0 24 (by simp) (by simp)]; exact hR.2.1
    induction d with
    | zero =>
      intro m hm hno
      have hm : m = 64 := by omega
      subst hm
      refine u_iload (k := 16) rfl rfl ?_
      refine a_bipush (k := 17) rfl ?_
      refine a_icmp_ge (k := 18) rfl (fun c_27 => ?_) (fun c_27 => ?_)
      · refine u_iloadn (k := 54) rfl rfl ?_
        refine a_iconst (k := 55) rfl ?_
        refine a_icmp_ne (k := 56) rfl (fun c_96 => ?_) (fun c_96 => ?_)
        · refine a_iconst (k := 59) rfl ?_
          refine a_ireturn (k := 60) rfl rfl ?_
          refine ⟨?_, hF⟩
          unfold mvo
          first
            | (rw [if_pos (by omega)]; done)
            | (rw [if_neg (by omega), if_neg hno]; done)
        · refine u_iloadn (k := 57) rfl rfl ?_
          refine a_goto (k := 58) rfl ?_
          refine a_ireturn (k := 60) rfl rfl ?_
          refine ⟨?_, hF⟩
          unfold mvo
          first
            | (rw [if_pos (by omega)]; done)
            | (rw [if_neg (by omega), if_neg hno]; done)
      · omega
    | succ d ih =>
      intro m hm hno
      have hms := mm_s (rmv G c (2 ^ c - 1) s) m
      have hl := mm_len (rmv G c (2 ^ c - 1) s) m
      have e8 : ((m : Int) / 8) = ((m / 8 : Nat) : Int) := by omega
      have e9 : ((m : Int) % 8) = ((m % 8 : Nat) : Int) := by omega
      have skip : ¬ (m / 8 ≤ m % 8 ∧ rmv G c (2 ^ c - 1) s (m / 8) (m % 8) = true) → AW mX11_moveOf (fun z g => z = some (vi (mvo (mm (rmv G c (2 ^ c - 1) s) 64) i)) ∧ Fr [(53, 0), (56, 0), (57, 0)] [(40, 0, 25)] h g) 88 [(4, vi m), (3, vi ((mm (rmv G c (2 ^ c - 1) s) m).length : Int)), (2, vi ((2 ^ c - 1 : Nat) : Int)), (0, vr 40 0), (1, vi i)] [] g := by
        intro hn
        rw [if_neg hn, List.append_nil] at hms
        have := ih (m + 1) (by omega) (by rw [hms]; exact hno)
        rw [hms] at this
        refine u_iinc (k := 52) (lv' := [(4, _), (3, _), (2, _), (0, _), (1, _)]) rfl rfl (Nat.le_of_ble_eq_true rfl) (by omega) rfl ?_
        refine a_goto (k := 53) rfl ?_
        exact this
      by_cases hle : m / 8 ≤ m % 8
      · by_cases hmv : rmv G c (2 ^ c - 1) s (m / 8) (m % 8) = true
        · rw [if_pos ⟨hle, hmv⟩] at hms
          have hel : (mm (rmv G c (2 ^ c - 1) s) (m + 1)).length = (mm (rmv G c (2 ^ c - 1) s) m).length + 1 := by rw [hms, List.length_append]; rfl
          refine u_iload (k := 16) rfl rfl ?_
          refine a_bipush (k := 17) rfl ?_
          refine a_icmp_ge (k := 18) rfl (fun c_27 => ?_) (fun c_27 => ?_)
          · omega
          · refine u_iload (k := 19) rfl rfl ?_
            refine a_bipush (k := 20) rfl ?_
            refine u_idiv (k := 21) rfl (by omega) (by omega) ?_
            refine u_iload (k := 22) rfl rfl ?_
            refine a_bipush (k := 23) rfl ?_
            refine u_irem (k := 24) rfl (by omega) (by omega) ?_
            refine a_icmp_gt (k := 25) rfl (fun c_40 => ?_) (fun c_40 => ?_)
            · omega
            · refine u_aloadn (k := 26) rfl rfl ?_
              refine u_iloadn (k := 27) rfl rfl ?_
              refine u_aloadn (k := 28) rfl rfl ?_
              refine a_geti (k := 29) rfl fRX11_159 rfl rfl ?_
              refine u_iload (k := 30) rfl rfl ?_
              refine a_bipush (k := 31) rfl ?_
              refine u_idiv (k := 32) rfl (by omega) (by omega) ?_
              refine u_iload (k := 33) rfl rfl ?_
              refine a_bipush (k := 34) rfl ?_
              refine u_irem (k := 35) rfl (by omega) (by omega) ?_
              rw [h24, e8, e9]
              refine i_virt4 (M' := mX11_isMove) (k := 36) rfl lRX11_188 oX11_isMove vX11_isMove ⟨Nat.le_of_ble_eq_true rfl, Nat.le_of_ble_eq_true rfl⟩ rfl rfl (Nat.le_of_ble_eq_true rfl) (m_move hV h8 hL (by omega) (by omega) (by omega) (by omega)) ?_
              rw [hmv]
              refine a_if_eq (k := 37) rfl (fun c_62 => ?_) (fun c_62 => ?_)
              · exact absurd c_62 (by decide)
              · refine u_iloadn (k := 38) rfl rfl ?_
                refine u_iloadn (k := 39) rfl rfl ?_
                refine a_icmp_ne (k := 40) rfl (fun c_67 => ?_) (fun c_67 => ?_)
                · refine u_iinc (k := 51) (lv' := [(3, _), (4, _), (2, _), (0, _), (1, _)]) rfl rfl (Nat.le_of_ble_eq_true rfl) (by omega) rfl ?_
                  refine u_iinc (k := 52) (lv' := [(4, _), (3, _), (2, _), (0, _), (1, _)]) rfl rfl (Nat.le_of_ble_eq_true rfl) (by omega) rfl ?_
                  refine a_goto (k := 53) rfl ?_
                  have := ih (m + 1) (by omega) (by rw [hel]; omega)
                  rw [hel] at this
                  exact this
                · refine a_bipush (k := 41) rfl ?_
                  refine u_iload (k := 42) rfl rfl ?_
                  refine a_bipush (k := 43) rfl ?_
                  refine u_idiv (k := 44) rfl (by omega) (by omega) ?_
                  refine u_imul (k := 45) rfl (by omega) ?_
                  refine u_iload (k := 46) rfl rfl ?_
                  refine a_bipush (k := 47) rfl ?_
                  refine u_irem (k := 48) rfl (by omega) (by omega) ?_
                  refine u_iadd (k := 49) rfl (by omega) ?_
                  refine a_ireturn (k := 50) rfl rfl ?_
                  refine ⟨?_, hF⟩
                  obtain ⟨t, ht⟩ := mm_pfx (rmv G c (2 ^ c - 1) s) (m + 1) d
                  rw [show m + 1 + d = 64 by omega] at ht
                  have hi : i = ((mm (rmv G c (2 ^ c - 1) s) m).length : Int) := by omega
                  have hfn : fn (mm (rmv G c (2 ^ c - 1) s) 64) (mm (rmv G c (2 ^ c - 1) s) m).length = 10 * (m / 8) + m % 8 := by
                    rw [ht, hms]
                    unfold fn
                    rw [List.getD_eq_getElem?_getD, List.append_assoc, List.getElem?_append_right (Nat.le_refl _)]
                    simp
                  have hle2 : (mm (rmv G c (2 ^ c - 1) s) (m + 1)).length ≤ (mm (rmv G c (2 ^ c - 1) s) 64).length := by rw [ht, List.length_append]; omega
                  unfold mvo
                  rw [if_neg (by omega), if_pos (by omega), hi, Int.toNat_natCast, hfn]
                  congr 2 <;> omega
        · refine u_iload (k := 16) rfl rfl ?_
          refine a_bipush (k := 17) rfl ?_
          refine a_icmp_ge (k := 18) rfl (fun c_27 => ?_) (fun c_27 => ?_)
          · omega
          · refine u_iload (k := 19) rfl rfl ?_
            refine a_bipush (k := 20) rfl ?_
            refine u_idiv (k := 21) rfl (by omega) (by omega) ?_
            refine u_iload (k := 22) rfl rfl ?_
            refine a_bipush (k := 23) rfl ?_
            refine u_irem (k := 24) rfl (by omega) (by omega) ?_
            refine a_icmp_gt (k := 25) rfl (fun c_40 => ?_) (fun c_40 => ?_)
            · omega
            · refine u_aloadn (k := 26) rfl rfl ?_
              refine u_iloadn (k := 27) rfl rfl ?_
              refine u_aloadn (k := 28) rfl rfl ?_
              refine a_geti (k := 29) rfl fRX11_159 rfl rfl ?_
              refine u_iload (k := 30) rfl rfl ?_
              refine a_bipush (k := 31) rfl ?_
              refine u_idiv (k := 32) rfl (by omega) (by omega) ?_
              refine u_iload (k := 33) rfl rfl ?_
              refine a_bipush (k := 34) rfl ?_
              refine u_irem (k := 35) rfl (by omega) (by omega) ?_
              rw [h24, e8, e9]
              refine i_virt4 (M' := mX11_isMove) (k := 36) rfl lRX11_188 oX11_isMove vX11_isMove ⟨Nat.le_of_ble_eq_true rfl, Nat.le_of_ble_eq_true rfl⟩ rfl rfl (Nat.le_of_ble_eq_true rfl) (m_move hV h8 hL (by omega) (by omega) (by omega) (by omega)) ?_
              rw [show rmv G c (2 ^ c - 1) s (m / 8) (m % 8) = false by revert hmv; cases rmv G c (2 ^ c - 1) s (m / 8) (m % 8) <;> simp]
              refine a_if_eq (k := 37) rfl (fun c_62 => ?_) (fun c_62 => ?_)
              · exact skip (fun z => hmv z.2)
              · exact absurd rfl c_62
      · refine u_iload (k := 16) rfl rfl ?_
        refine a_bipush (k := 17) rfl ?_
        refine a_icmp_ge (k := 18) rfl (fun c_27 => ?_) (fun c_27 => ?_)
        · omega
        · refine u_iload (k := 19) rfl rfl ?_
          refine a_bipush (k := 20) rfl ?_
          refine u_idiv (k := 21) rfl (by omega) (by omega) ?_
          refine u_iload (k := 22) rfl rfl ?_
          refine a_bipush (k := 23) rfl ?_
          refine u_irem (k := 24) rfl (by omega) (by omega) ?_
          refine a_icmp_gt (k := 25) rfl (fun c_40 => ?_) (fun c_40 => ?_)
          · exact skip (fun z => hle z.1)
          · omega
  refine u_aloadn (k := 0) rfl rfl ?_
  refine a_sipush (k := 1) rfl ?_
  refine uv_virt1 (M' := mX11_leaves) (k := 2) rfl lRX11_185 oX11_leaves vX11_leaves ⟨Nat.le_of_ble_eq_true rfl, Nat.le_of_ble_eq_true rfl⟩ rfl rfl (Nat.le_of_ble_eq_true rfl) (m_leaves (2 * c) s 255 G h (by omega) (by omega) hR (hV.s h8) hV.2) (by intro r g hp; exact hp.1) (fun g hg => ?_)
  obtain ⟨-, hL, hF⟩ := hg
  have h20 : g 40 0 20 = ((2 * c : Nat) : Int) := by rw [hF 40 0 20 (by simp) (by simp)]; exact hR.1
  refine a_iconst (k := 3) rfl ?_
  refine u_aloadn (k := 4) rfl rfl ?_
  refine a_geti (k := 5) rfl fRX11_156 rfl rfl ?_
  refine a_iconst (k := 6) rfl ?_
  rw [h20]
  refine u_idiv (k := 7) rfl (by omega) (by omega) ?_
  rw [show (((2 * c : Nat) : Int) / 2) = (c : Int) by omega]
  refine a_ishl (k := 8) rfl ?_
  refine a_iconst (k := 9) rfl ?_
  rw [shl1 (by omega)]
  refine u_isub (k := 10) rfl (by omega) ?_
  rw [show (((2 ^ c : Nat) : Int) - 1) = ((2 ^ c - 1 : Nat) : Int) by omega]
  refine a_istoren (k := 11) (lv' := [(2, _), (0, _), (1, _)]) rfl (Nat.le_of_ble_eq_true rfl) rfl ?_
  refine a_iconst (k := 12) rfl ?_
  refine a_istoren (k := 13) (lv' := [(3, _), (2, _), (0, _), (1, _)]) rfl (Nat.le_of_ble_eq_true rfl) rfl ?_
  refine a_iconst (k := 14) rfl ?_
  refine a_istore (k := 15) (lv' := [(4, _), (3, _), (2, _), (0, _), (1, _)]) rfl (Nat.le_of_ble_eq_true rfl) rfl ?_
  exact Lp g (hL.all hV h8) hF 64 0 (by omega) (by rw [mm_0]; omega)
