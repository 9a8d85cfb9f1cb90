noncomputable def AS.outs2 (σ : AS) : Nat := setT (fun k => decide ((r_try (σ.now.2.2 k) (fun _ => 0)).2.1 = 0)) σ.now.1
noncomputable def t_told (σ : AS) (w : Int) : Int := if w = 0 then (σ.now.1 : Int) else if w = 1 then (σ.L : Int) else if w = 2 then (σ.now.2.1 : Int) else if w = 3 then (σ.csum : Int) else if w = 4 then (sumT σ.now.1 (fun k => pc_ (σ.now.2.2 k).2.1) : Int) else if w = 5 then (setT (fun k => decide ((σ.now.2.2 k).1 = 0)) σ.now.1 : Int) else if w = 6 then (σ.outs2 : Int) else if w = 7 then (σ.ents : Int) else if w = 8 then (σ.cnt : Int) else OUT
theorem sumT_le {C : Nat → Nat} {b : Nat} : ∀ {n : Nat}, (∀ k, k < n → C k ≤ b) → sumT n C ≤ b * n
  | 0, _ => Nat.zero_le _
  | n + 1, h => by
    have h1 := sumT_le (C := C) (b := b) (n := n) (fun k hk => h k (by omega))
    have h2 := h n (by omega)
    show sumT n C + C n ≤ b * (n + 1)
    rw [Nat.mul_add]
    omega
theorem m_told {B : Nat} {σ : AS} {h : HH} (hW : WA B σ) (hM : MR σ h) (w : Int) : Sp mX11_told [vr 40 0, vi w] h (MP (t_told σ w, σ) h) := by
  have h5 := hW.now.1
  have hcnt := hW.cnt
  have hent := hW.ents
  by_cases hw : 0 ≤ w ∧ w ≤ 8
  · have hw0 := hw
    refine Sp.of rfl kX11_told (Nat.le_of_ble_eq_true rfl) ?_
    have fin : ∀ g : HH, MR σ g → FMo h g → ∀ k : Int, AW mX11_told (MP (t_told σ w, σ) h) 132 [(6, vi k), (5, vi (if w = 6 then (σ.outs2 : Int) else 0)), (4, vi (setT (fun k => decide ((σ.now.2.2 k).1 = 0)) σ.now.1 : Int)), (3, vi (sumT σ.now.1 (fun k => pc_ (σ.now.2.2 k).2.1) : Int)), (2, vi (σ.csum : Int)), (0, vr 40 0), (1, vi w)] [] g := by
      intro g hM2 hfm k
      have f41 : g 41 0 1 = (σ.now.1 : Int) := hM2.now.2.1
      have f40 : g 41 0 0 = (σ.now.2.1 : Int) := hM2.now.1
      refine u_iloadn (k := 76) rfl rfl ?_
      refine a_if_ne (k := 77) rfl (fun c_133 => ?_) (fun c_133 => ?_)
      · refine u_iloadn (k := 83) rfl rfl ?_
        refine a_iconst (k := 84) rfl ?_
        refine a_icmp_ne (k := 85) rfl (fun c_147 => ?_) (fun c_147 => ?_)
        · refine u_iloadn (k := 89) rfl rfl ?_
          refine a_iconst (k := 90) rfl ?_
          refine a_icmp_ne (k := 91) rfl (fun c_159 => ?_) (fun c_159 => ?_)
          · refine u_iloadn (k := 97) rfl rfl ?_
            refine a_iconst (k := 98) rfl ?_
            refine a_icmp_ne (k := 99) rfl (fun c_173 => ?_) (fun c_173 => ?_)
            · refine u_iloadn (k := 102) rfl rfl ?_
              refine a_iconst (k := 103) rfl ?_
              refine a_icmp_ne (k := 104) rfl (fun c_182 => ?_) (fun c_182 => ?_)
              · refine u_iloadn (k := 107) rfl rfl ?_
                refine a_iconst (k := 108) rfl ?_
                refine a_icmp_ne (k := 109) rfl (fun c_191 => ?_) (fun c_191 => ?_)
                · refine u_iloadn (k := 112) rfl rfl ?_
                  refine a_bipush (k := 113) rfl ?_
                  refine a_icmp_ne (k := 114) rfl (fun c_202 => ?_) (fun c_202 => ?_)
                  · refine u_iloadn (k := 117) rfl rfl ?_
                    refine a_bipush (k := 118) rfl ?_
                    refine a_icmp_ne (k := 119) rfl (fun c_213 => ?_) (fun c_213 => ?_)
                    · refine u_aloadn (k := 123) rfl rfl ?_
                      refine a_geti (k := 124) rfl fRX11_166 rfl rfl ?_
                      refine a_ireturn (k := 125) rfl rfl ?_
                      refine ⟨?_, hM2, hfm⟩
                      unfold t_told
                      dsimp only
                      first
                        | (rw [if_pos (by omega), f41]; done)
                        | (rw [if_neg (by omega), if_pos (by omega), hM2.L]; done)
                        | (rw [if_neg (by omega), if_neg (by omega), if_pos (by omega), f40]; done)
                        | (rw [if_neg (by omega), if_neg (by omega), if_neg (by omega), if_pos (by omega)]; done)
                        | (rw [if_neg (by omega), if_neg (by omega), if_neg (by omega), if_neg (by omega), if_pos (by omega)]; done)
                        | (rw [if_neg (by omega), if_neg (by omega), if_neg (by omega), if_neg (by omega), if_neg (by omega), if_pos (by omega)]; done)
                        | (rw [if_neg (show ¬ w = 0 by omega), if_neg (show ¬ w = 1 by omega), if_neg (show ¬ w = 2 by omega), if_neg (show ¬ w = 3 by omega), if_neg (show ¬ w = 4 by omega), if_neg (show ¬ w = 5 by omega), if_pos (show w = 6 by omega), if_pos (show w = 6 by omega)]; done)
                        | (rw [if_neg (by omega), if_neg (by omega), if_neg (by omega), if_neg (by omega), if_neg (by omega), if_neg (by omega), if_neg (by omega), if_pos (by omega), hM2.ents]; done)
                        | (rw [if_neg (by omega), if_neg (by omega), if_neg (by omega), if_neg (by omega), if_neg (by omega), if_neg (by omega), if_neg (by omega), if_neg (by omega), if_pos (by omega), hM2.cnt]; done)
                    · refine u_aloadn (k := 120) rfl rfl ?_
                      refine a_geti (k := 121) rfl fRX11_169 rfl rfl ?_
                      refine a_goto (k := 122) rfl ?_
                      refine a_ireturn (k := 125) rfl rfl ?_
                      refine ⟨?_, hM2, hfm⟩
                      unfold t_told
                      dsimp only
                      first
                        | (rw [if_pos (by omega), f41]; done)
                        | (rw [if_neg (by omega), if_pos (by omega), hM2.L]; done)
                        | (rw [if_neg (by omega), if_neg (by omega), if_pos (by omega), f40]; done)
                        | (rw [if_neg (by omega), if_neg (by omega), if_neg (by omega), if_pos (by omega)]; done)
                        | (rw [if_neg (by omega), if_neg (by omega), if_neg (by omega), if_neg (by omega), if_pos (by omega)]; done)
                        | (rw [if_neg (by omega), if_neg (by omega), if_neg (by omega), if_neg (by omega), if_neg (by omega), if_pos (by omega)]; done)
                        | (rw [if_neg (show ¬ w = 0 by omega), if_neg (show ¬ w = 1 by omega), if_neg (show ¬ w = 2 by omega), if_neg (show ¬ w = 3 by omega), if_neg (show ¬ w = 4 by omega), if_neg (show ¬ w = 5 by omega), if_pos (show w = 6 by omega), if_pos (show w = 6 by omega)]; done)
                        | (rw [if_neg (by omega), if_neg (by omega), if_neg (by omega), if_neg (by omega), if_neg (by omega), if_neg (by omega), if_neg (by omega), if_pos (by omega), hM2.ents]; done)
                        | (rw [if_neg (by omega), if_neg (by omega), if_neg (by omega), if_neg (by omega), if_neg (by omega), if_neg (by omega), if_neg (by omega), if_neg (by omega), if_pos (by omega), hM2.cnt]; done)
                  · refine u_iload (k := 115) rfl rfl ?_
                    refine a_goto (k := 116) rfl ?_
                    refine a_ireturn (k := 125) rfl rfl ?_
                    refine ⟨?_, hM2, hfm⟩
                    unfold t_told
                    dsimp only
                    first
                      | (rw [if_pos (by omega), f41]; done)
                      | (rw [if_neg (by omega), if_pos (by omega), hM2.L]; done)
                      | (rw [if_neg (by omega), if_neg (by omega), if_pos (by omega), f40]; done)
                      | (rw [if_neg (by omega), if_neg (by omega), if_neg (by omega), if_pos (by omega)]; done)
                      | (rw [if_neg (by omega), if_neg (by omega), if_neg (by omega), if_neg (by omega), if_pos (by omega)]; done)
                      | (rw [if_neg (by omega), if_neg (by omega), if_neg (by omega), if_neg (by omega), if_neg (by omega), if_pos (by omega)]; done)
                      | (rw [if_neg (show ¬ w = 0 by omega), if_neg (show ¬ w = 1 by omega), if_neg (show ¬ w = 2 by omega), if_neg (show ¬ w = 3 by omega), if_neg (show ¬ w = 4 by omega), if_neg (show ¬ w = 5 by omega), if_pos (show w = 6 by omega), if_pos (show w = 6 by omega)]; done)
                      | (rw [if_neg (by omega), if_neg (by omega), if_neg (by omega), if_neg (by omega), if_neg (by omega), if_neg (by omega), if_neg (by omega), if_pos (by omega), hM2.ents]; done)
                      | (rw [if_neg (by omega), if_neg (by omega), if_neg (by omega), if_neg (by omega), if_neg (by omega), if_neg (by omega), if_neg (by omega), if_neg (by omega), if_pos (by omega), hM2.cnt]; done)
                · refine u_iload (k := 110) rfl rfl ?_
                  refine a_goto (k := 111) rfl ?_
                  refine a_ireturn (k := 125) rfl rfl ?_
                  refine ⟨?_, hM2, hfm⟩
                  unfold t_told
                  dsimp only
                  first
                    | (rw [if_pos (by omega), f41]; done)
                    | (rw [if_neg (by omega), if_pos (by omega), hM2.L]; done)
                    | (rw [if_neg (by omega), if_neg (by omega), if_pos (by omega), f40]; done)
                    | (rw [if_neg (by omega), if_neg (by omega), if_neg (by omega), if_pos (by omega)]; done)
                    | (rw [if_neg (by omega), if_neg (by omega), if_neg (by omega), if_neg (by omega), if_pos (by omega)]; done)
                    | (rw [if_neg (by omega), if_neg (by omega), if_neg (by omega), if_neg (by omega), if_neg (by omega), if_pos (by omega)]; done)
                    | (rw [if_neg (show ¬ w = 0 by omega), if_neg (show ¬ w = 1 by omega), if_neg (show ¬ w = 2 by omega), if_neg (show ¬ w = 3 by omega), if_neg (show ¬ w = 4 by omega), if_neg (show ¬ w = 5 by omega), if_pos (show w = 6 by omega), if_pos (show w = 6 by omega)]; done)
                    | (rw [if_neg (by omega), if_neg (by omega), if_neg (by omega), if_neg (by omega), if_neg (by omega), if_neg (by omega), if_neg (by omega), if_pos (by omega), hM2.ents]; done)
                    | (rw [if_neg (by omega), if_neg (by omega), if_neg (by omega), if_neg (by omega), if_neg (by omega), if_neg (by omega), if_neg (by omega), if_neg (by omega), if_pos (by omega), hM2.cnt]; done)
              · refine u_iloadn (k := 105) rfl rfl ?_
                refine a_goto (k := 106) rfl ?_
                refine a_ireturn (k := 125) rfl rfl ?_
                refine ⟨?_, hM2, hfm⟩
                unfold t_told
                dsimp only
                first
                  | (rw [if_pos (by omega), f41]; done)
                  | (rw [if_neg (by omega), if_pos (by omega), hM2.L]; done)
                  | (rw [if_neg (by omega), if_neg (by omega), if_pos (by omega), f40]; done)
                  | (rw [if_neg (by omega), if_neg (by omega), if_neg (by omega), if_pos (by omega)]; done)
                  | (rw [if_neg (by omega), if_neg (by omega), if_neg (by omega), if_neg (by omega), if_pos (by omega)]; done)
                  | (rw [if_neg (by omega), if_neg (by omega), if_neg (by omega), if_neg (by omega), if_neg (by omega), if_pos (by omega)]; done)
                  | (rw [if_neg (show ¬ w = 0 by omega), if_neg (show ¬ w = 1 by omega), if_neg (show ¬ w = 2 by omega), if_neg (show ¬ w = 3 by omega), if_neg (show ¬ w = 4 by omega), if_neg (show ¬ w = 5 by omega), if_pos (show w = 6 by omega), if_pos (show w = 6 by omega)]; done)
                  | (rw [if_neg (by omega), if_neg (by omega), if_neg (by omega), if_neg (by omega), if_neg (by omega), if_neg (by omega), if_neg (by omega), if_pos (by omega), hM2.ents]; done)
                  | (rw [if_neg (by omega), if_neg (by omega), if_neg (by omega), if_neg (by omega), if_neg (by omega), if_neg (by omega), if_neg (by omega), if_neg (by omega), if_pos (by omega), hM2.cnt]; done)
            · refine u_iloadn (k := 100) rfl rfl ?_
              refine a_goto (k := 101) rfl ?_
              refine a_ireturn (k := 125) rfl rfl ?_
              refine ⟨?_, hM2, hfm⟩
              unfold t_told
              dsimp only
              first
                | (rw [if_pos (by omega), f41]; done)
                | (rw [if_neg (by omega), if_pos (by omega), hM2.L]; done)
                | (rw [if_neg (by omega), if_neg (by omega), if_pos (by omega), f40]; done)
                | (rw [if_neg (by omega), if_neg (by omega), if_neg (by omega), if_pos (by omega)]; done)
                | (rw [if_neg (by omega), if_neg (by omega), if_neg (by omega), if_neg (by omega), if_pos (by omega)]; done)
                | (rw [if_neg (by omega), if_neg (by omega), if_neg (by omega), if_neg (by omega), if_neg (by omega), if_pos (by omega)]; done)
                | (rw [if_neg (show ¬ w = 0 by omega), if_neg (show ¬ w = 1 by omega), if_neg (show ¬ w = 2 by omega), if_neg (show ¬ w = 3 by omega), if_neg (show ¬ w = 4 by omega), if_neg (show ¬ w = 5 by omega), if_pos (show w = 6 by omega), if_pos (show w = 6 by omega)]; done)
                | (rw [if_neg (by omega), if_neg (by omega), if_neg (by omega), if_neg (by omega), if_neg (by omega), if_neg (by omega), if_neg (by omega), if_pos (by omega), hM2.ents]; done)
                | (rw [if_neg (by omega), if_neg (by omega), if_neg (by omega), if_neg (by omega), if_neg (by omega), if_neg (by omega), if_neg (by omega), if_neg (by omega), if_pos (by omega), hM2.cnt]; done)
          · refine u_aloadn (k := 92) rfl rfl ?_
            refine a_getr (k := 93) rfl fRX11_7 rfl rfl rfl ?_
            refine a_iconst (k := 94) rfl ?_
            refine u_ialdx 0 (k := 95) rfl rfl rfl (by omega) (by omega) ?_
            refine a_goto (k := 96) rfl ?_
            refine a_ireturn (k := 125) rfl rfl ?_
            refine ⟨?_, hM2, hfm⟩
            unfold t_told
            dsimp only
            first
              | (rw [if_pos (by omega), f41]; done)
              | (rw [if_neg (by omega), if_pos (by omega), hM2.L]; done)
              | (rw [if_neg (by omega), if_neg (by omega), if_pos (by omega), f40]; done)
              | (rw [if_neg (by omega), if_neg (by omega), if_neg (by omega), if_pos (by omega)]; done)
              | (rw [if_neg (by omega), if_neg (by omega), if_neg (by omega), if_neg (by omega), if_pos (by omega)]; done)
              | (rw [if_neg (by omega), if_neg (by omega), if_neg (by omega), if_neg (by omega), if_neg (by omega), if_pos (by omega)]; done)
              | (rw [if_neg (show ¬ w = 0 by omega), if_neg (show ¬ w = 1 by omega), if_neg (show ¬ w = 2 by omega), if_neg (show ¬ w = 3 by omega), if_neg (show ¬ w = 4 by omega), if_neg (show ¬ w = 5 by omega), if_pos (show w = 6 by omega), if_pos (show w = 6 by omega)]; done)
              | (rw [if_neg (by omega), if_neg (by omega), if_neg (by omega), if_neg (by omega), if_neg (by omega), if_neg (by omega), if_neg (by omega), if_pos (by omega), hM2.ents]; done)
              | (rw [if_neg (by omega), if_neg (by omega), if_neg (by omega), if_neg (by omega), if_neg (by omega), if_neg (by omega), if_neg (by omega), if_neg (by omega), if_pos (by omega), hM2.cnt]; done)
        · refine u_aloadn (k := 86) rfl rfl ?_
          refine a_geti (k := 87) rfl fRX11_98 rfl rfl ?_
          refine a_goto (k := 88) rfl ?_
          refine a_ireturn (k := 125) rfl rfl ?_
          refine ⟨?_, hM2, hfm⟩
          unfold t_told
          dsimp only
          first
            | (rw [if_pos (by omega), f41]; done)
            | (rw [if_neg (by omega), if_pos (by omega), hM2.L]; done)
            | (rw [if_neg (by omega), if_neg (by omega), if_pos (by omega), f40]; done)
            | (rw [if_neg (by omega), if_neg (by omega), if_neg (by omega), if_pos (by omega)]; done)
            | (rw [if_neg (by omega), if_neg (by omega), if_neg (by omega), if_neg (by omega), if_pos (by omega)]; done)
            | (rw [if_neg (by omega), if_neg (by omega), if_neg (by omega), if_neg (by omega), if_neg (by omega), if_pos (by omega)]; done)
            | (rw [if_neg (show ¬ w = 0 by omega), if_neg (show ¬ w = 1 by omega), if_neg (show ¬ w = 2 by omega), if_neg (show ¬ w = 3 by omega), if_neg (show ¬ w = 4 by omega), if_neg (show ¬ w = 5 by omega), if_pos (show w = 6 by omega), if_pos (show w = 6 by omega)]; done)
            | (rw [if_neg (by omega), if_neg (by omega), if_neg (by omega), if_neg (by omega), if_neg (by omega), if_neg (by omega), if_neg (by omega), if_pos (by omega), hM2.ents]; done)
            | (rw [if_neg (by omega), if_neg (by omega), if_neg (by omega), if_neg (by omega), if_neg (by omega), if_neg (by omega), if_neg (by omega), if_neg (by omega), if_pos (by omega), hM2.cnt]; done)
      · refine u_aloadn (k := 78) rfl rfl ?_
        refine a_getr (k := 79) rfl fRX11_7 rfl rfl rfl ?_
        refine a_iconst (k := 80) rfl ?_
        refine u_ialdx 1 (k := 81) rfl rfl rfl (by omega) (by omega) ?_
        refine a_goto (k := 82) rfl ?_
        refine a_ireturn (k := 125) rfl rfl ?_
        refine ⟨?_, hM2, hfm⟩
        unfold t_told
        dsimp only
        first
          | (rw [if_pos (by omega), f41]; done)
          | (rw [if_neg (by omega), if_pos (by omega), hM2.L]; done)
          | (rw [if_neg (by omega), if_neg (by omega), if_pos (by omega), f40]; done)
          | (rw [if_neg (by omega), if_neg (by omega), if_neg (by omega), if_pos (by omega)]; done)
          | (rw [if_neg (by omega), if_neg (by omega), if_neg (by omega), if_neg (by omega), if_pos (by omega)]; done)
          | (rw [if_neg (by omega), if_neg (by omega), if_neg (by omega), if_neg (by omega), if_neg (by omega), if_pos (by omega)]; done)
          | (rw [if_neg (show ¬ w = 0 by omega), if_neg (show ¬ w = 1 by omega), if_neg (show ¬ w = 2 by omega), if_neg (show ¬ w = 3 by omega), if_neg (show ¬ w = 4 by omega), if_neg (show ¬ w = 5 by omega), if_pos (show w = 6 by omega), if_pos (show w = 6 by omega)]; done)
          | (rw [if_neg (by omega), if_neg (by omega), if_neg (by omega), if_neg (by omega), if_neg (by omega), if_neg (by omega), if_neg (by omega), if_pos (by omega), hM2.ents]; done)
          | (rw [if_neg (by omega), if_neg (by omega), if_neg (by omega), if_neg (by omega), if_neg (by omega), if_neg (by omega), if_neg (by omega), if_neg (by omega), if_pos (by omega), hM2.cnt]; done)
    have Lp : ∀ (d k : Nat) (g : HH), k + d = σ.now.1 → MR σ g → FMo h g → AW mX11_told (MP (t_told σ w, σ) h) 28 [(6, vi k), (5, vi (if w = 6 then (setT (fun k => decide ((r_try (σ.now.2.2 k) (fun _ => 0)).2.1 = 0)) k : Int) else 0)), (4, vi (setT (fun k => decide ((σ.now.2.2 k).1 = 0)) k : Int)), (3, vi (sumT k (fun k => pc_ (σ.now.2.2 k).2.1) : Int)), (2, vi (sumT k (fun k => (σ.now.2.2 k).1) : Int)), (0, vr 40 0), (1, vi w)] [] g := by
      intro d
      induction d with
      | zero =>
        intro k g hk hM2 hfm
        have hk : k = σ.now.1 := by omega
        subst hk
        have f41 : g 41 0 1 = (σ.now.1 : Int) := hM2.now.2.1
        refine u_iload (k := 18) rfl rfl ?_
        refine u_aloadn (k := 19) rfl rfl ?_
        refine a_getr (k := 20) rfl fRX11_7 rfl rfl rfl ?_
        refine a_iconst (k := 21) rfl ?_
        refine u_ialdx 1 (k := 22) rfl rfl rfl (by omega) (by omega) ?_
        refine a_icmp_ge (k := 23) rfl (fun c_36 => ?_) (fun c_36 => ?_)
        · exact fin g hM2 hfm _
        · omega
      | succ d ih =>
        intro k g hk hM2 hfm
        have f41 : g 41 0 1 = (σ.now.1 : Int) := hM2.now.2.1
        have hkn : k < σ.now.1 := by omega
        have hWr := hW.now.2.2 k hkn
        have h8 := hWr.1
        have hs := (p8 h8).2
        have hs2 := hWr.2.1
        have hsl := (hM2.slot hkn).2.1
        have hb1 : sumT k (fun k => (σ.now.2.2 k).1) ≤ 8 * k := sumT_le (fun i hi => (hW.now.2.2 i (by omega)).1)
        have hb2 : sumT k (fun k => pc_ (σ.now.2.2 k).2.1) ≤ 32 * k := sumT_le (fun i hi => pct_le _ 32)
        have hpl := setT_lt (fun k => decide ((σ.now.2.2 k).1 = 0)) k
        have hpo := setT_lt (fun k => decide ((r_try (σ.now.2.2 k) (fun _ => 0)).2.1 = 0)) k
        have hpk : 2 ^ k ≤ 2 ^ 5 := Nat.pow_le_pow_right (by omega) (by omega)
        have e1 : sumT (k + 1) (fun k => (σ.now.2.2 k).1) = sumT k (fun k => (σ.now.2.2 k).1) + (σ.now.2.2 k).1 := rfl
        have e2 : sumT (k + 1) (fun k => pc_ (σ.now.2.2 k).2.1) = sumT k (fun k => pc_ (σ.now.2.2 k).2.1) + pc_ (σ.now.2.2 k).2.1 := rfl
        have e2' : pc_ (σ.now.2.2 k).2.1 = pct (σ.now.2.2 k).2.1 8 := pc_8 (by omega)
        have hbc := pct_le (σ.now.2.2 k).2.1 8
        have e3 : setT (fun k => decide ((σ.now.2.2 k).1 = 0)) (k + 1) = if decide ((σ.now.2.2 k).1 = 0) then setT (fun k => decide ((σ.now.2.2 k).1 = 0)) k ||| 2 ^ k else setT (fun k => decide ((σ.now.2.2 k).1 = 0)) k := rfl
        have e4 : setT (fun k => decide ((r_try (σ.now.2.2 k) (fun _ => 0)).2.1 = 0)) (k + 1) = if decide ((r_try (σ.now.2.2 k) (fun _ => 0)).2.1 = 0) then setT (fun k => decide ((r_try (σ.now.2.2 k) (fun _ => 0)).2.1 = 0)) k ||| 2 ^ k else setT (fun k => decide ((r_try (σ.now.2.2 k) (fun _ => 0)).2.1 = 0)) k := rfl
        have o0 : ∀ x : Nat, x < 2 ^ 31 → ior (x : Int) 0 = (x : Int) := fun x hx => (ior_nat (b := 0) hx (by omega)).trans (by rw [Nat.or_zero])
        have nextO : ∀ (g2 : HH) (v : Int), MR σ g2 → FMo h g2 → v = (if w = 6 then (setT (fun k => decide ((r_try (σ.now.2.2 k) (fun _ => 0)).2.1 = 0)) (k + 1) : Int) else 0) → AW mX11_told (MP (t_told σ w, σ) h) 126 [(6, vi k), (5, vi v), (4, vi (setT (fun k => decide ((σ.now.2.2 k).1 = 0)) (k + 1) : Int)), (3, vi (sumT (k + 1) (fun k => pc_ (σ.now.2.2 k).2.1) : Int)), (2, vi (sumT (k + 1) (fun k => (σ.now.2.2 k).1) : Int)), (0, vr 40 0), (1, vi w)] [] g2 := by
          intro g2 v hM3 hfm3 hv
          subst hv
          refine u_iinc (k := 74) (lv' := [(6, _), (5, _), (4, _), (3, _), (2, _), (0, _), (1, _)]) rfl rfl (Nat.le_of_ble_eq_true rfl) (by omega) rfl ?_
          refine a_goto (k := 75) rfl ?_
          exact ih (k + 1) g2 (by omega) hM3 hfm3
        have T89 : ∀ (v2 v3 v4 : Int), v2 = (sumT (k + 1) (fun k => (σ.now.2.2 k).1) : Int) → v3 = (sumT (k + 1) (fun k => pc_ (σ.now.2.2 k).2.1) : Int) → v4 = (setT (fun k => decide ((σ.now.2.2 k).1 = 0)) (k + 1) : Int) → AW mX11_told (MP (t_told σ w, σ) h) 89 [(6, vi k), (5, vi (if w = 6 then (setT (fun k => decide ((r_try (σ.now.2.2 k) (fun _ => 0)).2.1 = 0)) k : Int) else 0)), (4, vi v4), (3, vi v3), (2, vi v2), (0, vr 40 0), (1, vi w)] [] g := by
          intro v2 v3 v4 h2 h3 h4
          subst h2
          subst h3
          subst h4
          by_cases h6 : w = 6
          · rw [if_pos h6]
            refine u_aloadn (k := 54) rfl rfl ?_
            refine u_iload (k := 55) rfl rfl ?_
            refine uv_virt1 (M' := mX11_loads) (k := 56) rfl lRX11_211 oX11_loads vX11_loads ⟨Nat.le_of_ble_eq_true rfl, Nat.le_of_ble_eq_true rfl⟩ rfl rfl (Nat.le_of_ble_eq_true rfl) (m_loads k _ g (by omega) h8 (hM2.slot hkn)) (by intro r g hp; exact hp.1) (fun g2 hg2 => ?_)
            obtain ⟨-, hR2, hF2⟩ := hg2
            refine u_iload (k := 57) rfl rfl ?_
            refine u_iloadn (k := 58) rfl rfl ?_
            refine a_bipush (k := 59) rfl ?_
            refine a_icmp_ne (k := 60) rfl (fun c_100 => ?_) (fun c_100 => ?_)
            · omega
            · refine u_aloadn (k := 61) rfl rfl ?_
              refine u_aloadn (k := 62) rfl rfl ?_
              refine a_geti (k := 63) rfl fRX11_159 rfl rfl ?_
              refine a_iconst (k := 64) rfl ?_
              rw [hR2.2.1]
              refine ui_virt2 (M' := mX11_shaken) (k := 65) rfl lRX11_219 oX11_shaken vX11_shaken ⟨Nat.le_of_ble_eq_true rfl, Nat.le_of_ble_eq_true rfl⟩ rfl rfl (Nat.le_of_ble_eq_true rfl) (m_shaken _ _ _ 0 _ g2 h8 hWr.2.2.1 hR2 (by omega)) (by intro r g hp; exact ⟨_, hp.1⟩) (fun z g3 hg3 => ?_)
              obtain ⟨hz, hF3⟩ := hg3; cases hz
              refine a_if_ne (k := 66) rfl (fun c_112 => ?_) (fun c_112 => ?_)
              · refine a_iconst (k := 71) rfl ?_
                refine a_ior (k := 72) rfl ?_
                first
                  | rw [ior_nat (by omega) (by omega)]
                  | rw [o0 _ (by omega)]
                refine a_istore (k := 73) (lv' := [(5, _), (6, _), (4, _), (3, _), (2, _), (0, _), (1, _)]) rfl (Nat.le_of_ble_eq_true rfl) rfl ?_
                refine a_sub [1, 0, 2, 3, 4, 5, 6] rfl ?_
                have hMx : MR σ g3 := (hM2.scr hW (Fs_of hF2 (by simp [tms]) (by simp [kms]))).scr hW (Fs_of hF3 (by simp [tms, tsk]) (by simp [kms, ksk]))
                have hfx : FMo h g3 := hfm.tr ((Fr.mo hF2 (by simp) (by simp)).tr (Fr.mo hF3 (by simp [tsk]) (by simp [ksk])))
                have c112 := c_112
                unfold pkw at c112
                rw [if_pos rfl] at c112
                first
                  | exact nextO g3 _ hMx hfx (by rw [if_pos h6, e4, if_pos (decide_eq_true c112)])
                  | exact nextO g3 _ hMx hfx (by rw [if_pos h6, e4, if_neg (fun z => c112 (of_decide_eq_true z))])
              · refine a_iconst (k := 67) rfl ?_
                refine u_iload (k := 68) rfl rfl ?_
                refine a_ishl (k := 69) rfl ?_
                rw [shl1 (by omega)]
                refine a_goto (k := 70) rfl ?_
                refine a_ior (k := 72) rfl ?_
                first
                  | rw [ior_nat (by omega) (by omega)]
                  | rw [o0 _ (by omega)]
                refine a_istore (k := 73) (lv' := [(5, _), (6, _), (4, _), (3, _), (2, _), (0, _), (1, _)]) rfl (Nat.le_of_ble_eq_true rfl) rfl ?_
                refine a_sub [1, 0, 2, 3, 4, 5, 6] rfl ?_
                have hMx : MR σ g3 := (hM2.scr hW (Fs_of hF2 (by simp [tms]) (by simp [kms]))).scr hW (Fs_of hF3 (by simp [tms, tsk]) (by simp [kms, ksk]))
                have hfx : FMo h g3 := hfm.tr ((Fr.mo hF2 (by simp) (by simp)).tr (Fr.mo hF3 (by simp [tsk]) (by simp [ksk])))
                have c112 := c_112
                unfold pkw at c112
                rw [if_pos rfl] at c112
                first
                  | exact nextO g3 _ hMx hfx (by rw [if_pos h6, e4, if_pos (decide_eq_true c112)])
                  | exact nextO g3 _ hMx hfx (by rw [if_pos h6, e4, if_neg (fun z => c112 (of_decide_eq_true z))])
          · rw [if_neg h6]
            refine u_aloadn (k := 54) rfl rfl ?_
            refine u_iload (k := 55) rfl rfl ?_
            refine uv_virt1 (M' := mX11_loads) (k := 56) rfl lRX11_211 oX11_loads vX11_loads ⟨Nat.le_of_ble_eq_true rfl, Nat.le_of_ble_eq_true rfl⟩ rfl rfl (Nat.le_of_ble_eq_true rfl) (m_loads k _ g (by omega) h8 (hM2.slot hkn)) (by intro r g hp; exact hp.1) (fun g2 hg2 => ?_)
            obtain ⟨-, hR2, hF2⟩ := hg2
            refine u_iload (k := 57) rfl rfl ?_
            refine u_iloadn (k := 58) rfl rfl ?_
            refine a_bipush (k := 59) rfl ?_
            refine a_icmp_ne (k := 60) rfl (fun c_100 => ?_) (fun c_100 => ?_)
            · refine a_iconst (k := 71) rfl ?_
              refine a_ior (k := 72) rfl ?_
              rw [show ior 0 0 = 0 from o0 0 (by omega)]
              refine a_istore (k := 73) (lv' := [(5, _), (6, _), (4, _), (3, _), (2, _), (0, _), (1, _)]) rfl (Nat.le_of_ble_eq_true rfl) rfl ?_
              refine a_sub [1, 0, 2, 3, 4, 5, 6] rfl ?_
              exact nextO g2 _ (hM2.scr hW (Fs_of hF2 (by simp [tms]) (by simp [kms]))) (hfm.tr (Fr.mo hF2 (by simp) (by simp))) (by rw [if_neg h6])
            · omega
        refine u_iload (k := 18) rfl rfl ?_
        refine u_aloadn (k := 19) rfl rfl ?_
        refine a_getr (k := 20) rfl fRX11_7 rfl rfl rfl ?_
        refine a_iconst (k := 21) rfl ?_
        refine u_ialdx 1 (k := 22) rfl rfl rfl (by omega) (by omega) ?_
        refine a_icmp_ge (k := 23) rfl (fun c_36 => ?_) (fun c_36 => ?_)
        · omega
        · refine u_iloadn (k := 24) rfl rfl ?_
          refine u_aloadn (k := 25) rfl rfl ?_
          refine u_iload (k := 26) rfl rfl ?_
          refine i_virt1 (M' := mX11_crossings) (k := 27) rfl lRX11_92 oX11_crossings vX11_crossings ⟨Nat.le_of_ble_eq_true rfl, Nat.le_of_ble_eq_true rfl⟩ rfl rfl (Nat.le_of_ble_eq_true rfl) (m_crossings k _ g (by omega) (hM2.slot hkn)) ?_
          refine u_iadd (k := 28) rfl (by omega) ?_
          refine a_istoren (k := 29) (lv' := [(2, _), (6, _), (5, _), (4, _), (3, _), (0, _), (1, _)]) rfl (Nat.le_of_ble_eq_true rfl) rfl ?_
          refine u_iloadn (k := 30) rfl rfl ?_
          refine u_aloadn (k := 31) rfl rfl ?_
          refine a_getr (k := 32) rfl fRX11_7 rfl rfl rfl ?_
          refine u_aloadn (k := 33) rfl rfl ?_
          refine u_iload (k := 34) rfl rfl ?_
          refine i_virt1 (M' := mX11_base) (k := 35) rfl lRX11_85 oX11_base vX11_base ⟨Nat.le_of_ble_eq_true rfl, Nat.le_of_ble_eq_true rfl⟩ rfl rfl (Nat.le_of_ble_eq_true rfl) (m_base k g (by omega)) ?_
          refine a_iconst (k := 36) rfl ?_
          refine u_iadd (k := 37) rfl (by omega) ?_
          refine u_ialdx (2 + 18 * k + 1) (k := 38) rfl rfl rfl (by omega) (by omega) ?_
          rw [hsl]
          refine i_stat1 (M' := mX11_bits) (k := 39) rfl lRX11_203 oX11_bits vX11_bits ⟨Nat.le_of_ble_eq_true rfl, Nat.le_of_ble_eq_true rfl⟩ rfl (Nat.le_of_ble_eq_true rfl) (m_bits _ g (by omega)) ?_
          refine u_iadd (k := 40) rfl (by omega) ?_
          refine a_istoren (k := 41) (lv' := [(3, _), (2, _), (6, _), (5, _), (4, _), (0, _), (1, _)]) rfl (Nat.le_of_ble_eq_true rfl) rfl ?_
          refine u_iload (k := 42) rfl rfl ?_
          refine u_aloadn (k := 43) rfl rfl ?_
          refine u_iload (k := 44) rfl rfl ?_
          refine i_virt1 (M' := mX11_passes) (k := 45) rfl lRX11_89 oX11_passes vX11_passes ⟨Nat.le_of_ble_eq_true rfl, Nat.le_of_ble_eq_true rfl⟩ rfl rfl (Nat.le_of_ble_eq_true rfl) (m_passes k _ g (by omega) (hM2.slot hkn)) ?_
          refine a_if_ne (k := 46) rfl (fun c_75 => ?_) (fun c_75 => ?_)
          · refine a_iconst (k := 51) rfl ?_
            refine a_ior (k := 52) rfl ?_
            first
              | rw [ior_nat (by omega) (by omega)]
              | rw [o0 _ (by omega)]
            refine a_istore (k := 53) (lv' := [(4, _), (3, _), (2, _), (6, _), (5, _), (0, _), (1, _)]) rfl (Nat.le_of_ble_eq_true rfl) rfl ?_
            refine a_sub [3, 4, 0, 1, 2, 5, 6] rfl ?_
            first
              | exact T89 _ _ _ (by omega) (by omega) (by rw [e3, if_pos (decide_eq_true (by omega))])
              | exact T89 _ _ _ (by omega) (by omega) (by rw [e3, if_neg (fun z => by have := of_decide_eq_true z; omega)])
          · refine a_iconst (k := 47) rfl ?_
            refine u_iload (k := 48) rfl rfl ?_
            refine a_ishl (k := 49) rfl ?_
            rw [shl1 (by omega)]
            refine a_goto (k := 50) rfl ?_
            refine a_ior (k := 52) rfl ?_
            first
              | rw [ior_nat (by omega) (by omega)]
              | rw [o0 _ (by omega)]
            refine a_istore (k := 53) (lv' := [(4, _), (3, _), (2, _), (6, _), (5, _), (0, _), (1, _)]) rfl (Nat.le_of_ble_eq_true rfl) rfl ?_
            refine a_sub [3, 4, 0, 1, 2, 5, 6] rfl ?_
            first
              | exact T89 _ _ _ (by omega) (by omega) (by rw [e3, if_pos (decide_eq_true (by omega))])
              | exact T89 _ _ _ (by omega) (by omega) (by rw [e3, if_neg (fun z => by have := of_decide_eq_true z; omega)])
    refine u_iloadn (k := 0) rfl rfl ?_
    refine a_i2l (k := 1) rfl ?_
    refine a_lconst (k := 2) rfl ?_
    refine a_ldc2 (k := 3) rfl nRX11_248 ⟨by decide, by decide⟩ ?_
    refine i_stat3 (M' := mX11_in) (k := 4) rfl lRX11_81 oX11_in vX11_in ⟨Nat.le_of_ble_eq_true rfl, Nat.le_of_ble_eq_true rfl⟩ rfl (Nat.le_of_ble_eq_true rfl) (m_in w 0 8 h) ?_
    rw [inb_t hw]
    refine a_if_ne (k := 5) rfl (fun c_9 => ?_) (fun c_9 => ?_)
    · refine a_iconst (k := 8) rfl ?_
      refine a_istoren (k := 9) (lv' := [(2, _), (0, _), (1, _)]) rfl (Nat.le_of_ble_eq_true rfl) rfl ?_
      refine a_iconst (k := 10) rfl ?_
      refine a_istoren (k := 11) (lv' := [(3, _), (2, _), (0, _), (1, _)]) rfl (Nat.le_of_ble_eq_true rfl) rfl ?_
      refine a_iconst (k := 12) rfl ?_
      refine a_istore (k := 13) (lv' := [(4, _), (3, _), (2, _), (0, _), (1, _)]) rfl (Nat.le_of_ble_eq_true rfl) rfl ?_
      refine a_iconst (k := 14) rfl ?_
      refine a_istore (k := 15) (lv' := [(5, _), (4, _), (3, _), (2, _), (0, _), (1, _)]) rfl (Nat.le_of_ble_eq_true rfl) rfl ?_
      refine a_iconst (k := 16) rfl ?_
      refine a_istore (k := 17) (lv' := [(6, _), (5, _), (4, _), (3, _), (2, _), (0, _), (1, _)]) rfl (Nat.le_of_ble_eq_true rfl) rfl ?_
      have := Lp σ.now.1 0 h (by omega) hM FMo.rf
      rw [show (if w = 6 then ((setT (fun k => decide ((r_try (σ.now.2.2 k) (fun _ => 0)).2.1 = 0)) 0 : Nat) : Int) else 0) = 0 by split <;> rfl] at this
      exact this
    · exact absurd c_9 (by decide)
  · have e : t_told σ w = OUT := by
      unfold t_told
      rw [if_neg (by omega), if_neg (by omega), if_neg (by omega), if_neg (by omega), if_neg (by omega), if_neg (by omega), if_neg (by omega), if_neg (by omega), if_neg (by omega)]
    rw [e]
    refine Sp.of rfl kX11_told (Nat.le_of_ble_eq_true rfl) ?_
    refine u_iloadn (k := 0) rfl rfl ?_
    refine a_i2l (k := 1) rfl ?_
    refine a_lconst (k := 2) rfl ?_
    refine a_ldc2 (k := 3) rfl nRX11_248 ⟨by decide, by decide⟩ ?_
    refine i_stat3 (M' := mX11_in) (k := 4) rfl lRX11_81 oX11_in vX11_in ⟨Nat.le_of_ble_eq_true rfl, Nat.le_of_ble_eq_true rfl⟩ rfl (Nat.le_of_ble_eq_true rfl) (m_in w 0 8 h) ?_
    rw [inb_f hw]
    refine a_if_ne (k := 5) rfl (fun c_9 => ?_) (fun c_9 => ?_)
    · exact absurd rfl c_9
    · refine a_ldc (k := 6) rfl nRX11_97 ⟨by decide, by decide⟩ ?_
      refine a_ireturn (k := 7) rfl rfl ?_
      exact ⟨rfl, hM, FMo.rf⟩
theorem n_drift {B : Nat} {σ : AS} {h : HH} (hW : WA B σ) (hM : MR σ h) (n : Int) : Sp mX11_drift [vr 40 0, vi n] h (MP (o_drift σ n) h) := by
  by_cases hn : 1 ≤ n ∧ n ≤ 30
  · obtain ⟨m, rfl⟩ : ∃ m : Nat, n = (m : Int) := ⟨n.toNat, by omega⟩
    rw [show o_drift σ (m : Int) = _ from if_pos hn, Int.toNat_natCast]
    by_cases hl : σ.laid = true
    · rw [if_pos hl]
      refine Sp.of rfl kX11_drift (Nat.le_of_ble_eq_true rfl) ?_
      have fin : ∀ (τ : AS) (g : HH) (q : Int), WA B τ → MR τ g → FMo h g → τ = d_run m σ.rem → AW mX11_drift (MP (((d_run m σ.rem).csum : Int), d_run m σ.rem) h) 56 [(2, vi q), (0, vr 40 0), (1, vi m)] [] g := by
        intro τ g q hW2 hM2 hfm he
        subst he
        refine u_aloadn (k := 29) rfl rfl ?_
        refine a_iconst (k := 30) rfl ?_
        refine ui_virt1 (M' := mX11_told) (k := 31) rfl lRX11_311 oX11_told vX11_told ⟨Nat.le_of_ble_eq_true rfl, Nat.le_of_ble_eq_true rfl⟩ rfl rfl (Nat.le_of_ble_eq_true rfl) (m_told hW2 hM2 3) (by intro r g hp; exact ⟨_, hp.1⟩) (fun z g2 hg2 => ?_)
        obtain ⟨hz, hM3, hF3⟩ := hg2; cases hz
        refine a_ireturn (k := 32) rfl rfl ?_
        exact ⟨rfl, hM3, hfm.tr hF3⟩
      have Lp : ∀ (d q : Nat) (τ : AS) (g : HH), q + d = m → WA B τ → MR τ g → FMo h g → d_run d τ = d_run m σ.rem → AW mX11_drift (MP (((d_run m σ.rem).csum : Int), d_run m σ.rem) h) 32 [(2, vi q), (0, vr 40 0), (1, vi m)] [] g := by
        intro d
        induction d with
        | zero =>
          intro q τ g hq hW2 hM2 hfm he
          refine u_iloadn (k := 17) rfl rfl ?_
          refine u_iloadn (k := 18) rfl rfl ?_
          refine a_icmp_ge (k := 19) rfl (fun c_34 => ?_) (fun c_34 => ?_)
          · exact fin τ g _ hW2 hM2 hfm he
          · omega
        | succ d ih =>
          intro q τ g hq hW2 hM2 hfm he
          have f41 : g 41 0 1 = (τ.now.1 : Int) := hM2.now.2.1
          by_cases h0 : 0 < τ.now.1
          · have he2 : d_run d (d_step τ) = d_run m σ.rem := by rw [← he]; exact (if_pos h0).symm
            refine u_iloadn (k := 17) rfl rfl ?_
            refine u_iloadn (k := 18) rfl rfl ?_
            refine a_icmp_ge (k := 19) rfl (fun c_34 => ?_) (fun c_34 => ?_)
            · omega
            · refine u_aloadn (k := 20) rfl rfl ?_
              refine a_getr (k := 21) rfl fRX11_7 rfl rfl rfl ?_
              refine a_iconst (k := 22) rfl ?_
              refine u_ialdx 1 (k := 23) rfl rfl rfl (by omega) (by omega) ?_
              refine a_if_le (k := 24) rfl (fun c_43 => ?_) (fun c_43 => ?_)
              · omega
              · refine u_aloadn (k := 25) rfl rfl ?_
                refine uv_virt0 (M' := mX11_drifts) (k := 26) rfl lRX11_308 oX11_drifts vX11_drifts ⟨Nat.le_of_ble_eq_true rfl, Nat.le_of_ble_eq_true rfl⟩ rfl rfl (Nat.le_of_ble_eq_true rfl) (m_drifts hW2 hM2 h0) (by intro r g hp; exact hp.1) (fun g2 hg2 => ?_)
                obtain ⟨-, hM3, hF3⟩ := hg2
                refine u_iinc (k := 27) (lv' := [(2, _), (0, _), (1, _)]) rfl rfl (Nat.le_of_ble_eq_true rfl) (by omega) rfl ?_
                refine a_goto (k := 28) rfl ?_
                exact ih (q + 1) _ g2 (by omega) (hW2.step h0) hM3 (hfm.tr hF3) he2
          · have he2 : τ = d_run m σ.rem := by rw [← he]; exact (if_neg h0).symm
            refine u_iloadn (k := 17) rfl rfl ?_
            refine u_iloadn (k := 18) rfl rfl ?_
            refine a_icmp_ge (k := 19) rfl (fun c_34 => ?_) (fun c_34 => ?_)
            · omega
            · refine u_aloadn (k := 20) rfl rfl ?_
              refine a_getr (k := 21) rfl fRX11_7 rfl rfl rfl ?_
              refine a_iconst (k := 22) rfl ?_
              refine u_ialdx 1 (k := 23) rfl rfl rfl (by omega) (by omega) ?_
              refine a_if_le (k := 24) rfl (fun c_43 => ?_) (fun c_43 => ?_)
              · exact fin τ g _ hW2 hM2 hfm he2
              · omega
      refine u_iloadn (k := 0) rfl rfl ?_
      refine a_i2l (k := 1) rfl ?_
      refine a_lconst (k := 2) rfl ?_
      refine a_ldc2 (k := 3) rfl nRX11_306 ⟨by decide, by decide⟩ ?_
      refine i_stat3 (M' := mX11_in) (k := 4) rfl lRX11_81 oX11_in vX11_in ⟨Nat.le_of_ble_eq_true rfl, Nat.le_of_ble_eq_true rfl⟩ rfl (Nat.le_of_ble_eq_true rfl) (m_in m 1 30 h) ?_
      rw [inb_t hn]
      refine a_if_ne (k := 5) rfl (fun c_9 => ?_) (fun c_9 => ?_)
      · refine u_aloadn (k := 8) rfl rfl ?_
        refine a_geti (k := 9) rfl fRX11_149 rfl rfl ?_
        rw [hM.laid, hl]
        refine a_if_ne (k := 10) rfl (fun c_19 => ?_) (fun c_19 => ?_)
        · refine u_aloadn (k := 13) rfl rfl ?_
          refine uv_virt0 (M' := mX11_known) (k := 14) rfl lRX11_280 oX11_known vX11_known ⟨Nat.le_of_ble_eq_true rfl, Nat.le_of_ble_eq_true rfl⟩ rfl rfl (Nat.le_of_ble_eq_true rfl) (m_known hW hM) (by intro r g hp; exact hp.1) (fun g1 hg1 => ?_)
          obtain ⟨-, hM1, hF1⟩ := hg1
          refine a_iconst (k := 15) rfl ?_
          refine a_istoren (k := 16) (lv' := [(2, _), (0, _), (1, _)]) rfl (Nat.le_of_ble_eq_true rfl) rfl ?_
          exact Lp m 0 σ.rem g1 (by omega) hW.rem hM1 (FK.mo hF1) rfl
        · exact absurd c_19 (by decide)
      · exact absurd c_9 (by decide)
    · rw [if_neg hl]
      refine Sp.of rfl kX11_drift (Nat.le_of_ble_eq_true rfl) ?_
      refine u_iloadn (k := 0) rfl rfl ?_
      refine a_i2l (k := 1) rfl ?_
      refine a_lconst (k := 2) rfl ?_
      refine a_ldc2 (k := 3) rfl nRX11_306 ⟨by decide, by decide⟩ ?_
      refine i_stat3 (M' := mX11_in) (k := 4) rfl lRX11_81 oX11_in vX11_in ⟨Nat.le_of_ble_eq_true rfl, Nat.le_of_ble_eq_true rfl⟩ rfl (Nat.le_of_ble_eq_true rfl) (m_in m 1 30 h) ?_
      rw [inb_t hn]
      refine a_if_ne (k := 5) rfl (fun c_9 => ?_) (fun c_9 => ?_)
      · refine u_aloadn (k := 8) rfl rfl ?_
        refine a_geti (k := 9) rfl fRX11_149 rfl rfl ?_
        rw [hM.laid, show σ.laid = false by revert hl; cases σ.laid <;> simp]
        refine a_if_ne (k := 10) rfl (fun c_19 => ?_) (fun c_19 => ?_)
        · exact absurd rfl c_19
        · refine a_ldcw (k := 11) rfl nRX11_279 ⟨by decide, by decide⟩ ?_
          refine a_ireturn (k := 12) rfl rfl ?_
          exact ⟨rfl, hM, FMo.rf⟩
      · exact absurd c_9 (by decide)
  · rw [show o_drift σ n = _ from if_neg hn]
    refine Sp.of rfl kX11_drift (Nat.le_of_ble_eq_true rfl) ?_
    refine u_iloadn (k := 0) rfl rfl ?_
    refine a_i2l (k := 1) rfl ?_
    refine a_lconst (k := 2) rfl ?_
    refine a_ldc2 (k := 3) rfl nRX11_306 ⟨by decide, by decide⟩ ?_
    refine i_stat3 (M' := mX11_in) (k := 4) rfl lRX11_81 oX11_in vX11_in ⟨Nat.le_of_ble_eq_true rfl, Nat.le_of_ble_eq_true rfl⟩ rfl (Nat.le_of_ble_eq_true rfl) (m_in n 1 30 h) ?_
    rw [inb_f hn]
    refine a_if_ne (k := 5) rfl (fun c_9 => ?_) (fun c_9 => ?_)
    · exact absurd rfl c_9
    · refine a_ldc (k := 6) rfl nRX11_97 ⟨by decide, by decide⟩ ?_
      refine a_ireturn (k := 7) rfl rfl ?_
      exact ⟨rfl, hM, FMo.rf⟩
