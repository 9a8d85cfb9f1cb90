theorem HM.put {c T : Nat} {x : FB} {g : HH} {mv fs : Int} (h : HM c x g) : HM c (ui x.1 T mv, ui x.2 T fs) (put (put g 55 0 T fs) 54 0 T mv) := fun Q hQ => by
  obtain ⟨h1, h2⟩ := h Q hQ
  unfold ui
  dsimp only
  by_cases he : Q = T
  · subst he
    refine ⟨by rw [put_eq, if_pos rfl], by rw [put_ne (by omega), put_eq, if_pos rfl]⟩
  · refine ⟨by rw [put_ne (by omega), put_ne (by omega), if_neg he]; exact h1, by rw [put_ne (by omega), put_ne (by omega), if_neg he]; exact h2⟩
theorem HM.keep {c : Nat} {x : FB} {g g' : HH} (h : HM c x g) (h1 : ∀ k, g' 54 0 k = g 54 0 k) (h2 : ∀ k, g' 55 0 k = g 55 0 k) : HM c x g' := fun Q hQ => by rw [h1, h2]; exact h Q hQ
theorem LH.keep {G : Nat → Nat} {S n : Nat} {g g' : HH} (h : LH G S n g) (h0 : g' 40 0 25 = g 40 0 25) (h1 : ∀ k, g' 56 0 k = g 56 0 k) (h2 : ∀ k, g' 57 0 k = g 57 0 k) : LH G S n g' := ⟨by rw [h0]; exact h.1, fun q hq hb => by rw [h1, h2]; exact h.2 q hq hb⟩
def tsk : List (Nat × Nat) := [(53, 0), (54, 0), (55, 0), (56, 0), (57, 0)]
def ksk : List (Nat × Nat × Nat) := [(40, 0, 25)]
noncomputable def x00 (a : Nat) (B0 : Nat → Int) : FB := (ui (fun _ => -1) a 0, ui B0 a (-1))
theorem FO_00 {a : Nat} {B0 : Nat → Int} (ha : a < 256) : FO (x00 a B0) := fun T hT => by
  unfold x00 ui
  dsimp only
  split <;> omega
theorem m_shakes (c s H : Nat) (G : Nat → Nat) (h : HH) (h8 : c ≤ 8) (hV : VT c G) (hR : RW (2 * c) G s h) (hH : H < 2 ^ 31) :
    Sp mX11_shakes [vr 40 0, vi H] h (fun z g => z = none ∧ HM c (fta G c H (2 ^ c - 1) (2 ^ c) (x00 (2 ^ c - 1) (h 55 0))) g ∧ Fr tsk ksk h g) := by
  have hp : 0 < 2 ^ c := Nat.pow_pos (by omega)
  have hq8 : 2 ^ c ≤ 256 := Nat.pow_le_pow_right (n := 2) (by omega) h8
  generalize hXF : fta G c H (2 ^ c - 1) (2 ^ c) (x00 (2 ^ c - 1) (h 55 0)) = XF
  have h16 : ∀ i, i < 2 * c → G i < 16 := hV.s h8
  have RWk : ∀ g : HH, Fr tsk ksk h g → RW (2 * c) G s g := fun g hF => hR.keep (hF 40 0 20 (by simp [tsk]) (by simp [ksk])) (hF 40 0 24 (by simp [tsk]) (by simp [ksk])) (fun k => hF 50 0 k (by simp [tsk]) (by simp [ksk]))
  have Lo : ∀ (k : Nat) (x : FB) (g : HH), k < 2 ^ c → HM c x g → FO x → fta G c H (2 ^ c - 1) (k + 1) x = XF → Fr tsk ksk h g → AW mX11_shakes (fun z g => z = none ∧ HM c XF g ∧ Fr tsk ksk h g) 47 [(3, vi k), (2, vi ((2 ^ c - 1 : Nat) : Int)), (0, vr 40 0), (1, vi H)] [] g := by
    intro k
    induction k with
    | zero =>
      intro x g hk hM hO hx hF
      have e : x = XF := by rw [← hx]; exact (fstep_0 G c H _ x).symm
      refine u_iloadn (k := 33) rfl rfl ?_
      refine a_if_le (k := 34) rfl (fun c_48 => ?_) (fun c_48 => ?_)
      · refine a_return (k := 103) rfl rfl ?_
        exact ⟨rfl, by rw [← e]; exact hM, hF⟩
      · omega
    | succ k ih =>
      intro x g hk hM hO hx hF
      have hv := (hM (k + 1) hk).1
      have ho := hO (k + 1) (by omega)
      have next : ∀ (g : HH) , HM c (fstep G c H (2 ^ c - 1) (k + 1) x) g → Fr tsk ksk h g → AW mX11_shakes (fun z g => z = none ∧ HM c XF g ∧ Fr tsk ksk h g) 167 [(3, vi ((k + 1 : Nat) : Int)), (2, vi ((2 ^ c - 1 : Nat) : Int)), (0, vr 40 0), (1, vi H)] [] g := by
        intro g hM hF
        have := ih _ g (by omega) hM (hO.fstep (by omega)).1 hx hF
        refine u_iinc (k := 101) (lv' := [(3, _), (2, _), (0, _), (1, _)]) rfl rfl (Nat.le_of_ble_eq_true rfl) (by omega) rfl ?_
        refine a_goto (k := 102) rfl ?_
        rw [show (((k + 1 : Nat) : Int) + -1) = (k : Int) by omega]
        exact this
      by_cases hvis : x.1 (k + 1) = -1
      · refine u_iloadn (k := 33) rfl rfl ?_
        refine a_if_le (k := 34) rfl (fun c_48 => ?_) (fun c_48 => ?_)
        · omega
        · refine u_aloadn (k := 35) rfl rfl ?_
          refine a_getr (k := 36) rfl fRX11_54 rfl rfl rfl ?_
          refine u_iloadn (k := 37) rfl rfl ?_
          refine u_iald (k := 38) rfl rfl rfl (by omega) ?_
          refine a_if_lt (k := 39) rfl (fun c_57 => ?_) (fun c_57 => ?_)
          · exact next g (by rw [fstep_n hvis]; exact hM) hF
          · omega
      · have hls := mls_mm (H := H) hV hk
        have hML : ∀ m, m ≤ 64 → ML (k + 1) (mm (rmv G c (k + 1) H) m) := fun m hm => mm_ML hm (fun a b hab => (imv_S hab).1)
        have Li : ∀ (d m : Nat) (g : HH), m + d = 64 → LH G (k + 1) (2 * c) g → HM c (rli (k + 1) (2 ^ c - 1) (mm (rmv G c (k + 1) H) m) x (mm (rmv G c (k + 1) H) m).length) g → Fr tsk ksk h g → AW mX11_shakes (fun z g => z = none ∧ HM c XF g ∧ Fr tsk ksk h g) 68 [(4, vi m), (3, vi ((k + 1 : Nat) : Int)), (2, vi ((2 ^ c - 1 : Nat) : Int)), (0, vr 40 0), (1, vi H)] [] g := by
          intro d
          induction d with
          | zero =>
            intro m g hm hL hM hF
            have hm : m = 64 := by omega
            subst hm
            refine u_iload (k := 45) rfl rfl ?_
            refine a_bipush (k := 46) rfl ?_
            refine a_icmp_ge (k := 47) rfl (fun c_72 => ?_) (fun c_72 => ?_)
            · refine a_sub [1, 2, 3, 4] rfl ?_
              exact next g (by rw [fstep_p hvis, hls]; exact hM) hF
            · omega
          | succ d ihd =>
            intro m g hm hL hM hF
            have hms := mm_s (rmv G c (k + 1) H) m
            obtain ⟨o1, o2, o3⟩ := rli_ok (a := 2 ^ c - 1) (hML m (by omega)) hO (show k + 1 < 256 by omega) (by omega) _ (Nat.le_refl _)
            have e8 : ((m : Int) / 8) = ((m / 8 : Nat) : Int) := by omega
            have e9 : ((m : Int) % 8) = ((m % 8 : Nat) : Int) := by omega
            have skip : ¬ (m / 8 ≤ m % 8 ∧ rmv G c (k + 1) H (m / 8) (m % 8) = true) → AW mX11_shakes (fun z g => z = none ∧ HM c XF g ∧ Fr tsk ksk h g) 161 [(4, vi m), (3, vi ((k + 1 : Nat) : Int)), (2, vi ((2 ^ c - 1 : Nat) : Int)), (0, vr 40 0), (1, vi H)] [] g := by
              intro hno
              rw [if_neg hno, List.append_nil] at hms
              refine u_iinc (k := 99) (lv' := [(4, _), (3, _), (2, _), (0, _), (1, _)]) rfl rfl (Nat.le_of_ble_eq_true rfl) (by omega) rfl ?_
              refine a_goto (k := 100) rfl ?_
              exact ihd (m + 1) g (by omega) hL (by rw [hms]; exact hM) hF
            by_cases hle : m / 8 ≤ m % 8
            · by_cases hmv : rmv G c (k + 1) H (m / 8) (m % 8) = true
              · rw [if_pos ⟨hle, hmv⟩] at hms
                have hbit := (imv_S hmv).1
                have hlt : ndiff (k + 1) (2 ^ (m / 8) ||| 2 ^ (m % 8)) < k + 1 := ndiff_lt hbit
                have etk : tkb (10 * (m / 8) + m % 8) = 2 ^ (m / 8) ||| 2 ^ (m % 8) := tkb_ab (by omega)
                have hadd : rli (k + 1) (2 ^ c - 1) (mm (rmv G c (k + 1) H) (m + 1)) x (mm (rmv G c (k + 1) H) (m + 1)).length = rl1 (k + 1) (2 ^ c - 1) (10 * (m / 8) + m % 8) (rli (k + 1) (2 ^ c - 1) (mm (rmv G c (k + 1) H) m) x (mm (rmv G c (k + 1) H) m).length) := by rw [hms]; exact rli_add
                generalize rli (k + 1) (2 ^ c - 1) (mm (rmv G c (k + 1) H) m) x (mm (rmv G c (k + 1) H) m).length = y at hM o1 o2 o3 hadd
                have hyS := hM (k + 1) hk
                have hyT := hM _ (show ndiff (k + 1) (2 ^ (m / 8) ||| 2 ^ (m % 8)) < 2 ^ c by omega)
                have oT := o1 _ (show ndiff (k + 1) (2 ^ (m / 8) ||| 2 ^ (m % 8)) < 256 by omega)
                have oS := o1 (k + 1) (by omega)
                have T158 : ∀ v : Int, v = fsv (k + 1) (2 ^ c - 1) (10 * (m / 8) + m % 8) y → AW mX11_shakes (fun z g => z = none ∧ HM c XF g ∧ Fr tsk ksk h g) 158 [(4, vi m), (3, vi ((k + 1 : Nat) : Int)), (2, vi ((2 ^ c - 1 : Nat) : Int)), (0, vr 40 0), (1, vi H)] [vi v, vi (y.1 (k + 1) + 1), vi ((ndiff (k + 1) (2 ^ (m / 8) ||| 2 ^ (m % 8)) : Nat) : Int), vr 40 0] g := by
                  intro v hv
                  have hCC : CC (ndiff (k + 1) (2 ^ (m / 8) ||| 2 ^ (m % 8))) (y.1 (k + 1) + 1) v g ↔ RC (k + 1) (2 ^ c - 1) (10 * (m / 8) + m % 8) y := by
                    unfold CC RC
                    rw [etk, hyT.1, hyT.2, ← hv]
                    constructor <;> intro z <;> omega
                  refine uv_virt3 (M' := mX11_comesTo) (k := 98) rfl lRX11_196 oX11_comesTo vX11_comesTo ⟨Nat.le_of_ble_eq_true rfl, Nat.le_of_ble_eq_true rfl⟩ rfl rfl (Nat.le_of_ble_eq_true rfl) (m_comesTo (ndiff (k + 1) (2 ^ (m / 8) ||| 2 ^ (m % 8))) (y.1 (k + 1) + 1) v g (by omega)) (by intro r g hp; exact hp.1) (fun g2 hg2 => ?_)
                  obtain ⟨-, k1, k2⟩ := hg2
                  refine u_iinc (k := 99) (lv' := [(4, _), (3, _), (2, _), (0, _), (1, _)]) rfl rfl (Nat.le_of_ble_eq_true rfl) (by omega) rfl ?_
                  refine a_goto (k := 100) rfl ?_
                  by_cases hr : RC (k + 1) (2 ^ c - 1) (10 * (m / 8) + m % 8) y
                  · have e := k1 (hCC.mpr hr)
                    subst e
                    refine ihd (m + 1) _ (by omega) (hL.keep (by simp only [put_apply, Nat.reduceEqDiff, reduceIte, false_and, and_false, true_and, and_true, and_self, if_false, if_true, not_false_eq_true, not_true_eq_false, ne_eq]) (fun k => by simp only [put_apply, Nat.reduceEqDiff, reduceIte, false_and, and_false, true_and, and_true, and_self, if_false, if_true, not_false_eq_true, not_true_eq_false, ne_eq]) (fun k => by simp only [put_apply, Nat.reduceEqDiff, reduceIte, false_and, and_false, true_and, and_true, and_self, if_false, if_true, not_false_eq_true, not_true_eq_false, ne_eq])) ?_ ((hF.p1 (by simp [tsk])).p1 (by simp [tsk]))
                    rw [hadd, rl1_p hr, etk, hv]
                    exact hM.put
                  · have e := k2 (fun z => hr (hCC.mp z))
                    subst e
                    exact ihd (m + 1) _ (by omega) hL (by rw [hadd, rl1_n hr]; exact hM) hF
                refine u_iload (k := 45) rfl rfl ?_
                refine a_bipush (k := 46) rfl ?_
                refine a_icmp_ge (k := 47) rfl (fun c_72 => ?_) (fun c_72 => ?_)
                · omega
                · refine u_iload (k := 48) rfl rfl ?_
                  refine a_bipush (k := 49) rfl ?_
                  refine u_idiv (k := 50) rfl (by omega) (by omega) ?_
                  refine u_iload (k := 51) rfl rfl ?_
                  refine a_bipush (k := 52) rfl ?_
                  refine u_irem (k := 53) rfl (by omega) (by omega) ?_
                  refine a_icmp_gt (k := 54) rfl (fun c_85 => ?_) (fun c_85 => ?_)
                  · omega
                  · refine u_aloadn (k := 55) rfl rfl ?_
                    refine u_iloadn (k := 56) rfl rfl ?_
                    refine u_iloadn (k := 57) rfl rfl ?_
                    refine u_iload (k := 58) rfl rfl ?_
                    refine a_bipush (k := 59) rfl ?_
                    refine u_idiv (k := 60) rfl (by omega) (by omega) ?_
                    refine u_iload (k := 61) rfl rfl ?_
                    refine a_bipush (k := 62) rfl ?_
                    refine u_irem (k := 63) rfl (by omega) (by omega) ?_
                    rw [e8, e9]
                    refine i_virt4 (M' := mX11_isMove) (k := 64) rfl lRX11_188 oX11_isMove vX11_isMove ⟨Nat.le_of_ble_eq_true rfl, Nat.le_of_ble_eq_true rfl⟩ rfl rfl (Nat.le_of_ble_eq_true rfl) (m_move hV h8 hL hk hH (by omega) (by omega)) ?_
                    rw [hmv]
                    refine a_if_eq (k := 65) rfl (fun c_104 => ?_) (fun c_104 => ?_)
                    · exact absurd c_104 (by decide)
                    · refine u_aloadn (k := 66) rfl rfl ?_
                      refine u_iloadn (k := 67) rfl rfl ?_
                      refine u_iload (k := 68) rfl rfl ?_
                      refine a_bipush (k := 69) rfl ?_
                      refine u_idiv (k := 70) rfl (by omega) (by omega) ?_
                      refine u_iload (k := 71) rfl rfl ?_
                      refine a_bipush (k := 72) rfl ?_
                      refine u_irem (k := 73) rfl (by omega) (by omega) ?_
                      rw [e8, e9]
                      refine i_stat3 (M' := mX11_without) (k := 74) rfl lRX11_192 oX11_without vX11_without ⟨Nat.le_of_ble_eq_true rfl, Nat.le_of_ble_eq_true rfl⟩ rfl (Nat.le_of_ble_eq_true rfl) (m_without (k + 1) (m / 8) (m % 8) g (by omega) (by omega) (by omega)) ?_
                      refine u_aloadn (k := 75) rfl rfl ?_
                      refine a_getr (k := 76) rfl fRX11_54 rfl rfl rfl ?_
                      refine u_iloadn (k := 77) rfl rfl ?_
                      refine u_ialdx (k + 1) (k := 78) rfl rfl rfl (by omega) (by omega) ?_
                      rw [hyS.1]
                      refine a_iconst (k := 79) rfl ?_
                      refine u_iadd (k := 80) rfl (by omega) ?_
                      refine u_iloadn (k := 81) rfl rfl ?_
                      refine u_iloadn (k := 82) rfl rfl ?_
                      refine a_icmp_ne (k := 83) rfl (fun c_132 => ?_) (fun c_132 => ?_)
                      · refine u_aloadn (k := 94) rfl rfl ?_
                        refine a_getr (k := 95) rfl fRX11_57 rfl rfl rfl ?_
                        refine u_iloadn (k := 96) rfl rfl ?_
                        refine u_ialdx (k + 1) (k := 97) rfl rfl rfl (by omega) (by omega) ?_
                        refine T158 _ ?_
                        unfold fsv
                        first
                          | (rw [if_pos (by omega)]; omega)
                          | (rw [if_neg (by omega)]; exact hyS.2)
                      · refine a_bipush (k := 84) rfl ?_
                        refine u_iload (k := 85) rfl rfl ?_
                        refine a_bipush (k := 86) rfl ?_
                        refine u_idiv (k := 87) rfl (by omega) (by omega) ?_
                        refine u_imul (k := 88) rfl (by omega) ?_
                        refine u_iload (k := 89) rfl rfl ?_
                        refine a_bipush (k := 90) rfl ?_
                        refine u_irem (k := 91) rfl (by omega) (by omega) ?_
                        refine u_iadd (k := 92) rfl (by omega) ?_
                        refine a_goto (k := 93) rfl ?_
                        refine T158 _ ?_
                        unfold fsv
                        first
                          | (rw [if_pos (by omega)]; omega)
                          | (rw [if_neg (by omega)]; exact hyS.2)
              · refine u_iload (k := 45) rfl rfl ?_
                refine a_bipush (k := 46) rfl ?_
                refine a_icmp_ge (k := 47) rfl (fun c_72 => ?_) (fun c_72 => ?_)
                · omega
                · refine u_iload (k := 48) rfl rfl ?_
                  refine a_bipush (k := 49) rfl ?_
                  refine u_idiv (k := 50) rfl (by omega) (by omega) ?_
                  refine u_iload (k := 51) rfl rfl ?_
                  refine a_bipush (k := 52) rfl ?_
                  refine u_irem (k := 53) rfl (by omega) (by omega) ?_
                  refine a_icmp_gt (k := 54) rfl (fun c_85 => ?_) (fun c_85 => ?_)
                  · omega
                  · refine u_aloadn (k := 55) rfl rfl ?_
                    refine u_iloadn (k := 56) rfl rfl ?_
                    refine u_iloadn (k := 57) rfl rfl ?_
                    refine u_iload (k := 58) rfl rfl ?_
                    refine a_bipush (k := 59) rfl ?_
                    refine u_idiv (k := 60) rfl (by omega) (by omega) ?_
                    refine u_iload (k := 61) rfl rfl ?_
                    refine a_bipush (k := 62) rfl ?_
                    refine u_irem (k := 63) rfl (by omega) (by omega) ?_
                    rw [e8, e9]
                    refine i_virt4 (M' := mX11_isMove) (k := 64) rfl lRX11_188 oX11_isMove vX11_isMove ⟨Nat.le_of_ble_eq_true rfl, Nat.le_of_ble_eq_true rfl⟩ rfl rfl (Nat.le_of_ble_eq_true rfl) (m_move hV h8 hL hk hH (by omega) (by omega)) ?_
                    rw [show rmv G c (k + 1) H (m / 8) (m % 8) = false by revert hmv; cases rmv G c (k + 1) H (m / 8) (m % 8) <;> simp]
                    refine a_if_eq (k := 65) rfl (fun c_104 => ?_) (fun c_104 => ?_)
                    · exact skip (fun z => hmv z.2)
                    · exact absurd rfl c_104
            · refine u_iload (k := 45) rfl rfl ?_
              refine a_bipush (k := 46) rfl ?_
              refine a_icmp_ge (k := 47) rfl (fun c_72 => ?_) (fun c_72 => ?_)
              · omega
              · refine u_iload (k := 48) rfl rfl ?_
                refine a_bipush (k := 49) rfl ?_
                refine u_idiv (k := 50) rfl (by omega) (by omega) ?_
                refine u_iload (k := 51) rfl rfl ?_
                refine a_bipush (k := 52) rfl ?_
                refine u_irem (k := 53) rfl (by omega) (by omega) ?_
                refine a_icmp_gt (k := 54) rfl (fun c_85 => ?_) (fun c_85 => ?_)
                · exact skip (fun z => hle z.1)
                · omega
        refine u_iloadn (k := 33) rfl rfl ?_
        refine a_if_le (k := 34) rfl (fun c_48 => ?_) (fun c_48 => ?_)
        · omega
        · refine u_aloadn (k := 35) rfl rfl ?_
          refine a_getr (k := 36) rfl fRX11_54 rfl rfl rfl ?_
          refine u_iloadn (k := 37) rfl rfl ?_
          refine u_iald (k := 38) rfl rfl rfl (by omega) ?_
          refine a_if_lt (k := 39) rfl (fun c_57 => ?_) (fun c_57 => ?_)
          · omega
          · refine u_aloadn (k := 40) rfl rfl ?_
            refine u_iloadn (k := 41) rfl rfl ?_
            refine uv_virt1 (M' := mX11_leaves) (k := 42) rfl lRX11_185 oX11_leaves vX11_leaves ⟨Nat.le_of_ble_eq_true rfl, Nat.le_of_ble_eq_true rfl⟩ rfl rfl (Nat.le_of_ble_eq_true rfl) (m_leaves (2 * c) s (k + 1) G g (by omega) (by omega) (RWk g hF) h16 hV.2) (by intro r g hp; exact hp.1) (fun g2 hg2 => ?_)
            obtain ⟨-, hL2, hF2⟩ := hg2
            refine a_iconst (k := 43) rfl ?_
            refine a_istore (k := 44) (lv' := [(4, _), (3, _), (2, _), (0, _), (1, _)]) rfl (Nat.le_of_ble_eq_true rfl) rfl ?_
            exact Li 64 0 g2 (by omega) hL2 (hM.keep (fun q => hF2 54 0 q (by simp) (by simp)) (fun q => hF2 55 0 q (by simp) (by simp))) (hF.tr hF2 (by simp [tsk]) (by simp [ksk]))
  refine Sp.of rfl kX11_shakes (Nat.le_of_ble_eq_true rfl) ?_
  have Lf : ∀ (d q : Nat) (g : HH), q + d = 2 ^ c → (∀ T, T < q → g 54 0 T = -1) → Fr [(54, 0)] [] h g → AW mX11_shakes (fun z g => z = none ∧ HM c XF g ∧ Fr tsk ksk h g) 13 [(3, vi q), (2, vi ((2 ^ c - 1 : Nat) : Int)), (0, vr 40 0), (1, vi H)] [] g := by
    intro d
    induction d with
    | zero =>
      intro q g hq hf hF
      have fin : AW mX11_shakes (fun z g => z = none ∧ HM c XF g ∧ Fr tsk ksk h g) 47 [(3, vi ((2 ^ c - 1 : Nat) : Int)), (2, vi ((2 ^ c - 1 : Nat) : Int)), (0, vr 40 0), (1, vi H)] [] (put (put g 54 0 (2 ^ c - 1) 0) 55 0 (2 ^ c - 1) (-1)) := by
        refine Lo (2 ^ c - 1) (x00 (2 ^ c - 1) (h 55 0)) _ (by omega) (fun T hT => ?_) (FO_00 (by omega)) (by rw [show 2 ^ c - 1 + 1 = 2 ^ c by omega]; exact hXF) (((hF.mono (by simp [tsk]) (by simp)).p1 (by simp [tsk])).p1 (by simp [tsk]))
        unfold x00 ui
        dsimp only
        by_cases he : T = 2 ^ c - 1
        · rw [if_pos he, if_pos he, he, put_ne (by omega), put_eq, put_eq]; exact ⟨rfl, rfl⟩
        · rw [if_neg he, if_neg he, put_ne (by omega), put_ne (by omega), put_ne (by omega), put_ne (by omega)]
          exact ⟨hf T (by omega), hF 55 0 T (by simp) (by simp)⟩
      refine u_iloadn (k := 11) rfl rfl ?_
      refine u_iloadn (k := 12) rfl rfl ?_
      refine a_icmp_gt (k := 13) rfl (fun c_15 => ?_) (fun c_15 => ?_)
      · refine u_aloadn (k := 21) rfl rfl ?_
        refine a_getr (k := 22) rfl fRX11_54 rfl rfl rfl ?_
        refine u_iloadn (k := 23) rfl rfl ?_
        refine a_iconst (k := 24) rfl ?_
        refine u_iast (k := 25) rfl rfl rfl (by omega) ?_
        refine u_aloadn (k := 26) rfl rfl ?_
        refine a_getr (k := 27) rfl fRX11_57 rfl rfl rfl ?_
        refine u_iloadn (k := 28) rfl rfl ?_
        refine a_iconst (k := 29) rfl ?_
        refine u_iast (k := 30) rfl rfl rfl (by omega) ?_
        refine u_iloadn (k := 31) rfl rfl ?_
        refine a_istoren (k := 32) (lv' := [(3, _), (2, _), (0, _), (1, _)]) rfl (Nat.le_of_ble_eq_true rfl) rfl ?_
        exact fin
      · omega
    | succ d ih =>
      intro q g hq hf hF
      refine u_iloadn (k := 11) rfl rfl ?_
      refine u_iloadn (k := 12) rfl rfl ?_
      refine a_icmp_gt (k := 13) rfl (fun c_15 => ?_) (fun c_15 => ?_)
      · omega
      · refine u_aloadn (k := 14) rfl rfl ?_
        refine a_getr (k := 15) rfl fRX11_54 rfl rfl rfl ?_
        refine u_iloadn (k := 16) rfl rfl ?_
        refine a_iconst (k := 17) rfl ?_
        refine u_iast (k := 18) rfl rfl rfl (by omega) ?_
        refine u_iinc (k := 19) (lv' := [(3, _), (2, _), (0, _), (1, _)]) rfl rfl (Nat.le_of_ble_eq_true rfl) (by omega) rfl ?_
        refine a_goto (k := 20) rfl ?_
        refine ih (q + 1) _ (by omega) (fun T hT => ?_) (hF.p1 (by simp))
        by_cases he : T = q
        · subst he; rw [put_eq]
        · rw [put_ne (by simp [he])]; exact hf T (by omega)
  refine a_iconst (k := 0) rfl ?_
  refine u_aloadn (k := 1) rfl rfl ?_
  refine a_geti (k := 2) rfl fRX11_156 rfl rfl ?_
  refine a_iconst (k := 3) rfl ?_
  rw [hR.1]
  refine u_idiv (k := 4) rfl (by omega) (by omega) ?_
  rw [show (((2 * c : Nat) : Int) / 2) = (c : Int) by omega]
  refine a_ishl (k := 5) rfl ?_
  refine a_iconst (k := 6) rfl ?_
  rw [shl1 (by omega)]
  refine u_isub (k := 7) rfl (by omega) ?_
  rw [show (((2 ^ c : Nat) : Int) - 1) = ((2 ^ c - 1 : Nat) : Int) by omega]
  refine a_istoren (k := 8) (lv' := [(2, _), (0, _), (1, _)]) rfl (Nat.le_of_ble_eq_true rfl) rfl ?_
  refine a_iconst (k := 9) rfl ?_
  refine a_istoren (k := 10) (lv' := [(3, _), (2, _), (0, _), (1, _)]) rfl (Nat.le_of_ble_eq_true rfl) rfl ?_
  exact Lf (2 ^ c) 0 h (by omega) (fun T hT => absurd hT (Nat.not_lt_zero T)) Fr.rf
