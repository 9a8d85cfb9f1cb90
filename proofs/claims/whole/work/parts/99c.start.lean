theorem whole_start {p : Program} {e : Env} {s : State} {m : MethodId} {below : List Frame} {meth : Method} {c : Code} (l : Launch) {b L : Nat} {xs : Nat → Int32} (hL : L ≤ 256) (C0 : lw_At p s m meth c b L xs) : W p l e room_1 s m #[Value.ref b] below meth c s.heap [] 0 0 (lw_Z below #[Value.ref b] s) (entryFrame m ([Value.ref b] : List Value).toArray 4) := by
  obtain ⟨hx, hb, hr, hml, hown, hts, hX, hbl, hlocks, hgv⟩ := id C0
  obtain ⟨D, kc, hWK, hWO⟩ := start_wk hts
  have hl := lv_entry ([.ref b]) (n := 4) (Nat.le_of_ble_eq_true rfl)
  rw [lg_entry_eq]
  generalize (lg_sl ([.ref b]) ++ List.replicate (4 - (lg_sl ([.ref b])).length) Slot.unset).toArray = ls at hl ⊢
  let X : KE := (p, l, e, room_1, s, m, #[Value.ref b], below, meth, c, D, kc, (fun q => s.heap.size ≤ q), lw_Z below #[Value.ref b] s, R_law, code, 4, meth.name, [(99, 0)], fun _ _ => b)
  have C : X.ok := ⟨hx, hb, hml, hown, at_gd C0, hWK _, fun _ h => h, rfl, hWO⟩
  have e5 : X.K = [(99, 0)] := rfl
  have Dk : ∀ {k pc n np tg : Nat} {i : Instr}, tL_h[k]? = some (pc, i, n, np, tg) → decode X.code pc = .ok (i, n) := fun h => (ok_at kL_h h).1
  have K : KJ X 0 [(0, vr 99 0)] [] [] [] h00 [] 0 0 := by
    refine k_new (z := (0, 0)) (ty := tyX10) (ci := 10) C (Dk (k := 0) rfl) rfl rfl tyX10_ok cl_L7 ii_10 in_10 (nin_of e5 (by decide +kernel)) (fun _ => rfl) (df_10 _) (Nat.le_of_ble_eq_true rfl) (Nat.le_of_ble_eq_true rfl) ?_
    refine k_dup (q := (0, 0)) C (Dk (k := 1) rfl) ?_
    refine k_initB (h' := hX10) (K := [(99, 0)]) (L1 := []) (LL := LX10) (z := (0, 0)) (as := []) (by decide +kernel) e5 C (Dk (k := 2) rfl) ic_10 lL_9 io_10 ⟨Nat.le_of_ble_eq_true rfl, Nat.le_of_ble_eq_true rfl⟩ ⟨Nat.le_of_ble_eq_true rfl, Nat.le_of_ble_eq_true rfl⟩ rfl rfl (Nat.le_of_ble_eq_true rfl) rfl (fun _ _ => rfl) (fun q hq => by cases hq) ?_
    refine k_astore (r := (0, 0)) (lv' := [(1, vr 0 0), (0, vr 99 0)]) C (Dk (k := 3) rfl) rfl (Nat.lt_of_lt_of_le (by decide : 1 < 4) (Nat.le_refl 4)) (nl_of rfl) rfl ?_
    refine k_new (z := (40, 0)) (ty := tyX11) (ci := 11) C (Dk (k := 4) rfl) rfl rfl tyX11_ok cl_L10 ii_11 in_11 (nin_of e5 (by decide +kernel)) (fun k => hX10_0 (by omega) (by omega)) (df_11 _) (Nat.le_of_ble_eq_true rfl) (Nat.le_of_ble_eq_true rfl) ?_
    refine k_dup (q := (40, 0)) C (Dk (k := 5) rfl) ?_
    refine k_initB (h' := hZ) (K := [(99, 0)]) (L1 := [] ++ LX10) (LL := L11) (z := (40, 0)) (as := []) (by decide +kernel) e5 C (Dk (k := 6) rfl) ic_11 lL_12 io_11 ⟨Nat.le_of_ble_eq_true rfl, Nat.le_of_ble_eq_true rfl⟩ ⟨Nat.le_of_ble_eq_true rfl, Nat.le_of_ble_eq_true rfl⟩ rfl rfl (Nat.le_of_ble_eq_true rfl) (funext fun k => hX10_0 (by omega) (by omega)) (fun q hq => hZ_hi ((by decide +kernel : ∀ q ∈ L11, 40 ≤ q.1) q hq)) (fun q hq => hZ_lo ((by decide +kernel : ∀ q ∈ [] ++ LX10, ¬ 40 ≤ q.1) q hq)) ?_
    refine k_astore (r := (40, 0)) (lv' := [(2, vr 40 0), (1, vr 0 0), (0, vr 99 0)]) C (Dk (k := 7) rfl) rfl (Nat.lt_of_lt_of_le (by decide : 2 < 4) (Nat.le_refl 4)) (nl_of rfl) rfl ?_
    refine k_iconst C (Dk (k := 8) rfl) ⟨by decide, by decide⟩ ?_
    refine k_istore (lv' := [(3, vi 0), (2, vr 40 0), (1, vr 0 0), (0, vr 99 0)]) C (Dk (k := 9) rfl) rfl (Nat.lt_of_lt_of_le (by decide : 3 < 4) (Nat.le_refl 4)) (nl_of rfl) rfl ?_
    intro ad H locs ls I hP hD hS hl
    rw [Full.wm (full_of (by decide +kernel))] at hP hD
    obtain ⟨hP1, hD1⟩ := world_z hP hD
    have h2 : lv_has ls 4 [(0, .ref (ad 99 0)), (1, .ref (ad 0 0)), (2, .ref (ad 40 0)), (3, .int (nI 0))] := lv_sub hl [3, 2, 1, 0] rfl
    rw [show ad 99 0 = b from I.an (99, 0) List.mem_cons_self] at h2
    refine W.widen (k := 600000) (n := 7302250) (Nat.le_of_ble_eq_true rfl) (Nat.le_of_ble_eq_true rfl) ?_
    exact law_loop hL (L + 1) 0 99 σZ hZ (Nat.zero_le _) (by omega) (Nat.le_refl _) (Nat.le_refl _) σZ_w σZ_c σZ_m p l e s m below meth c b (D, kc, ad) H locs ls C0 (hWK ad) (fun v hv => by cases hv) hZ_w hP1 hD1 hS h2
  exact K (fun _ _ => b) s.heap [] ls ⟨fun _ _ => rfl, fun q hq => by
    rw [List.mem_singleton.mp hq]
    exact List.mem_cons_self, fun v hv => (by cases hv), fun q hq => (by cases hq), fun q hq => (by cases hq), fun q hq => (by cases hq)⟩ (fun k q h => by simp [wm] at h) ⟨fun i j p q h => by simp [wm] at h, fun k q h => by simp [wm] at h⟩ va_S.rf hl
