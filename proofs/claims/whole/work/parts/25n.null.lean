section AWN
variable {M : MD} {P : Option AV → HH → Prop} {lv lv' : LV} {st : List AV} {h : HH} {k pc np tg : Nat}
theorem u_aloadnN {x : Fin 4} (hd : (tb M)[k]? = some (pc, .aload_n x, 1, np, tg)) (hj : lk lv x.val = some vn) (kk : AW M P np lv (vn :: st) h) : AW M P pc lv st h := by
  obtain ⟨j, hj⟩ := lk_at hj
  intro l p e s m args below meth c G A C hl hs hw H locs ls hP hD hS hv
  obtain ⟨d1, rfl, d3, d4⟩ := ok_at C.2.2.2.2.2.2.2.2.1 hd
  refine lv_aload_nN C.1 C.2.1 d1 rfl (lv_get hv hj) ?_
  exact kk l p e s m args below meth c G A C hl (rg_k (lv_rgj hl hj) hs) hw H locs ls hP hD hS hv
theorem u_aloadN {x : Nat} (hd : (tb M)[k]? = some (pc, .aload x, 2, np, tg)) (hj : lk lv x = some vn) (kk : AW M P np lv (vn :: st) h) : AW M P pc lv st h := by
  obtain ⟨j, hj⟩ := lk_at hj
  intro l p e s m args below meth c G A C hl hs hw H locs ls hP hD hS hv
  obtain ⟨d1, rfl, d3, d4⟩ := ok_at C.2.2.2.2.2.2.2.2.1 hd
  refine lv_aloadN C.1 C.2.1 d1 (lv_get hv hj) ?_
  exact kk l p e s m args below meth c G A C hl (rg_k (lv_rgj hl hj) hs) hw H locs ls hP hD hS hv
theorem a_astorenN {x : Fin 4} (hd : (tb M)[k]? = some (pc, .astore_n x, 1, np, tg)) (hn : x.val < M.2.2.1) (hl' : s1 lv x.val vn = lv') (kk : AW M P np lv' st h) : AW M P pc lv (vn :: st) h := by
  intro l p e s m args below meth c G A C hl hs hw H locs ls hP hD hS hv
  obtain ⟨d1, rfl, d3, d4⟩ := ok_at C.2.2.2.2.2.2.2.2.1 hd
  obtain ⟨r1, hs⟩ := rg_c hs
  subst hl'
  refine lv_astore_nN C.1 C.2.1 d1 rfl hv hn (s1_cv G.2.2 lv x.val vn) fun ls' hv' => ?_
  exact kk l p e s m args below meth c G A C (s1_rg r1 hl) hs hw H locs ls' hP hD hS hv'
theorem a_astoreNl {x : Nat} (hd : (tb M)[k]? = some (pc, .astore x, 2, np, tg)) (hn : x < M.2.2.1) (hl' : s1 lv x vn = lv') (kk : AW M P np lv' st h) : AW M P pc lv (vn :: st) h := by
  intro l p e s m args below meth c G A C hl hs hw H locs ls hP hD hS hv
  obtain ⟨d1, rfl, d3, d4⟩ := ok_at C.2.2.2.2.2.2.2.2.1 hd
  obtain ⟨r1, hs⟩ := rg_c hs
  subst hl'
  refine lv_astoreN C.1 C.2.1 d1 hv hn (s1_cv G.2.2 lv x vn) fun ls' hv' => ?_
  exact kk l p e s m args below meth c G A C (s1_rg r1 hl) hs hw H locs ls' hP hD hS hv'
end AWN
