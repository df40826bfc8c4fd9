/-! the law's cases, by program (genL.py) -/
set_option maxRecDepth 100000 in
set_option maxHeartbeats 4000000 in
/-- feed -/
theorem lw_x_0 {p : Program} {l : Launch} {e : Env} {s : State} {m : MethodId} {below : List Frame} {meth : Method} {c : Code} {b L : Nat} {xs : Nat → Int32} {D : va_G} {cG : Nat → ClassId} {tG : Nat → Nat} (CX : LCx p l s m meth c b L xs D cG tG) {h mm o i cells slots : Nat} (hi : i + 6 ≤ L) (hcs : cells + 8 ≤ room_1.cells ∧ slots + 1000 ≤ room_1.slots) (nx : NX p l e s m below meth c b D cG tG h mm o i 1812 (cells + 8) (slots + 1000)) : NX p l e s m below meth c b D cG tG h mm o i 212 cells slots := by
  intro g Z σ τ A f H locs ls e0 e2 hJ hXX hP hD hS hl
  obtain ⟨F, hF⟩ : ∃ F : Nat, 50000 ≤ F := ⟨50000, Nat.le_refl _⟩
  obtain ⟨⟨hx, hb, hr, hml, hown, hts, hX, hbl, hlocks, hgv⟩, hl0, hL, hKE, hXE⟩ := id CX
  have hts : ∀ w ∈ hU, w.before #[Value.ref b] s = true := fun w hw => hts w (hU_tbl hw)
  have hown : s.vm.findClass RL = some m.cls := hown
  subst e0
  subst e2
  have hK := (hKE g).1
  have hE := (hKE g).2
  have hA : ∀ q : Nat, s.heap.size ≤ q → AA s q := fun _ h => h
  have hbA : ¬ AA s b := Nat.not_le.mpr hbl
  refine lv_aload_n hx hb dL_law_212 rfl (lv_at hl 2 rfl) ?_
  refine lw_ld (k := 1) (v := (1 : Int32)) hx hb hX hbl hbA hS hl (n0 := 1) (n4 := 0) rfl rfl rfl (by decide) (by omega) hL dL_law_213 dL_law_214 dL_law_216 dL_law_217 dL_law_218 ?_
  refine lw_ld (k := 2) (v := (2 : Int32)) hx hb hX hbl hbA hS hl (n0 := 1) (n4 := 0) rfl rfl rfl (by decide) (by omega) hL dL_law_219 dL_law_220 dL_law_222 dL_law_223 dL_law_224 ?_
  refine lw_ld (k := 3) (v := (3 : Int32)) hx hb hX hbl hbA hS hl (n0 := 1) (n4 := 0) rfl rfl rfl (by decide) (by omega) hL dL_law_225 dL_law_226 dL_law_228 dL_law_229 dL_law_230 ?_
  refine lw_ld (k := 4) (v := (4 : Int32)) hx hb hX hbl hbA hS hl (n0 := 1) (n4 := 0) rfl rfl rfl (by decide) (by omega) hL dL_law_231 dL_law_232 dL_law_234 dL_law_235 dL_law_236 ?_
  refine lw_ld (k := 5) (v := (5 : Int32)) hx hb hX hbl hbA hS hl (n0 := 1) (n4 := 0) rfl rfl rfl (by decide) (by omega) hL dL_law_237 dL_law_238 dL_law_240 dL_law_241 dL_law_242 ?_
  refine W.widen (k := cells + 8) (n := slots + 1000) (by omega) (by omega) ?_
  obtain ⟨v, A', σ', τ', h1, h2, hJ'⟩ := q_feed hF hJ (xs (i + 1)) (xs (i + 2)) (xs (i + 3)) (xs (i + 4)) (xs (i + 5))
  refine cl_V (G := (cG, g, tG)) (w := (hW (cG, g, tG) Z (mfix (cG, g, tG) τ ++ oL cG o f) σ)) (w' := (hW (cG, g, tG) Z (mfix (cG, g, tG) τ ++ oL cG o f) σ')) (rv := some (.int v)) (bytes := cX11_feed) (maxL := 7) (ret := (some .int)) (C := RX11) (As := [.int (xs (i + 1)), .int (xs (i + 2)), .int (xs (i + 3)), .int (xs (i + 4)), .int (xs (i + 5))]) (rest := []) (stk := [.int v]) ⟨hx, hb, hml, hown, hts⟩ hK hE hA hP hD hS (c_X11_feed l D (cG, g, tG) Z _ σ F (xs (i + 1)) (xs (i + 2)) (xs (i + 3)) (xs (i + 4)) (xs (i + 5)) (v, σ') h1) (cwV 5 hts (gwV wd_284 wd_285 wd_286 wd_1 wd_287) rfl rfl rfl hd_X11_feed ⟨Nat.le_of_ble_eq_true rfl, Nat.le_of_ble_eq_true rfl⟩) (hg_0 (cG, g, tG) Z _ σ) rfl rfl rfl hl.1 rfl (Nat.le_of_ble_eq_true rfl) dL_law_243 hcs rfl (fun H locs hP hD hS => ?_)
  exact lw_m_0 CX hi hcs nx rfl rfl h2 hJ' (JX_j hJ hJ' hXX) hP hD hS hl
set_option maxRecDepth 100000 in
set_option maxHeartbeats 4000000 in
/-- end -/
theorem lw_x_1 {p : Program} {l : Launch} {e : Env} {s : State} {m : MethodId} {below : List Frame} {meth : Method} {c : Code} {b L : Nat} {xs : Nat → Int32} {D : va_G} {cG : Nat → ClassId} {tG : Nat → Nat} (CX : LCx p l s m meth c b L xs D cG tG) {h mm o i cells slots : Nat} (hi : i + 6 ≤ L) (hcs : cells + 8 ≤ room_1.cells ∧ slots + 1000 ≤ room_1.slots) (nx : NX p l e s m below meth c b D cG tG h mm o i 1812 (cells + 8) (slots + 1000)) : NX p l e s m below meth c b D cG tG h mm o i 285 cells slots := by
  intro g Z σ τ A f H locs ls e0 e2 hJ hXX hP hD hS hl
  obtain ⟨F, hF⟩ : ∃ F : Nat, 50000 ≤ F := ⟨50000, Nat.le_refl _⟩
  obtain ⟨⟨hx, hb, hr, hml, hown, hts, hX, hbl, hlocks, hgv⟩, hl0, hL, hKE, hXE⟩ := id CX
  have hts : ∀ w ∈ hU, w.before #[Value.ref b] s = true := fun w hw => hts w (hU_tbl hw)
  have hown : s.vm.findClass RL = some m.cls := hown
  subst e0
  subst e2
  have hK := (hKE g).1
  have hE := (hKE g).2
  have hA : ∀ q : Nat, s.heap.size ≤ q → AA s q := fun _ h => h
  have hbA : ¬ AA s b := Nat.not_le.mpr hbl
  refine lv_aload_n hx hb dL_law_285 rfl (lv_at hl 2 rfl) ?_
  refine lw_ld (k := 1) (v := (1 : Int32)) hx hb hX hbl hbA hS hl (n0 := 1) (n4 := 0) rfl rfl rfl (by decide) (by omega) hL dL_law_286 dL_law_287 dL_law_289 dL_law_290 dL_law_291 ?_
  refine W.widen (k := cells + 8) (n := slots + 1000) (by omega) (by omega) ?_
  obtain ⟨v, A', σ', τ', h1, h2, hJ'⟩ := q_endc hJ (xs (i + 1))
  refine cl_V (G := (cG, g, tG)) (w := (hW (cG, g, tG) Z (mfix (cG, g, tG) τ ++ oL cG o f) σ)) (w' := (hW (cG, g, tG) Z (mfix (cG, g, tG) τ ++ oL cG o f) σ')) (rv := some (.int v)) (bytes := cX11_end) (maxL := 2) (ret := (some .boolean)) (C := RX11) (As := [.int (xs (i + 1))]) (rest := []) (stk := [.int v]) ⟨hx, hb, hml, hown, hts⟩ hK hE hA hP hD hS (c_X11_end l D (cG, g, tG) Z _ σ (xs (i + 1)) (v, σ') h1) (cwV 1 hts (gwV wd_295 wd_296 wd_297 wd_1 wd_298) rfl rfl rfl hd_X11_end ⟨Nat.le_of_ble_eq_true rfl, Nat.le_of_ble_eq_true rfl⟩) (hg_0 (cG, g, tG) Z _ σ) rfl rfl rfl hl.1 rfl (Nat.le_of_ble_eq_true rfl) dL_law_292 hcs rfl (fun H locs hP hD hS => ?_)
  exact lw_m_1 CX hi hcs nx rfl rfl h2 hJ' (JX_j hJ hJ' hXX) hP hD hS hl
set_option maxRecDepth 100000 in
set_option maxHeartbeats 4000000 in
/-- fault -/
theorem lw_x_2 {p : Program} {l : Launch} {e : Env} {s : State} {m : MethodId} {below : List Frame} {meth : Method} {c : Code} {b L : Nat} {xs : Nat → Int32} {D : va_G} {cG : Nat → ClassId} {tG : Nat → Nat} (CX : LCx p l s m meth c b L xs D cG tG) {h mm o i cells slots : Nat} (hi : i + 6 ≤ L) (hcs : cells + 8 ≤ room_1.cells ∧ slots + 1000 ≤ room_1.slots) (nx : NX p l e s m below meth c b D cG tG h mm o i 1812 (cells + 8) (slots + 1000)) : NX p l e s m below meth c b D cG tG h mm o i 310 cells slots := by
  intro g Z σ τ A f H locs ls e0 e2 hJ hXX hP hD hS hl
  obtain ⟨F, hF⟩ : ∃ F : Nat, 50000 ≤ F := ⟨50000, Nat.le_refl _⟩
  obtain ⟨⟨hx, hb, hr, hml, hown, hts, hX, hbl, hlocks, hgv⟩, hl0, hL, hKE, hXE⟩ := id CX
  have hts : ∀ w ∈ hU, w.before #[Value.ref b] s = true := fun w hw => hts w (hU_tbl hw)
  have hown : s.vm.findClass RL = some m.cls := hown
  subst e0
  subst e2
  have hK := (hKE g).1
  have hE := (hKE g).2
  have hA : ∀ q : Nat, s.heap.size ≤ q → AA s q := fun _ h => h
  have hbA : ¬ AA s b := Nat.not_le.mpr hbl
  refine lv_aload_n hx hb dL_law_310 rfl (lv_at hl 2 rfl) ?_
  refine lw_ld (k := 1) (v := (1 : Int32)) hx hb hX hbl hbA hS hl (n0 := 1) (n4 := 0) rfl rfl rfl (by decide) (by omega) hL dL_law_311 dL_law_312 dL_law_314 dL_law_315 dL_law_316 ?_
  refine W.widen (k := cells + 8) (n := slots + 1000) (by omega) (by omega) ?_
  obtain ⟨v, σ', τ', h1, h2, hJ'⟩ := q_fault hF hJ (xs (i + 1))
  refine cl_V (G := (cG, g, tG)) (w := (hW (cG, g, tG) Z (mfix (cG, g, tG) τ ++ oL cG o f) σ)) (w' := (hW (cG, g, tG) Z (mfix (cG, g, tG) τ ++ oL cG o f) σ')) (rv := some (.int v)) (bytes := cX11_fault) (maxL := 2) (ret := (some .int)) (C := RX11) (As := [.int (xs (i + 1))]) (rest := []) (stk := [.int v]) ⟨hx, hb, hml, hown, hts⟩ hK hE hA hP hD hS (c_X11_fault l D (cG, g, tG) Z _ σ F (xs (i + 1)) (v, σ') h1) (cwV 1 hts (gwV wd_299 wd_300 wd_301 wd_1 wd_302) rfl rfl rfl hd_X11_fault ⟨Nat.le_of_ble_eq_true rfl, Nat.le_of_ble_eq_true rfl⟩) (hg_0 (cG, g, tG) Z _ σ) rfl rfl rfl hl.1 rfl (Nat.le_of_ble_eq_true rfl) dL_law_317 hcs rfl (fun H locs hP hD hS => ?_)
  exact lw_m_2 CX hi hcs nx rfl rfl h2 hJ' (hXX) hP hD hS hl
set_option maxRecDepth 100000 in
set_option maxHeartbeats 4000000 in
/-- said -/
theorem lw_x_4 {p : Program} {l : Launch} {e : Env} {s : State} {m : MethodId} {below : List Frame} {meth : Method} {c : Code} {b L : Nat} {xs : Nat → Int32} {D : va_G} {cG : Nat → ClassId} {tG : Nat → Nat} (CX : LCx p l s m meth c b L xs D cG tG) {h mm o i cells slots : Nat} (hi : i + 6 ≤ L) (hcs : cells + 8 ≤ room_1.cells ∧ slots + 1000 ≤ room_1.slots) (nx : NX p l e s m below meth c b D cG tG h mm o i 1812 (cells + 8) (slots + 1000)) : NX p l e s m below meth c b D cG tG h mm o i 348 cells slots := by
  intro g Z σ τ A f H locs ls e0 e2 hJ hXX hP hD hS hl
  obtain ⟨F, hF⟩ : ∃ F : Nat, 50000 ≤ F := ⟨50000, Nat.le_refl _⟩
  obtain ⟨⟨hx, hb, hr, hml, hown, hts, hX, hbl, hlocks, hgv⟩, hl0, hL, hKE, hXE⟩ := id CX
  have hts : ∀ w ∈ hU, w.before #[Value.ref b] s = true := fun w hw => hts w (hU_tbl hw)
  have hown : s.vm.findClass RL = some m.cls := hown
  subst e0
  subst e2
  have hK := (hKE g).1
  have hE := (hKE g).2
  have hA : ∀ q : Nat, s.heap.size ≤ q → AA s q := fun _ h => h
  have hbA : ¬ AA s b := Nat.not_le.mpr hbl
  refine lv_aload_n hx hb dL_law_348 rfl (lv_at hl 2 rfl) ?_
  refine lw_ld (k := 1) (v := (1 : Int32)) hx hb hX hbl hbA hS hl (n0 := 1) (n4 := 0) rfl rfl rfl (by decide) (by omega) hL dL_law_349 dL_law_350 dL_law_352 dL_law_353 dL_law_354 ?_
  refine lw_ld (k := 2) (v := (2 : Int32)) hx hb hX hbl hbA hS hl (n0 := 1) (n4 := 0) rfl rfl rfl (by decide) (by omega) hL dL_law_355 dL_law_356 dL_law_358 dL_law_359 dL_law_360 ?_
  refine W.widen (k := cells + 8) (n := slots + 1000) (by omega) (by omega) ?_
  obtain ⟨v, τ', h1, h2, hJ'⟩ := q_said hF hJ (xs (i + 1)) (xs (i + 2))
  refine cl_V (G := (cG, g, tG)) (w := (hW (cG, g, tG) Z (mfix (cG, g, tG) τ ++ oL cG o f) σ)) (w' := (hW (cG, g, tG) Z (mfix (cG, g, tG) τ ++ oL cG o f) σ)) (rv := some (.int v)) (bytes := cX11_said) (maxL := 4) (ret := (some .int)) (C := RX11) (As := [.int (xs (i + 1)), .int (xs (i + 2))]) (rest := []) (stk := [.int v]) ⟨hx, hb, hml, hown, hts⟩ hK hE hA hP hD hS (c_X11_said l D (cG, g, tG) Z _ σ (xs (i + 1)) (xs (i + 2)) v h1) (cwV 2 hts (gwV wd_653 wd_654 wd_655 wd_1 wd_656) rfl rfl rfl hd_X11_said ⟨Nat.le_of_ble_eq_true rfl, Nat.le_of_ble_eq_true rfl⟩) (hg_0 (cG, g, tG) Z _ σ) rfl rfl rfl hl.1 rfl (Nat.le_of_ble_eq_true rfl) dL_law_361 hcs rfl (fun H locs hP hD hS => ?_)
  exact lw_m_4 CX hi hcs nx rfl rfl h2 hJ' (hXX) hP hD hS hl
set_option maxRecDepth 100000 in
set_option maxHeartbeats 4000000 in
/-- truth -/
theorem lw_x_5 {p : Program} {l : Launch} {e : Env} {s : State} {m : MethodId} {below : List Frame} {meth : Method} {c : Code} {b L : Nat} {xs : Nat → Int32} {D : va_G} {cG : Nat → ClassId} {tG : Nat → Nat} (CX : LCx p l s m meth c b L xs D cG tG) {h mm o i cells slots : Nat} (hi : i + 6 ≤ L) (hcs : cells + 8 ≤ room_1.cells ∧ slots + 1000 ≤ room_1.slots) (nx : NX p l e s m below meth c b D cG tG h mm o i 1812 (cells + 8) (slots + 1000)) : NX p l e s m below meth c b D cG tG h mm o i 385 cells slots := by
  intro g Z σ τ A f H locs ls e0 e2 hJ hXX hP hD hS hl
  obtain ⟨F, hF⟩ : ∃ F : Nat, 50000 ≤ F := ⟨50000, Nat.le_refl _⟩
  obtain ⟨⟨hx, hb, hr, hml, hown, hts, hX, hbl, hlocks, hgv⟩, hl0, hL, hKE, hXE⟩ := id CX
  have hts : ∀ w ∈ hU, w.before #[Value.ref b] s = true := fun w hw => hts w (hU_tbl hw)
  have hown : s.vm.findClass RL = some m.cls := hown
  subst e0
  subst e2
  have hK := (hKE g).1
  have hE := (hKE g).2
  have hA : ∀ q : Nat, s.heap.size ≤ q → AA s q := fun _ h => h
  have hbA : ¬ AA s b := Nat.not_le.mpr hbl
  refine lv_aload_n hx hb dL_law_385 rfl (lv_at hl 2 rfl) ?_
  refine lw_ld (k := 1) (v := (1 : Int32)) hx hb hX hbl hbA hS hl (n0 := 1) (n4 := 0) rfl rfl rfl (by decide) (by omega) hL dL_law_386 dL_law_387 dL_law_389 dL_law_390 dL_law_391 ?_
  refine lw_ld (k := 2) (v := (2 : Int32)) hx hb hX hbl hbA hS hl (n0 := 1) (n4 := 0) rfl rfl rfl (by decide) (by omega) hL dL_law_392 dL_law_393 dL_law_395 dL_law_396 dL_law_397 ?_
  refine W.widen (k := cells + 8) (n := slots + 1000) (by omega) (by omega) ?_
  obtain ⟨v, σ', τ', h1, h2, hJ'⟩ := q_truth hF hJ (xs (i + 1)) (xs (i + 2))
  refine cl_V (G := (cG, g, tG)) (w := (hW (cG, g, tG) Z (mfix (cG, g, tG) τ ++ oL cG o f) σ)) (w' := (hW (cG, g, tG) Z (mfix (cG, g, tG) τ ++ oL cG o f) σ')) (rv := some (.int v)) (bytes := cX11_truth) (maxL := 5) (ret := (some .int)) (C := RX11) (As := [.int (xs (i + 1)), .int (xs (i + 2))]) (rest := []) (stk := [.int v]) ⟨hx, hb, hml, hown, hts⟩ hK hE hA hP hD hS (c_X11_truth l D (cG, g, tG) Z _ σ F (xs (i + 1)) (xs (i + 2)) (v, σ') h1) (cwV 2 hts (gwV wd_679 wd_680 wd_681 wd_1 wd_682) rfl rfl rfl hd_X11_truth ⟨Nat.le_of_ble_eq_true rfl, Nat.le_of_ble_eq_true rfl⟩) (hg_0 (cG, g, tG) Z _ σ) rfl rfl rfl hl.1 rfl (Nat.le_of_ble_eq_true rfl) dL_law_398 hcs rfl (fun H locs hP hD hS => ?_)
  exact lw_m_5 CX hi hcs nx rfl rfl h2 hJ' (hXX) hP hD hS hl
set_option maxRecDepth 100000 in
set_option maxHeartbeats 4000000 in
/-- lay -/
theorem lw_x_6 {p : Program} {l : Launch} {e : Env} {s : State} {m : MethodId} {below : List Frame} {meth : Method} {c : Code} {b L : Nat} {xs : Nat → Int32} {D : va_G} {cG : Nat → ClassId} {tG : Nat → Nat} (CX : LCx p l s m meth c b L xs D cG tG) {h mm o i cells slots : Nat} (hi : i + 6 ≤ L) (hcs : cells + 8 ≤ room_1.cells ∧ slots + 1000 ≤ room_1.slots) (nx : NX p l e s m below meth c b D cG tG h mm o i 1812 (cells + 8) (slots + 1000)) : NX p l e s m below meth c b D cG tG h mm o i 422 cells slots := by
  intro g Z σ τ A f H locs ls e0 e2 hJ hXX hP hD hS hl
  obtain ⟨F, hF⟩ : ∃ F : Nat, 50000 ≤ F := ⟨50000, Nat.le_refl _⟩
  obtain ⟨⟨hx, hb, hr, hml, hown, hts, hX, hbl, hlocks, hgv⟩, hl0, hL, hKE, hXE⟩ := id CX
  have hts : ∀ w ∈ hU, w.before #[Value.ref b] s = true := fun w hw => hts w (hU_tbl hw)
  have hown : s.vm.findClass RL = some m.cls := hown
  subst e0
  subst e2
  have hK := (hKE g).1
  have hE := (hKE g).2
  have hA : ∀ q : Nat, s.heap.size ≤ q → AA s q := fun _ h => h
  have hbA : ¬ AA s b := Nat.not_le.mpr hbl
  refine lv_aload_n hx hb dL_law_422 rfl (lv_at hl 2 rfl) ?_
  refine lw_ld (k := 1) (v := (1 : Int32)) hx hb hX hbl hbA hS hl (n0 := 1) (n4 := 0) rfl rfl rfl (by decide) (by omega) hL dL_law_423 dL_law_424 dL_law_426 dL_law_427 dL_law_428 ?_
  refine W.widen (k := cells + 8) (n := slots + 1000) (by omega) (by omega) ?_
  obtain ⟨v, A', σ', τ', h1, h2, hJ'⟩ := q_lay hJ (xs (i + 1))
  refine cl_V (G := (cG, g, tG)) (w := (hW (cG, g, tG) Z (mfix (cG, g, tG) τ ++ oL cG o f) σ)) (w' := (hW (cG, g, tG) Z (mfix (cG, g, tG) τ ++ oL cG o f) σ')) (rv := some (.int v)) (bytes := cX11_lay) (maxL := 2) (ret := (some .int)) (C := RX11) (As := [.int (xs (i + 1))]) (rest := []) (stk := [.int v]) ⟨hx, hb, hml, hown, hts⟩ hK hE hA hP hD hS (c_X11_lay l D (cG, g, tG) Z _ σ (xs (i + 1)) (v, σ') h1) (cwV 1 hts (gwV wd_685 wd_686 wd_687 wd_1 wd_688) rfl rfl rfl hd_X11_lay ⟨Nat.le_of_ble_eq_true rfl, Nat.le_of_ble_eq_true rfl⟩) (hg_0 (cG, g, tG) Z _ σ) rfl rfl rfl hl.1 rfl (Nat.le_of_ble_eq_true rfl) dL_law_429 hcs rfl (fun H locs hP hD hS => ?_)
  exact lw_m_6 CX hi hcs nx rfl rfl h2 hJ' (JX_j hJ hJ' hXX) hP hD hS hl
set_option maxRecDepth 100000 in
set_option maxHeartbeats 4000000 in
/-- clear -/
theorem lw_x_7 {p : Program} {l : Launch} {e : Env} {s : State} {m : MethodId} {below : List Frame} {meth : Method} {c : Code} {b L : Nat} {xs : Nat → Int32} {D : va_G} {cG : Nat → ClassId} {tG : Nat → Nat} (CX : LCx p l s m meth c b L xs D cG tG) {h mm o i cells slots : Nat} (hi : i + 6 ≤ L) (hcs : cells + 8 ≤ room_1.cells ∧ slots + 1000 ≤ room_1.slots) (nx : NX p l e s m below meth c b D cG tG h mm o i 1812 (cells + 8) (slots + 1000)) : NX p l e s m below meth c b D cG tG h mm o i 447 cells slots := by
  intro g Z σ τ A f H locs ls e0 e2 hJ hXX hP hD hS hl
  obtain ⟨F, hF⟩ : ∃ F : Nat, 50000 ≤ F := ⟨50000, Nat.le_refl _⟩
  obtain ⟨⟨hx, hb, hr, hml, hown, hts, hX, hbl, hlocks, hgv⟩, hl0, hL, hKE, hXE⟩ := id CX
  have hts : ∀ w ∈ hU, w.before #[Value.ref b] s = true := fun w hw => hts w (hU_tbl hw)
  have hown : s.vm.findClass RL = some m.cls := hown
  subst e0
  subst e2
  have hK := (hKE g).1
  have hE := (hKE g).2
  have hA : ∀ q : Nat, s.heap.size ≤ q → AA s q := fun _ h => h
  have hbA : ¬ AA s b := Nat.not_le.mpr hbl
  refine lv_aload_n hx hb dL_law_447 rfl (lv_at hl 2 rfl) ?_
  refine W.widen (k := cells + 8) (n := slots + 1000) (by omega) (by omega) ?_
  obtain ⟨v, A', σ', τ', h1, h2, hJ'⟩ := q_clear hJ 
  refine cl_V (G := (cG, g, tG)) (w := (hW (cG, g, tG) Z (mfix (cG, g, tG) τ ++ oL cG o f) σ)) (w' := (hW (cG, g, tG) Z (mfix (cG, g, tG) τ ++ oL cG o f) σ')) (rv := some (.int v)) (bytes := cX11_clear) (maxL := 2) (ret := (some .int)) (C := RX11) (As := []) (rest := []) (stk := [.int v]) ⟨hx, hb, hml, hown, hts⟩ hK hE hA hP hD hS (c_X11_clear l D (cG, g, tG) Z _ σ  (v, σ') h1) (cwV 0 hts (gwV wd_689 wd_690 wd_691 wd_1 wd_692) rfl rfl rfl hd_X11_clear ⟨Nat.le_of_ble_eq_true rfl, Nat.le_of_ble_eq_true rfl⟩) (hg_0 (cG, g, tG) Z _ σ) rfl rfl rfl hl.1 rfl (Nat.le_of_ble_eq_true rfl) dL_law_448 hcs rfl (fun H locs hP hD hS => ?_)
  exact lw_m_7 CX hi hcs nx rfl rfl h2 hJ' (JX_j hJ hJ' hXX) hP hD hS hl
set_option maxRecDepth 100000 in
set_option maxHeartbeats 4000000 in
/-- worth -/
theorem lw_x_8 {p : Program} {l : Launch} {e : Env} {s : State} {m : MethodId} {below : List Frame} {meth : Method} {c : Code} {b L : Nat} {xs : Nat → Int32} {D : va_G} {cG : Nat → ClassId} {tG : Nat → Nat} (CX : LCx p l s m meth c b L xs D cG tG) {h mm o i cells slots : Nat} (hi : i + 6 ≤ L) (hcs : cells + 8 ≤ room_1.cells ∧ slots + 1000 ≤ room_1.slots) (nx : NX p l e s m below meth c b D cG tG h mm o i 1812 (cells + 8) (slots + 1000)) : NX p l e s m below meth c b D cG tG h mm o i 460 cells slots := by
  intro g Z σ τ A f H locs ls e0 e2 hJ hXX hP hD hS hl
  obtain ⟨F, hF⟩ : ∃ F : Nat, 50000 ≤ F := ⟨50000, Nat.le_refl _⟩
  obtain ⟨⟨hx, hb, hr, hml, hown, hts, hX, hbl, hlocks, hgv⟩, hl0, hL, hKE, hXE⟩ := id CX
  have hts : ∀ w ∈ hU, w.before #[Value.ref b] s = true := fun w hw => hts w (hU_tbl hw)
  have hown : s.vm.findClass RL = some m.cls := hown
  subst e0
  subst e2
  have hK := (hKE g).1
  have hE := (hKE g).2
  have hA : ∀ q : Nat, s.heap.size ≤ q → AA s q := fun _ h => h
  have hbA : ¬ AA s b := Nat.not_le.mpr hbl
  refine lv_aload_n hx hb dL_law_460 rfl (lv_at hl 2 rfl) ?_
  refine lw_ld (k := 1) (v := (1 : Int32)) hx hb hX hbl hbA hS hl (n0 := 1) (n4 := 0) rfl rfl rfl (by decide) (by omega) hL dL_law_461 dL_law_462 dL_law_464 dL_law_465 dL_law_466 ?_
  refine lw_ld (k := 2) (v := (2 : Int32)) hx hb hX hbl hbA hS hl (n0 := 1) (n4 := 0) rfl rfl rfl (by decide) (by omega) hL dL_law_467 dL_law_468 dL_law_470 dL_law_471 dL_law_472 ?_
  refine W.widen (k := cells + 8) (n := slots + 1000) (by omega) (by omega) ?_
  obtain ⟨v, σ', τ', h1, h2, hJ'⟩ := q_worth hF hJ (xs (i + 1)) (xs (i + 2))
  refine cl_V (G := (cG, g, tG)) (w := (hW (cG, g, tG) Z (mfix (cG, g, tG) τ ++ oL cG o f) σ)) (w' := (hW (cG, g, tG) Z (mfix (cG, g, tG) τ ++ oL cG o f) σ')) (rv := some (.int v)) (bytes := cX11_worth) (maxL := 4) (ret := (some .int)) (C := RX11) (As := [.int (xs (i + 1)), .int (xs (i + 2))]) (rest := []) (stk := [.int v]) ⟨hx, hb, hml, hown, hts⟩ hK hE hA hP hD hS (c_X11_worth l D (cG, g, tG) Z _ σ F (xs (i + 1)) (xs (i + 2)) (v, σ') h1) (cwV 2 hts (gwV wd_693 wd_694 wd_695 wd_1 wd_696) rfl rfl rfl hd_X11_worth ⟨Nat.le_of_ble_eq_true rfl, Nat.le_of_ble_eq_true rfl⟩) (hg_0 (cG, g, tG) Z _ σ) rfl rfl rfl hl.1 rfl (Nat.le_of_ble_eq_true rfl) dL_law_473 hcs rfl (fun H locs hP hD hS => ?_)
  exact lw_m_8 CX hi hcs nx rfl rfl h2 hJ' (hXX) hP hD hS hl
set_option maxRecDepth 100000 in
set_option maxHeartbeats 4000000 in
/-- sum -/
theorem lw_x_9 {p : Program} {l : Launch} {e : Env} {s : State} {m : MethodId} {below : List Frame} {meth : Method} {c : Code} {b L : Nat} {xs : Nat → Int32} {D : va_G} {cG : Nat → ClassId} {tG : Nat → Nat} (CX : LCx p l s m meth c b L xs D cG tG) {h mm o i cells slots : Nat} (hi : i + 6 ≤ L) (hcs : cells + 8 ≤ room_1.cells ∧ slots + 1000 ≤ room_1.slots) (nx : NX p l e s m below meth c b D cG tG h mm o i 1812 (cells + 8) (slots + 1000)) : NX p l e s m below meth c b D cG tG h mm o i 497 cells slots := by
  intro g Z σ τ A f H locs ls e0 e2 hJ hXX hP hD hS hl
  obtain ⟨F, hF⟩ : ∃ F : Nat, 50000 ≤ F := ⟨50000, Nat.le_refl _⟩
  obtain ⟨⟨hx, hb, hr, hml, hown, hts, hX, hbl, hlocks, hgv⟩, hl0, hL, hKE, hXE⟩ := id CX
  have hts : ∀ w ∈ hU, w.before #[Value.ref b] s = true := fun w hw => hts w (hU_tbl hw)
  have hown : s.vm.findClass RL = some m.cls := hown
  subst e0
  subst e2
  have hK := (hKE g).1
  have hE := (hKE g).2
  have hA : ∀ q : Nat, s.heap.size ≤ q → AA s q := fun _ h => h
  have hbA : ¬ AA s b := Nat.not_le.mpr hbl
  refine lv_aload_n hx hb dL_law_497 rfl (lv_at hl 2 rfl) ?_
  refine lw_ld (k := 1) (v := (1 : Int32)) hx hb hX hbl hbA hS hl (n0 := 1) (n4 := 0) rfl rfl rfl (by decide) (by omega) hL dL_law_498 dL_law_499 dL_law_501 dL_law_502 dL_law_503 ?_
  refine lw_ld (k := 2) (v := (2 : Int32)) hx hb hX hbl hbA hS hl (n0 := 1) (n4 := 0) rfl rfl rfl (by decide) (by omega) hL dL_law_504 dL_law_505 dL_law_507 dL_law_508 dL_law_509 ?_
  refine W.widen (k := cells + 8) (n := slots + 1000) (by omega) (by omega) ?_
  obtain ⟨v, σ', τ', h1, h2, hJ'⟩ := q_sum hF hJ (xs (i + 1)) (xs (i + 2))
  refine cl_V (G := (cG, g, tG)) (w := (hW (cG, g, tG) Z (mfix (cG, g, tG) τ ++ oL cG o f) σ)) (w' := (hW (cG, g, tG) Z (mfix (cG, g, tG) τ ++ oL cG o f) σ')) (rv := some (.int v)) (bytes := cX11_sum) (maxL := 4) (ret := (some .int)) (C := RX11) (As := [.int (xs (i + 1)), .int (xs (i + 2))]) (rest := []) (stk := [.int v]) ⟨hx, hb, hml, hown, hts⟩ hK hE hA hP hD hS (c_X11_sum l D (cG, g, tG) Z _ σ F (xs (i + 1)) (xs (i + 2)) (v, σ') h1) (cwV 2 hts (gwV wd_718 wd_719 wd_720 wd_1 wd_721) rfl rfl rfl hd_X11_sum ⟨Nat.le_of_ble_eq_true rfl, Nat.le_of_ble_eq_true rfl⟩) (hg_0 (cG, g, tG) Z _ σ) rfl rfl rfl hl.1 rfl (Nat.le_of_ble_eq_true rfl) dL_law_510 hcs rfl (fun H locs hP hD hS => ?_)
  exact lw_m_9 CX hi hcs nx rfl rfl h2 hJ' (hXX) hP hD hS hl
