/-! the law's cases, by program (genL.py) -/
set_option maxRecDepth 100000 in
set_option maxHeartbeats 4000000 in
/-- feed, behind the class's call -/
theorem lw_m_0 {p : Program} {l : Launch} {e : Env} {s : State} {m : MethodId} {below : List Frame} {meth : Method} {c : Code} {b L : Nat} {xs : Nat → Int32} {D : va_G} {cG : Nat → ClassId} {tG : Nat → Nat} (CX : LCx p l s m meth c b L xs D cG tG) {h mm o i cells slots : Nat} (hi : i + 6 ≤ L) (hcs : cells ≤ room_1.cells ∧ slots ≤ room_1.slots) (nx : NX p l e s m below meth c b D cG tG h mm o i 1812 cells slots) {F : Nat} {g : Nat → Nat} {Z Zm : hZ} {σ τ τ' : hSt} {A : HA} {f : Nat → Int64} {H : Heap} {locs : List Loc} {ls : Array Slot} {v : Int32} (e0 : g 0 = h) (e2 : g 200 = mm) (hF : f_X12_feed F Zm τ (xs (i + 1)) (xs (i + 2)) (xs (i + 3)) (xs (i + 4)) (xs (i + 5)) = some (v, τ')) (hJ : J A Z σ τ') (hXX : JX A (cG, g, tG) Z) (hP : va_P D vwCl (LW (cG, g, tG) Z (oL cG o f) σ τ) H) (hD : va_D (AA s) (LW (cG, g, tG) Z (oL cG o f) σ τ)) (hS : va_S (AA s) s.heap H locs) (hl : lv_has ls 7 [(4, .int (nI i)), (0, .ref b), (1, .ref h), (2, .ref mm), (3, .ref o)]) : W p l e room_1 s m #[Value.ref b] below meth c H locs cells slots (lw_Z below #[Value.ref b] s) (F0 m 246 ls [.int v]) := by
  obtain ⟨⟨hx, hb, hr, hml, hown, hts, hX, hbl, hlocks, hgv⟩, hl0, hL, hKE, hXE⟩ := id CX
  have hts : ∀ w ∈ hU, w.before #[Value.ref b] s = true := fun w hw => hts w (hU_tbl hw)
  have hown : s.vm.findClass RL = some m.cls := hown
  subst e0
  subst e2
  have hK := (hKE g).1
  have hE := (hKE g).2
  have hA : ∀ q : Nat, s.heap.size ≤ q → AA s q := fun _ h => h
  have hbA : ¬ AA s b := Nat.not_le.mpr hbl
  refine lv_aload_n hx hb dL_law_246 rfl (lv_at hl 3 rfl) ?_
  refine lw_ld (k := 1) (v := (1 : Int32)) hx hb hX hbl hbA hS hl (n0 := 1) (n4 := 0) rfl rfl rfl (by decide) (by omega) hL dL_law_247 dL_law_248 dL_law_250 dL_law_251 dL_law_252 ?_
  refine lw_ld (k := 2) (v := (2 : Int32)) hx hb hX hbl hbA hS hl (n0 := 1) (n4 := 0) rfl rfl rfl (by decide) (by omega) hL dL_law_253 dL_law_254 dL_law_256 dL_law_257 dL_law_258 ?_
  refine lw_ld (k := 3) (v := (3 : Int32)) hx hb hX hbl hbA hS hl (n0 := 1) (n4 := 0) rfl rfl rfl (by decide) (by omega) hL dL_law_259 dL_law_260 dL_law_262 dL_law_263 dL_law_264 ?_
  refine lw_ld (k := 4) (v := (4 : Int32)) hx hb hX hbl hbA hS hl (n0 := 1) (n4 := 0) rfl rfl rfl (by decide) (by omega) hL dL_law_265 dL_law_266 dL_law_268 dL_law_269 dL_law_270 ?_
  refine lw_ld (k := 5) (v := (5 : Int32)) hx hb hX hbl hbA hS hl (n0 := 1) (n4 := 0) rfl rfl rfl (by decide) (by omega) hL dL_law_271 dL_law_272 dL_law_274 dL_law_275 dL_law_276 ?_
  have hP := pperm (LW_m (cG, g, tG) Z (oL cG o f) σ τ) hP
  have hD := dperm (LW_m (cG, g, tG) Z (oL cG o f) σ τ) hD
  refine cl_V (G := (cG, g, tG)) (w := (mW (cG, g, tG) Zm (hW (cG, g, tG) Z (oL cG o f) σ) τ)) (w' := (mW (cG, g, tG) Zm (hW (cG, g, tG) Z (oL cG o f) σ) τ')) (rv := some (.int v)) (bytes := cX12_feed) (maxL := 6) (ret := (some .int)) (C := RX12) (As := [.int (xs (i + 1)), .int (xs (i + 2)), .int (xs (i + 3)), .int (xs (i + 4)), .int (xs (i + 5))]) (rest := [.int v]) (stk := [.int v, .int v]) ⟨hx, hb, hml, hown, hts⟩ hK hE hA hP hD hS (c_X12_feed l D (cG, g, tG) Zm _ τ F (xs (i + 1)) (xs (i + 2)) (xs (i + 3)) (xs (i + 4)) (xs (i + 5)) (v, τ') hF) (cwV 5 hts (gwV wd_1429 wd_1430 wd_1431 wd_11 wd_1432) rfl rfl rfl hd_X12_feed ⟨Nat.le_of_ble_eq_true rfl, Nat.le_of_ble_eq_true rfl⟩) (mg_200 (cG, g, tG) Zm _ τ) rfl rfl rfl hl.1 rfl (Nat.le_of_ble_eq_true rfl) dL_law_277 hcs rfl (fun H locs hP hD hS => ?_)
  have hP := pperm (LW_m (cG, g, tG) Z (oL cG o f) σ τ').symm hP
  have hD := dperm (LW_m (cG, g, tG) Z (oL cG o f) σ τ').symm hD
  refine lv_icmp_eq (tgt := 1812) hx hb dL_law_280 (by decide) (fun _ => ?_) (fun c1 => absurd rfl c1)
  exact nx g Z σ τ' A f H locs ls rfl rfl hJ hXX hP hD hS hl
set_option maxRecDepth 100000 in
set_option maxHeartbeats 4000000 in
/-- end, behind the class's call -/
theorem lw_m_1 {p : Program} {l : Launch} {e : Env} {s : State} {m : MethodId} {below : List Frame} {meth : Method} {c : Code} {b L : Nat} {xs : Nat → Int32} {D : va_G} {cG : Nat → ClassId} {tG : Nat → Nat} (CX : LCx p l s m meth c b L xs D cG tG) {h mm o i cells slots : Nat} (hi : i + 6 ≤ L) (hcs : cells ≤ room_1.cells ∧ slots ≤ room_1.slots) (nx : NX p l e s m below meth c b D cG tG h mm o i 1812 cells slots) {g : Nat → Nat} {Z Zm : hZ} {σ τ τ' : hSt} {A : HA} {f : Nat → Int64} {H : Heap} {locs : List Loc} {ls : Array Slot} {v : Int32} (e0 : g 0 = h) (e2 : g 200 = mm) (hF : f_X12_end Zm τ (xs (i + 1)) = some (v, τ')) (hJ : J A Z σ τ') (hXX : JX A (cG, g, tG) Z) (hP : va_P D vwCl (LW (cG, g, tG) Z (oL cG o f) σ τ) H) (hD : va_D (AA s) (LW (cG, g, tG) Z (oL cG o f) σ τ)) (hS : va_S (AA s) s.heap H locs) (hl : lv_has ls 7 [(4, .int (nI i)), (0, .ref b), (1, .ref h), (2, .ref mm), (3, .ref o)]) : W p l e room_1 s m #[Value.ref b] below meth c H locs cells slots (lw_Z below #[Value.ref b] s) (F0 m 295 ls [.int v]) := by
  obtain ⟨⟨hx, hb, hr, hml, hown, hts, hX, hbl, hlocks, hgv⟩, hl0, hL, hKE, hXE⟩ := id CX
  have hts : ∀ w ∈ hU, w.before #[Value.ref b] s = true := fun w hw => hts w (hU_tbl hw)
  have hown : s.vm.findClass RL = some m.cls := hown
  subst e0
  subst e2
  have hK := (hKE g).1
  have hE := (hKE g).2
  have hA : ∀ q : Nat, s.heap.size ≤ q → AA s q := fun _ h => h
  have hbA : ¬ AA s b := Nat.not_le.mpr hbl
  refine lv_aload_n hx hb dL_law_295 rfl (lv_at hl 3 rfl) ?_
  refine lw_ld (k := 1) (v := (1 : Int32)) hx hb hX hbl hbA hS hl (n0 := 1) (n4 := 0) rfl rfl rfl (by decide) (by omega) hL dL_law_296 dL_law_297 dL_law_299 dL_law_300 dL_law_301 ?_
  have hP := pperm (LW_m (cG, g, tG) Z (oL cG o f) σ τ) hP
  have hD := dperm (LW_m (cG, g, tG) Z (oL cG o f) σ τ) hD
  refine cl_V (G := (cG, g, tG)) (w := (mW (cG, g, tG) Zm (hW (cG, g, tG) Z (oL cG o f) σ) τ)) (w' := (mW (cG, g, tG) Zm (hW (cG, g, tG) Z (oL cG o f) σ) τ')) (rv := some (.int v)) (bytes := cX12_end) (maxL := 2) (ret := (some .boolean)) (C := RX12) (As := [.int (xs (i + 1))]) (rest := [.int v]) (stk := [.int v, .int v]) ⟨hx, hb, hml, hown, hts⟩ hK hE hA hP hD hS (c_X12_end l D (cG, g, tG) Zm _ τ (xs (i + 1)) (v, τ') hF) (cwV 1 hts (gwV wd_1440 wd_1441 wd_1442 wd_11 wd_1443) rfl rfl rfl hd_X12_end ⟨Nat.le_of_ble_eq_true rfl, Nat.le_of_ble_eq_true rfl⟩) (mg_200 (cG, g, tG) Zm _ τ) rfl rfl rfl hl.1 rfl (Nat.le_of_ble_eq_true rfl) dL_law_302 hcs rfl (fun H locs hP hD hS => ?_)
  have hP := pperm (LW_m (cG, g, tG) Z (oL cG o f) σ τ').symm hP
  have hD := dperm (LW_m (cG, g, tG) Z (oL cG o f) σ τ').symm hD
  refine lv_icmp_eq (tgt := 1812) hx hb dL_law_305 (by decide) (fun _ => ?_) (fun c1 => absurd rfl c1)
  exact nx g Z σ τ' A f H locs ls rfl rfl hJ hXX hP hD hS hl
set_option maxRecDepth 100000 in
set_option maxHeartbeats 4000000 in
/-- fault, behind the class's call -/
theorem lw_m_2 {p : Program} {l : Launch} {e : Env} {s : State} {m : MethodId} {below : List Frame} {meth : Method} {c : Code} {b L : Nat} {xs : Nat → Int32} {D : va_G} {cG : Nat → ClassId} {tG : Nat → Nat} (CX : LCx p l s m meth c b L xs D cG tG) {h mm o i cells slots : Nat} (hi : i + 6 ≤ L) (hcs : cells ≤ room_1.cells ∧ slots ≤ room_1.slots) (nx : NX p l e s m below meth c b D cG tG h mm o i 1812 cells slots) {F : Nat} {g : Nat → Nat} {Z Zm : hZ} {σ τ τ' : hSt} {A : HA} {f : Nat → Int64} {H : Heap} {locs : List Loc} {ls : Array Slot} {v : Int32} (e0 : g 0 = h) (e2 : g 200 = mm) (hF : f_X12_fault F Zm τ (xs (i + 1)) = some (v, τ')) (hJ : J A Z σ τ') (hXX : JX A (cG, g, tG) Z) (hP : va_P D vwCl (LW (cG, g, tG) Z (oL cG o f) σ τ) H) (hD : va_D (AA s) (LW (cG, g, tG) Z (oL cG o f) σ τ)) (hS : va_S (AA s) s.heap H locs) (hl : lv_has ls 7 [(4, .int (nI i)), (0, .ref b), (1, .ref h), (2, .ref mm), (3, .ref o)]) : W p l e room_1 s m #[Value.ref b] below meth c H locs cells slots (lw_Z below #[Value.ref b] s) (F0 m 320 ls [.int v]) := by
  obtain ⟨⟨hx, hb, hr, hml, hown, hts, hX, hbl, hlocks, hgv⟩, hl0, hL, hKE, hXE⟩ := id CX
  have hts : ∀ w ∈ hU, w.before #[Value.ref b] s = true := fun w hw => hts w (hU_tbl hw)
  have hown : s.vm.findClass RL = some m.cls := hown
  subst e0
  subst e2
  have hK := (hKE g).1
  have hE := (hKE g).2
  have hA : ∀ q : Nat, s.heap.size ≤ q → AA s q := fun _ h => h
  have hbA : ¬ AA s b := Nat.not_le.mpr hbl
  refine lv_aload_n hx hb dL_law_320 rfl (lv_at hl 3 rfl) ?_
  refine lw_ld (k := 1) (v := (1 : Int32)) hx hb hX hbl hbA hS hl (n0 := 1) (n4 := 0) rfl rfl rfl (by decide) (by omega) hL dL_law_321 dL_law_322 dL_law_324 dL_law_325 dL_law_326 ?_
  have hP := pperm (LW_m (cG, g, tG) Z (oL cG o f) σ τ) hP
  have hD := dperm (LW_m (cG, g, tG) Z (oL cG o f) σ τ) hD
  refine cl_V (G := (cG, g, tG)) (w := (mW (cG, g, tG) Zm (hW (cG, g, tG) Z (oL cG o f) σ) τ)) (w' := (mW (cG, g, tG) Zm (hW (cG, g, tG) Z (oL cG o f) σ) τ')) (rv := some (.int v)) (bytes := cX12_fault) (maxL := 3) (ret := (some .int)) (C := RX12) (As := [.int (xs (i + 1))]) (rest := [.int v]) (stk := [.int v, .int v]) ⟨hx, hb, hml, hown, hts⟩ hK hE hA hP hD hS (c_X12_fault l D (cG, g, tG) Zm _ τ F (xs (i + 1)) (v, τ') hF) (cwV 1 hts (gwV wd_1569 wd_1570 wd_1571 wd_11 wd_1572) rfl rfl rfl hd_X12_fault ⟨Nat.le_of_ble_eq_true rfl, Nat.le_of_ble_eq_true rfl⟩) (mg_200 (cG, g, tG) Zm _ τ) rfl rfl rfl hl.1 rfl (Nat.le_of_ble_eq_true rfl) dL_law_327 hcs rfl (fun H locs hP hD hS => ?_)
  have hP := pperm (LW_m (cG, g, tG) Z (oL cG o f) σ τ').symm hP
  have hD := dperm (LW_m (cG, g, tG) Z (oL cG o f) σ τ').symm hD
  refine lv_icmp_eq (tgt := 1812) hx hb dL_law_330 (by decide) (fun _ => ?_) (fun c1 => absurd rfl c1)
  exact nx g Z σ τ' A f H locs ls rfl rfl hJ hXX hP hD hS hl
set_option maxRecDepth 100000 in
set_option maxHeartbeats 4000000 in
/-- saying, behind the class's call -/
theorem lw_m_3 {p : Program} {l : Launch} {e : Env} {s : State} {m : MethodId} {below : List Frame} {meth : Method} {c : Code} {b L : Nat} {xs : Nat → Int32} {D : va_G} {cG : Nat → ClassId} {tG : Nat → Nat} (CX : LCx p l s m meth c b L xs D cG tG) {h mm o i cells slots : Nat} (hi : i + 6 ≤ L) (hcs : cells ≤ room_1.cells ∧ slots ≤ room_1.slots) (nx : NX p l e s m below meth c b D cG tG h mm o i 1812 cells slots) {F : Nat} {g : Nat → Nat} {Z Zm : hZ} {σ τ τ' : hSt} {A : HA} {f : Nat → Int64} {H : Heap} {locs : List Loc} {ls : Array Slot} {v : Int32} (e0 : g 0 = h) (e2 : g 200 = mm) (hF : f_X12_saying F Zm τ  = some (v, τ')) (hJ : J A Z σ τ') (hXX : JX A (cG, g, tG) Z) (hP : va_P D vwCl (LW (cG, g, tG) Z (oL cG o f) σ τ) H) (hD : va_D (AA s) (LW (cG, g, tG) Z (oL cG o f) σ τ)) (hS : va_S (AA s) s.heap H locs) (hl : lv_has ls 7 [(4, .int (nI i)), (0, .ref b), (1, .ref h), (2, .ref mm), (3, .ref o)]) : W p l e room_1 s m #[Value.ref b] below meth c H locs cells slots (lw_Z below #[Value.ref b] s) (F0 m 339 ls [.int v]) := by
  obtain ⟨⟨hx, hb, hr, hml, hown, hts, hX, hbl, hlocks, hgv⟩, hl0, hL, hKE, hXE⟩ := id CX
  have hts : ∀ w ∈ hU, w.before #[Value.ref b] s = true := fun w hw => hts w (hU_tbl hw)
  have hown : s.vm.findClass RL = some m.cls := hown
  subst e0
  subst e2
  have hK := (hKE g).1
  have hE := (hKE g).2
  have hA : ∀ q : Nat, s.heap.size ≤ q → AA s q := fun _ h => h
  have hbA : ¬ AA s b := Nat.not_le.mpr hbl
  refine lv_aload_n hx hb dL_law_339 rfl (lv_at hl 3 rfl) ?_
  have hP := pperm (LW_m (cG, g, tG) Z (oL cG o f) σ τ) hP
  have hD := dperm (LW_m (cG, g, tG) Z (oL cG o f) σ τ) hD
  refine cl_V (G := (cG, g, tG)) (w := (mW (cG, g, tG) Zm (hW (cG, g, tG) Z (oL cG o f) σ) τ)) (w' := (mW (cG, g, tG) Zm (hW (cG, g, tG) Z (oL cG o f) σ) τ')) (rv := some (.int v)) (bytes := cX12_saying) (maxL := 1) (ret := (some .int)) (C := RX12) (As := []) (rest := [.int v]) (stk := [.int v, .int v]) ⟨hx, hb, hml, hown, hts⟩ hK hE hA hP hD hS (c_X12_saying l D (cG, g, tG) Zm _ τ F  (v, τ') hF) (cwV 0 hts (gwV wd_1444 wd_1445 wd_1446 wd_11 wd_1447) rfl rfl rfl hd_X12_saying ⟨Nat.le_of_ble_eq_true rfl, Nat.le_of_ble_eq_true rfl⟩) (mg_200 (cG, g, tG) Zm _ τ) rfl rfl rfl hl.1 rfl (Nat.le_of_ble_eq_true rfl) dL_law_340 hcs rfl (fun H locs hP hD hS => ?_)
  have hP := pperm (LW_m (cG, g, tG) Z (oL cG o f) σ τ').symm hP
  have hD := dperm (LW_m (cG, g, tG) Z (oL cG o f) σ τ').symm hD
  refine lv_icmp_eq (tgt := 1812) hx hb dL_law_343 (by decide) (fun _ => ?_) (fun c1 => absurd rfl c1)
  exact nx g Z σ τ' A f H locs ls rfl rfl hJ hXX hP hD hS hl
set_option maxRecDepth 100000 in
set_option maxHeartbeats 4000000 in
/-- said, behind the class's call -/
theorem lw_m_4 {p : Program} {l : Launch} {e : Env} {s : State} {m : MethodId} {below : List Frame} {meth : Method} {c : Code} {b L : Nat} {xs : Nat → Int32} {D : va_G} {cG : Nat → ClassId} {tG : Nat → Nat} (CX : LCx p l s m meth c b L xs D cG tG) {h mm o i cells slots : Nat} (hi : i + 6 ≤ L) (hcs : cells ≤ room_1.cells ∧ slots ≤ room_1.slots) (nx : NX p l e s m below meth c b D cG tG h mm o i 1812 cells slots) {F : Nat} {g : Nat → Nat} {Z Zm : hZ} {σ τ τ' : hSt} {A : HA} {f : Nat → Int64} {H : Heap} {locs : List Loc} {ls : Array Slot} {v : Int32} (e0 : g 0 = h) (e2 : g 200 = mm) (hF : f_X12_said F Zm τ (xs (i + 1)) (xs (i + 2)) = some (v, τ')) (hJ : J A Z σ τ') (hXX : JX A (cG, g, tG) Z) (hP : va_P D vwCl (LW (cG, g, tG) Z (oL cG o f) σ τ) H) (hD : va_D (AA s) (LW (cG, g, tG) Z (oL cG o f) σ τ)) (hS : va_S (AA s) s.heap H locs) (hl : lv_has ls 7 [(4, .int (nI i)), (0, .ref b), (1, .ref h), (2, .ref mm), (3, .ref o)]) : W p l e room_1 s m #[Value.ref b] below meth c H locs cells slots (lw_Z below #[Value.ref b] s) (F0 m 364 ls [.int v]) := by
  obtain ⟨⟨hx, hb, hr, hml, hown, hts, hX, hbl, hlocks, hgv⟩, hl0, hL, hKE, hXE⟩ := id CX
  have hts : ∀ w ∈ hU, w.before #[Value.ref b] s = true := fun w hw => hts w (hU_tbl hw)
  have hown : s.vm.findClass RL = some m.cls := hown
  subst e0
  subst e2
  have hK := (hKE g).1
  have hE := (hKE g).2
  have hA : ∀ q : Nat, s.heap.size ≤ q → AA s q := fun _ h => h
  have hbA : ¬ AA s b := Nat.not_le.mpr hbl
  refine lv_aload_n hx hb dL_law_364 rfl (lv_at hl 3 rfl) ?_
  refine lw_ld (k := 1) (v := (1 : Int32)) hx hb hX hbl hbA hS hl (n0 := 1) (n4 := 0) rfl rfl rfl (by decide) (by omega) hL dL_law_365 dL_law_366 dL_law_368 dL_law_369 dL_law_370 ?_
  refine lw_ld (k := 2) (v := (2 : Int32)) hx hb hX hbl hbA hS hl (n0 := 1) (n4 := 0) rfl rfl rfl (by decide) (by omega) hL dL_law_371 dL_law_372 dL_law_374 dL_law_375 dL_law_376 ?_
  have hP := pperm (LW_m (cG, g, tG) Z (oL cG o f) σ τ) hP
  have hD := dperm (LW_m (cG, g, tG) Z (oL cG o f) σ τ) hD
  refine cl_V (G := (cG, g, tG)) (w := (mW (cG, g, tG) Zm (hW (cG, g, tG) Z (oL cG o f) σ) τ)) (w' := (mW (cG, g, tG) Zm (hW (cG, g, tG) Z (oL cG o f) σ) τ')) (rv := some (.int v)) (bytes := cX12_said) (maxL := 3) (ret := (some .int)) (C := RX12) (As := [.int (xs (i + 1)), .int (xs (i + 2))]) (rest := [.int v]) (stk := [.int v, .int v]) ⟨hx, hb, hml, hown, hts⟩ hK hE hA hP hD hS (c_X12_said l D (cG, g, tG) Zm _ τ F (xs (i + 1)) (xs (i + 2)) (v, τ') hF) (cwV 2 hts (gwV wd_1489 wd_1490 wd_1491 wd_11 wd_1492) rfl rfl rfl hd_X12_said ⟨Nat.le_of_ble_eq_true rfl, Nat.le_of_ble_eq_true rfl⟩) (mg_200 (cG, g, tG) Zm _ τ) rfl rfl rfl hl.1 rfl (Nat.le_of_ble_eq_true rfl) dL_law_377 hcs rfl (fun H locs hP hD hS => ?_)
  have hP := pperm (LW_m (cG, g, tG) Z (oL cG o f) σ τ').symm hP
  have hD := dperm (LW_m (cG, g, tG) Z (oL cG o f) σ τ').symm hD
  refine lv_icmp_eq (tgt := 1812) hx hb dL_law_380 (by decide) (fun _ => ?_) (fun c1 => absurd rfl c1)
  exact nx g Z σ τ' A f H locs ls rfl rfl hJ hXX hP hD hS hl
set_option maxRecDepth 100000 in
set_option maxHeartbeats 4000000 in
/-- truth, behind the class's call -/
theorem lw_m_5 {p : Program} {l : Launch} {e : Env} {s : State} {m : MethodId} {below : List Frame} {meth : Method} {c : Code} {b L : Nat} {xs : Nat → Int32} {D : va_G} {cG : Nat → ClassId} {tG : Nat → Nat} (CX : LCx p l s m meth c b L xs D cG tG) {h mm o i cells slots : Nat} (hi : i + 6 ≤ L) (hcs : cells ≤ room_1.cells ∧ slots ≤ room_1.slots) (nx : NX p l e s m below meth c b D cG tG h mm o i 1812 cells slots) {F : Nat} {g : Nat → Nat} {Z Zm : hZ} {σ τ τ' : hSt} {A : HA} {f : Nat → Int64} {H : Heap} {locs : List Loc} {ls : Array Slot} {v : Int32} (e0 : g 0 = h) (e2 : g 200 = mm) (hF : f_X12_truth F Zm τ (xs (i + 1)) (xs (i + 2)) = some (v, τ')) (hJ : J A Z σ τ') (hXX : JX A (cG, g, tG) Z) (hP : va_P D vwCl (LW (cG, g, tG) Z (oL cG o f) σ τ) H) (hD : va_D (AA s) (LW (cG, g, tG) Z (oL cG o f) σ τ)) (hS : va_S (AA s) s.heap H locs) (hl : lv_has ls 7 [(4, .int (nI i)), (0, .ref b), (1, .ref h), (2, .ref mm), (3, .ref o)]) : W p l e room_1 s m #[Value.ref b] below meth c H locs cells slots (lw_Z below #[Value.ref b] s) (F0 m 401 ls [.int v]) := by
  obtain ⟨⟨hx, hb, hr, hml, hown, hts, hX, hbl, hlocks, hgv⟩, hl0, hL, hKE, hXE⟩ := id CX
  have hts : ∀ w ∈ hU, w.before #[Value.ref b] s = true := fun w hw => hts w (hU_tbl hw)
  have hown : s.vm.findClass RL = some m.cls := hown
  subst e0
  subst e2
  have hK := (hKE g).1
  have hE := (hKE g).2
  have hA : ∀ q : Nat, s.heap.size ≤ q → AA s q := fun _ h => h
  have hbA : ¬ AA s b := Nat.not_le.mpr hbl
  refine lv_aload_n hx hb dL_law_401 rfl (lv_at hl 3 rfl) ?_
  refine lw_ld (k := 1) (v := (1 : Int32)) hx hb hX hbl hbA hS hl (n0 := 1) (n4 := 0) rfl rfl rfl (by decide) (by omega) hL dL_law_402 dL_law_403 dL_law_405 dL_law_406 dL_law_407 ?_
  refine lw_ld (k := 2) (v := (2 : Int32)) hx hb hX hbl hbA hS hl (n0 := 1) (n4 := 0) rfl rfl rfl (by decide) (by omega) hL dL_law_408 dL_law_409 dL_law_411 dL_law_412 dL_law_413 ?_
  have hP := pperm (LW_m (cG, g, tG) Z (oL cG o f) σ τ) hP
  have hD := dperm (LW_m (cG, g, tG) Z (oL cG o f) σ τ) hD
  refine cl_V (G := (cG, g, tG)) (w := (mW (cG, g, tG) Zm (hW (cG, g, tG) Z (oL cG o f) σ) τ)) (w' := (mW (cG, g, tG) Zm (hW (cG, g, tG) Z (oL cG o f) σ) τ')) (rv := some (.int v)) (bytes := cX12_truth) (maxL := 3) (ret := (some .int)) (C := RX12) (As := [.int (xs (i + 1)), .int (xs (i + 2))]) (rest := [.int v]) (stk := [.int v, .int v]) ⟨hx, hb, hml, hown, hts⟩ hK hE hA hP hD hS (c_X12_truth l D (cG, g, tG) Zm _ τ F (xs (i + 1)) (xs (i + 2)) (v, τ') hF) (cwV 2 hts (gwV wd_1517 wd_1518 wd_1519 wd_11 wd_1520) rfl rfl rfl hd_X12_truth ⟨Nat.le_of_ble_eq_true rfl, Nat.le_of_ble_eq_true rfl⟩) (mg_200 (cG, g, tG) Zm _ τ) rfl rfl rfl hl.1 rfl (Nat.le_of_ble_eq_true rfl) dL_law_414 hcs rfl (fun H locs hP hD hS => ?_)
  have hP := pperm (LW_m (cG, g, tG) Z (oL cG o f) σ τ').symm hP
  have hD := dperm (LW_m (cG, g, tG) Z (oL cG o f) σ τ').symm hD
  refine lv_icmp_eq (tgt := 1812) hx hb dL_law_417 (by decide) (fun _ => ?_) (fun c1 => absurd rfl c1)
  exact nx g Z σ τ' A f H locs ls rfl rfl hJ hXX hP hD hS hl
set_option maxRecDepth 100000 in
set_option maxHeartbeats 4000000 in
/-- lay, behind the class's call -/
theorem lw_m_6 {p : Program} {l : Launch} {e : Env} {s : State} {m : MethodId} {below : List Frame} {meth : Method} {c : Code} {b L : Nat} {xs : Nat → Int32} {D : va_G} {cG : Nat → ClassId} {tG : Nat → Nat} (CX : LCx p l s m meth c b L xs D cG tG) {h mm o i cells slots : Nat} (hi : i + 6 ≤ L) (hcs : cells ≤ room_1.cells ∧ slots ≤ room_1.slots) (nx : NX p l e s m below meth c b D cG tG h mm o i 1812 cells slots) {g : Nat → Nat} {Z Zm : hZ} {σ τ τ' : hSt} {A : HA} {f : Nat → Int64} {H : Heap} {locs : List Loc} {ls : Array Slot} {v : Int32} (e0 : g 0 = h) (e2 : g 200 = mm) (hF : f_X12_lay Zm τ (xs (i + 1)) = some (v, τ')) (hJ : J A Z σ τ') (hXX : JX A (cG, g, tG) Z) (hP : va_P D vwCl (LW (cG, g, tG) Z (oL cG o f) σ τ) H) (hD : va_D (AA s) (LW (cG, g, tG) Z (oL cG o f) σ τ)) (hS : va_S (AA s) s.heap H locs) (hl : lv_has ls 7 [(4, .int (nI i)), (0, .ref b), (1, .ref h), (2, .ref mm), (3, .ref o)]) : W p l e room_1 s m #[Value.ref b] below meth c H locs cells slots (lw_Z below #[Value.ref b] s) (F0 m 432 ls [.int v]) := by
  obtain ⟨⟨hx, hb, hr, hml, hown, hts, hX, hbl, hlocks, hgv⟩, hl0, hL, hKE, hXE⟩ := id CX
  have hts : ∀ w ∈ hU, w.before #[Value.ref b] s = true := fun w hw => hts w (hU_tbl hw)
  have hown : s.vm.findClass RL = some m.cls := hown
  subst e0
  subst e2
  have hK := (hKE g).1
  have hE := (hKE g).2
  have hA : ∀ q : Nat, s.heap.size ≤ q → AA s q := fun _ h => h
  have hbA : ¬ AA s b := Nat.not_le.mpr hbl
  refine lv_aload_n hx hb dL_law_432 rfl (lv_at hl 3 rfl) ?_
  refine lw_ld (k := 1) (v := (1 : Int32)) hx hb hX hbl hbA hS hl (n0 := 1) (n4 := 0) rfl rfl rfl (by decide) (by omega) hL dL_law_433 dL_law_434 dL_law_436 dL_law_437 dL_law_438 ?_
  have hP := pperm (LW_m (cG, g, tG) Z (oL cG o f) σ τ) hP
  have hD := dperm (LW_m (cG, g, tG) Z (oL cG o f) σ τ) hD
  refine cl_V (G := (cG, g, tG)) (w := (mW (cG, g, tG) Zm (hW (cG, g, tG) Z (oL cG o f) σ) τ)) (w' := (mW (cG, g, tG) Zm (hW (cG, g, tG) Z (oL cG o f) σ) τ')) (rv := some (.int v)) (bytes := cX12_lay) (maxL := 2) (ret := (some .int)) (C := RX12) (As := [.int (xs (i + 1))]) (rest := [.int v]) (stk := [.int v, .int v]) ⟨hx, hb, hml, hown, hts⟩ hK hE hA hP hD hS (c_X12_lay l D (cG, g, tG) Zm _ τ (xs (i + 1)) (v, τ') hF) (cwV 1 hts (gwV wd_1526 wd_1527 wd_1528 wd_11 wd_1529) rfl rfl rfl hd_X12_lay ⟨Nat.le_of_ble_eq_true rfl, Nat.le_of_ble_eq_true rfl⟩) (mg_200 (cG, g, tG) Zm _ τ) rfl rfl rfl hl.1 rfl (Nat.le_of_ble_eq_true rfl) dL_law_439 hcs rfl (fun H locs hP hD hS => ?_)
  have hP := pperm (LW_m (cG, g, tG) Z (oL cG o f) σ τ').symm hP
  have hD := dperm (LW_m (cG, g, tG) Z (oL cG o f) σ τ').symm hD
  refine lv_icmp_eq (tgt := 1812) hx hb dL_law_442 (by decide) (fun _ => ?_) (fun c1 => absurd rfl c1)
  exact nx g Z σ τ' A f H locs ls rfl rfl hJ hXX hP hD hS hl
set_option maxRecDepth 100000 in
set_option maxHeartbeats 4000000 in
/-- clear, behind the class's call -/
theorem lw_m_7 {p : Program} {l : Launch} {e : Env} {s : State} {m : MethodId} {below : List Frame} {meth : Method} {c : Code} {b L : Nat} {xs : Nat → Int32} {D : va_G} {cG : Nat → ClassId} {tG : Nat → Nat} (CX : LCx p l s m meth c b L xs D cG tG) {h mm o i cells slots : Nat} (hi : i + 6 ≤ L) (hcs : cells ≤ room_1.cells ∧ slots ≤ room_1.slots) (nx : NX p l e s m below meth c b D cG tG h mm o i 1812 cells slots) {g : Nat → Nat} {Z Zm : hZ} {σ τ τ' : hSt} {A : HA} {f : Nat → Int64} {H : Heap} {locs : List Loc} {ls : Array Slot} {v : Int32} (e0 : g 0 = h) (e2 : g 200 = mm) (hF : f_X12_clear Zm τ  = some (v, τ')) (hJ : J A Z σ τ') (hXX : JX A (cG, g, tG) Z) (hP : va_P D vwCl (LW (cG, g, tG) Z (oL cG o f) σ τ) H) (hD : va_D (AA s) (LW (cG, g, tG) Z (oL cG o f) σ τ)) (hS : va_S (AA s) s.heap H locs) (hl : lv_has ls 7 [(4, .int (nI i)), (0, .ref b), (1, .ref h), (2, .ref mm), (3, .ref o)]) : W p l e room_1 s m #[Value.ref b] below meth c H locs cells slots (lw_Z below #[Value.ref b] s) (F0 m 451 ls [.int v]) := by
  obtain ⟨⟨hx, hb, hr, hml, hown, hts, hX, hbl, hlocks, hgv⟩, hl0, hL, hKE, hXE⟩ := id CX
  have hts : ∀ w ∈ hU, w.before #[Value.ref b] s = true := fun w hw => hts w (hU_tbl hw)
  have hown : s.vm.findClass RL = some m.cls := hown
  subst e0
  subst e2
  have hK := (hKE g).1
  have hE := (hKE g).2
  have hA : ∀ q : Nat, s.heap.size ≤ q → AA s q := fun _ h => h
  have hbA : ¬ AA s b := Nat.not_le.mpr hbl
  refine lv_aload_n hx hb dL_law_451 rfl (lv_at hl 3 rfl) ?_
  have hP := pperm (LW_m (cG, g, tG) Z (oL cG o f) σ τ) hP
  have hD := dperm (LW_m (cG, g, tG) Z (oL cG o f) σ τ) hD
  refine cl_V (G := (cG, g, tG)) (w := (mW (cG, g, tG) Zm (hW (cG, g, tG) Z (oL cG o f) σ) τ)) (w' := (mW (cG, g, tG) Zm (hW (cG, g, tG) Z (oL cG o f) σ) τ')) (rv := some (.int v)) (bytes := cX12_clear) (maxL := 2) (ret := (some .int)) (C := RX12) (As := []) (rest := [.int v]) (stk := [.int v, .int v]) ⟨hx, hb, hml, hown, hts⟩ hK hE hA hP hD hS (c_X12_clear l D (cG, g, tG) Zm _ τ  (v, τ') hF) (cwV 0 hts (gwV wd_1530 wd_1531 wd_1532 wd_11 wd_1533) rfl rfl rfl hd_X12_clear ⟨Nat.le_of_ble_eq_true rfl, Nat.le_of_ble_eq_true rfl⟩) (mg_200 (cG, g, tG) Zm _ τ) rfl rfl rfl hl.1 rfl (Nat.le_of_ble_eq_true rfl) dL_law_452 hcs rfl (fun H locs hP hD hS => ?_)
  have hP := pperm (LW_m (cG, g, tG) Z (oL cG o f) σ τ').symm hP
  have hD := dperm (LW_m (cG, g, tG) Z (oL cG o f) σ τ').symm hD
  refine lv_icmp_eq (tgt := 1812) hx hb dL_law_455 (by decide) (fun _ => ?_) (fun c1 => absurd rfl c1)
  exact nx g Z σ τ' A f H locs ls rfl rfl hJ hXX hP hD hS hl
set_option maxRecDepth 100000 in
set_option maxHeartbeats 4000000 in
/-- worth, behind the class's call -/
theorem lw_m_8 {p : Program} {l : Launch} {e : Env} {s : State} {m : MethodId} {below : List Frame} {meth : Method} {c : Code} {b L : Nat} {xs : Nat → Int32} {D : va_G} {cG : Nat → ClassId} {tG : Nat → Nat} (CX : LCx p l s m meth c b L xs D cG tG) {h mm o i cells slots : Nat} (hi : i + 6 ≤ L) (hcs : cells ≤ room_1.cells ∧ slots ≤ room_1.slots) (nx : NX p l e s m below meth c b D cG tG h mm o i 1812 cells slots) {F : Nat} {g : Nat → Nat} {Z Zm : hZ} {σ τ τ' : hSt} {A : HA} {f : Nat → Int64} {H : Heap} {locs : List Loc} {ls : Array Slot} {v : Int32} (e0 : g 0 = h) (e2 : g 200 = mm) (hF : f_X12_worth F Zm τ (xs (i + 1)) (xs (i + 2)) = some (v, τ')) (hJ : J A Z σ τ') (hXX : JX A (cG, g, tG) Z) (hP : va_P D vwCl (LW (cG, g, tG) Z (oL cG o f) σ τ) H) (hD : va_D (AA s) (LW (cG, g, tG) Z (oL cG o f) σ τ)) (hS : va_S (AA s) s.heap H locs) (hl : lv_has ls 7 [(4, .int (nI i)), (0, .ref b), (1, .ref h), (2, .ref mm), (3, .ref o)]) : W p l e room_1 s m #[Value.ref b] below meth c H locs cells slots (lw_Z below #[Value.ref b] s) (F0 m 476 ls [.int v]) := by
  obtain ⟨⟨hx, hb, hr, hml, hown, hts, hX, hbl, hlocks, hgv⟩, hl0, hL, hKE, hXE⟩ := id CX
  have hts : ∀ w ∈ hU, w.before #[Value.ref b] s = true := fun w hw => hts w (hU_tbl hw)
  have hown : s.vm.findClass RL = some m.cls := hown
  subst e0
  subst e2
  have hK := (hKE g).1
  have hE := (hKE g).2
  have hA : ∀ q : Nat, s.heap.size ≤ q → AA s q := fun _ h => h
  have hbA : ¬ AA s b := Nat.not_le.mpr hbl
  refine lv_aload_n hx hb dL_law_476 rfl (lv_at hl 3 rfl) ?_
  refine lw_ld (k := 1) (v := (1 : Int32)) hx hb hX hbl hbA hS hl (n0 := 1) (n4 := 0) rfl rfl rfl (by decide) (by omega) hL dL_law_477 dL_law_478 dL_law_480 dL_law_481 dL_law_482 ?_
  refine lw_ld (k := 2) (v := (2 : Int32)) hx hb hX hbl hbA hS hl (n0 := 1) (n4 := 0) rfl rfl rfl (by decide) (by omega) hL dL_law_483 dL_law_484 dL_law_486 dL_law_487 dL_law_488 ?_
  have hP := pperm (LW_m (cG, g, tG) Z (oL cG o f) σ τ) hP
  have hD := dperm (LW_m (cG, g, tG) Z (oL cG o f) σ τ) hD
  refine cl_V (G := (cG, g, tG)) (w := (mW (cG, g, tG) Zm (hW (cG, g, tG) Z (oL cG o f) σ) τ)) (w' := (mW (cG, g, tG) Zm (hW (cG, g, tG) Z (oL cG o f) σ) τ')) (rv := some (.int v)) (bytes := cX12_worth) (maxL := 3) (ret := (some .int)) (C := RX12) (As := [.int (xs (i + 1)), .int (xs (i + 2))]) (rest := [.int v]) (stk := [.int v, .int v]) ⟨hx, hb, hml, hown, hts⟩ hK hE hA hP hD hS (c_X12_worth l D (cG, g, tG) Zm _ τ F (xs (i + 1)) (xs (i + 2)) (v, τ') hF) (cwV 2 hts (gwV wd_1542 wd_1543 wd_1544 wd_11 wd_1545) rfl rfl rfl hd_X12_worth ⟨Nat.le_of_ble_eq_true rfl, Nat.le_of_ble_eq_true rfl⟩) (mg_200 (cG, g, tG) Zm _ τ) rfl rfl rfl hl.1 rfl (Nat.le_of_ble_eq_true rfl) dL_law_489 hcs rfl (fun H locs hP hD hS => ?_)
  have hP := pperm (LW_m (cG, g, tG) Z (oL cG o f) σ τ').symm hP
  have hD := dperm (LW_m (cG, g, tG) Z (oL cG o f) σ τ').symm hD
  refine lv_icmp_eq (tgt := 1812) hx hb dL_law_492 (by decide) (fun _ => ?_) (fun c1 => absurd rfl c1)
  exact nx g Z σ τ' A f H locs ls rfl rfl hJ hXX hP hD hS hl
set_option maxRecDepth 100000 in
set_option maxHeartbeats 4000000 in
/-- sum, behind the class's call -/
theorem lw_m_9 {p : Program} {l : Launch} {e : Env} {s : State} {m : MethodId} {below : List Frame} {meth : Method} {c : Code} {b L : Nat} {xs : Nat → Int32} {D : va_G} {cG : Nat → ClassId} {tG : Nat → Nat} (CX : LCx p l s m meth c b L xs D cG tG) {h mm o i cells slots : Nat} (hi : i + 6 ≤ L) (hcs : cells ≤ room_1.cells ∧ slots ≤ room_1.slots) (nx : NX p l e s m below meth c b D cG tG h mm o i 1812 cells slots) {F : Nat} {g : Nat → Nat} {Z Zm : hZ} {σ τ τ' : hSt} {A : HA} {f : Nat → Int64} {H : Heap} {locs : List Loc} {ls : Array Slot} {v : Int32} (e0 : g 0 = h) (e2 : g 200 = mm) (hF : f_X12_sum F Zm τ (xs (i + 1)) (xs (i + 2)) = some (v, τ')) (hJ : J A Z σ τ') (hXX : JX A (cG, g, tG) Z) (hP : va_P D vwCl (LW (cG, g, tG) Z (oL cG o f) σ τ) H) (hD : va_D (AA s) (LW (cG, g, tG) Z (oL cG o f) σ τ)) (hS : va_S (AA s) s.heap H locs) (hl : lv_has ls 7 [(4, .int (nI i)), (0, .ref b), (1, .ref h), (2, .ref mm), (3, .ref o)]) : W p l e room_1 s m #[Value.ref b] below meth c H locs cells slots (lw_Z below #[Value.ref b] s) (F0 m 513 ls [.int v]) := by
  obtain ⟨⟨hx, hb, hr, hml, hown, hts, hX, hbl, hlocks, hgv⟩, hl0, hL, hKE, hXE⟩ := id CX
  have hts : ∀ w ∈ hU, w.before #[Value.ref b] s = true := fun w hw => hts w (hU_tbl hw)
  have hown : s.vm.findClass RL = some m.cls := hown
  subst e0
  subst e2
  have hK := (hKE g).1
  have hE := (hKE g).2
  have hA : ∀ q : Nat, s.heap.size ≤ q → AA s q := fun _ h => h
  have hbA : ¬ AA s b := Nat.not_le.mpr hbl
  refine lv_aload_n hx hb dL_law_513 rfl (lv_at hl 3 rfl) ?_
  refine lw_ld (k := 1) (v := (1 : Int32)) hx hb hX hbl hbA hS hl (n0 := 1) (n4 := 0) rfl rfl rfl (by decide) (by omega) hL dL_law_514 dL_law_515 dL_law_517 dL_law_518 dL_law_519 ?_
  refine lw_ld (k := 2) (v := (2 : Int32)) hx hb hX hbl hbA hS hl (n0 := 1) (n4 := 0) rfl rfl rfl (by decide) (by omega) hL dL_law_520 dL_law_521 dL_law_523 dL_law_524 dL_law_525 ?_
  have hP := pperm (LW_m (cG, g, tG) Z (oL cG o f) σ τ) hP
  have hD := dperm (LW_m (cG, g, tG) Z (oL cG o f) σ τ) hD
  refine cl_V (G := (cG, g, tG)) (w := (mW (cG, g, tG) Zm (hW (cG, g, tG) Z (oL cG o f) σ) τ)) (w' := (mW (cG, g, tG) Zm (hW (cG, g, tG) Z (oL cG o f) σ) τ')) (rv := some (.int v)) (bytes := cX12_sum) (maxL := 3) (ret := (some .int)) (C := RX12) (As := [.int (xs (i + 1)), .int (xs (i + 2))]) (rest := [.int v]) (stk := [.int v, .int v]) ⟨hx, hb, hml, hown, hts⟩ hK hE hA hP hD hS (c_X12_sum l D (cG, g, tG) Zm _ τ F (xs (i + 1)) (xs (i + 2)) (v, τ') hF) (cwV 2 hts (gwV wd_1554 wd_1555 wd_1556 wd_11 wd_1557) rfl rfl rfl hd_X12_sum ⟨Nat.le_of_ble_eq_true rfl, Nat.le_of_ble_eq_true rfl⟩) (mg_200 (cG, g, tG) Zm _ τ) rfl rfl rfl hl.1 rfl (Nat.le_of_ble_eq_true rfl) dL_law_526 hcs rfl (fun H locs hP hD hS => ?_)
  have hP := pperm (LW_m (cG, g, tG) Z (oL cG o f) σ τ').symm hP
  have hD := dperm (LW_m (cG, g, tG) Z (oL cG o f) σ τ').symm hD
  refine lv_icmp_eq (tgt := 1812) hx hb dL_law_529 (by decide) (fun _ => ?_) (fun c1 => absurd rfl c1)
  exact nx g Z σ τ' A f H locs ls rfl rfl hJ hXX hP hD hS hl
