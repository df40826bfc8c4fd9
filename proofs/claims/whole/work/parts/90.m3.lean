/-! the law's cases, by program (genL.py) -/
set_option maxRecDepth 100000 in
set_option maxHeartbeats 4000000 in
/-- net, behind the class's call -/
theorem lw_m_30 {p : Program} {l : Launch} {e : Env} {s : State} {m : MethodId} {below : List Frame} {meth : Method} {c : Code} {b L : Nat} {xs : Nat → Int32} {D : va_G} {cG : Nat → ClassId} {tG : Nat → Nat} (CX : LCx p l s m meth c b L xs D cG tG) {h mm o i cells slots : Nat} (hi : i + 6 ≤ L) (hcs : cells ≤ room_1.cells ∧ slots ≤ room_1.slots) (nx : NX p l e s m below meth c b D cG tG h mm o i 1812 cells slots) {g : Nat → Nat} {Z Zm : hZ} {σ τ τ' : hSt} {A : HA} {f : Nat → Int64} {H : Heap} {locs : List Loc} {ls : Array Slot} {v : Int32} (e0 : g 0 = h) (e2 : g 200 = mm) (hF : f_X12_net Zm τ (xs (i + 1)) (xs (i + 2)) = some (v, τ')) (hJ : J A Z σ τ') (hXX : JX A (cG, g, tG) Z) (hP : va_P D vwCl (LW (cG, g, tG) Z (oL cG o f) σ τ) H) (hD : va_D (AA s) (LW (cG, g, tG) Z (oL cG o f) σ τ)) (hS : va_S (AA s) s.heap H locs) (hl : lv_has ls 7 [(4, .int (nI i)), (0, .ref b), (1, .ref h), (2, .ref mm), (3, .ref o)]) : W p l e room_1 s m #[Value.ref b] below meth c H locs cells slots (lw_Z below #[Value.ref b] s) (F0 m 1383 ls [.int v]) := by
  obtain ⟨⟨hx, hb, hr, hml, hown, hts, hX, hbl, hlocks, hgv⟩, hl0, hL, hKE, hXE⟩ := id CX
  have hts : ∀ w ∈ hU, w.before #[Value.ref b] s = true := fun w hw => hts w (hU_tbl hw)
  have hown : s.vm.findClass RL = some m.cls := hown
  subst e0
  subst e2
  have hK := (hKE g).1
  have hE := (hKE g).2
  have hA : ∀ q : Nat, s.heap.size ≤ q → AA s q := fun _ h => h
  have hbA : ¬ AA s b := Nat.not_le.mpr hbl
  refine lv_aload_n hx hb dL_law_1383 rfl (lv_at hl 3 rfl) ?_
  refine lw_ld (k := 1) (v := (1 : Int32)) hx hb hX hbl hbA hS hl (n0 := 1) (n4 := 0) rfl rfl rfl (by decide) (by omega) hL dL_law_1384 dL_law_1385 dL_law_1387 dL_law_1388 dL_law_1389 ?_
  refine lw_ld (k := 2) (v := (2 : Int32)) hx hb hX hbl hbA hS hl (n0 := 1) (n4 := 0) rfl rfl rfl (by decide) (by omega) hL dL_law_1390 dL_law_1391 dL_law_1393 dL_law_1394 dL_law_1395 ?_
  have hP := pperm (LW_m (cG, g, tG) Z (oL cG o f) σ τ) hP
  have hD := dperm (LW_m (cG, g, tG) Z (oL cG o f) σ τ) hD
  refine cl_V (G := (cG, g, tG)) (w := (mW (cG, g, tG) Zm (hW (cG, g, tG) Z (oL cG o f) σ) τ)) (w' := (mW (cG, g, tG) Zm (hW (cG, g, tG) Z (oL cG o f) σ) τ')) (rv := some (.int v)) (bytes := cX12_net) (maxL := 3) (ret := (some .int)) (C := RX12) (As := [.int (xs (i + 1)), .int (xs (i + 2))]) (rest := [.int v]) (stk := [.int v, .int v]) ⟨hx, hb, hml, hown, hts⟩ hK hE hA hP hD hS (c_X12_net l D (cG, g, tG) Zm _ τ (xs (i + 1)) (xs (i + 2)) (v, τ') hF) (cwV 2 hts (gwV wd_1810 wd_1811 wd_1812 wd_11 wd_1813) rfl rfl rfl hd_X12_net ⟨Nat.le_of_ble_eq_true rfl, Nat.le_of_ble_eq_true rfl⟩) (mg_200 (cG, g, tG) Zm _ τ) rfl rfl rfl hl.1 rfl (Nat.le_of_ble_eq_true rfl) dL_law_1396 hcs rfl (fun H locs hP hD hS => ?_)
  have hP := pperm (LW_m (cG, g, tG) Z (oL cG o f) σ τ').symm hP
  have hD := dperm (LW_m (cG, g, tG) Z (oL cG o f) σ τ').symm hD
  refine lv_icmp_eq (tgt := 1812) hx hb dL_law_1399 (by decide) (fun _ => ?_) (fun c1 => absurd rfl c1)
  exact nx g Z σ τ' A f H locs ls rfl rfl hJ hXX hP hD hS hl
set_option maxRecDepth 100000 in
set_option maxHeartbeats 4000000 in
/-- alike, behind the class's call -/
theorem lw_m_31 {p : Program} {l : Launch} {e : Env} {s : State} {m : MethodId} {below : List Frame} {meth : Method} {c : Code} {b L : Nat} {xs : Nat → Int32} {D : va_G} {cG : Nat → ClassId} {tG : Nat → Nat} (CX : LCx p l s m meth c b L xs D cG tG) {h mm o i cells slots : Nat} (hi : i + 6 ≤ L) (hcs : cells ≤ room_1.cells ∧ slots ≤ room_1.slots) (nx : NX p l e s m below meth c b D cG tG h mm o i 1812 cells slots) {F : Nat} {g : Nat → Nat} {Z Zm : hZ} {σ τ τ' : hSt} {A : HA} {f : Nat → Int64} {H : Heap} {locs : List Loc} {ls : Array Slot} {v : Int32} (e0 : g 0 = h) (e2 : g 200 = mm) (hF : f_X12_alike F Zm τ (xs (i + 1)) (xs (i + 2)) = some (v, τ')) (hJ : J A Z σ τ') (hXX : JX A (cG, g, tG) Z) (hP : va_P D vwCl (LW (cG, g, tG) Z (oL cG o f) σ τ) H) (hD : va_D (AA s) (LW (cG, g, tG) Z (oL cG o f) σ τ)) (hS : va_S (AA s) s.heap H locs) (hl : lv_has ls 7 [(4, .int (nI i)), (0, .ref b), (1, .ref h), (2, .ref mm), (3, .ref o)]) : W p l e room_1 s m #[Value.ref b] below meth c H locs cells slots (lw_Z below #[Value.ref b] s) (F0 m 1420 ls [.int v]) := by
  obtain ⟨⟨hx, hb, hr, hml, hown, hts, hX, hbl, hlocks, hgv⟩, hl0, hL, hKE, hXE⟩ := id CX
  have hts : ∀ w ∈ hU, w.before #[Value.ref b] s = true := fun w hw => hts w (hU_tbl hw)
  have hown : s.vm.findClass RL = some m.cls := hown
  subst e0
  subst e2
  have hK := (hKE g).1
  have hE := (hKE g).2
  have hA : ∀ q : Nat, s.heap.size ≤ q → AA s q := fun _ h => h
  have hbA : ¬ AA s b := Nat.not_le.mpr hbl
  refine lv_aload_n hx hb dL_law_1420 rfl (lv_at hl 3 rfl) ?_
  refine lw_ld (k := 1) (v := (1 : Int32)) hx hb hX hbl hbA hS hl (n0 := 1) (n4 := 0) rfl rfl rfl (by decide) (by omega) hL dL_law_1421 dL_law_1422 dL_law_1424 dL_law_1425 dL_law_1426 ?_
  refine lw_ld (k := 2) (v := (2 : Int32)) hx hb hX hbl hbA hS hl (n0 := 1) (n4 := 0) rfl rfl rfl (by decide) (by omega) hL dL_law_1427 dL_law_1428 dL_law_1430 dL_law_1431 dL_law_1432 ?_
  have hP := pperm (LW_m (cG, g, tG) Z (oL cG o f) σ τ) hP
  have hD := dperm (LW_m (cG, g, tG) Z (oL cG o f) σ τ) hD
  refine cl_V (G := (cG, g, tG)) (w := (mW (cG, g, tG) Zm (hW (cG, g, tG) Z (oL cG o f) σ) τ)) (w' := (mW (cG, g, tG) Zm (hW (cG, g, tG) Z (oL cG o f) σ) τ')) (rv := some (.int v)) (bytes := cX12_alike) (maxL := 3) (ret := (some .int)) (C := RX12) (As := [.int (xs (i + 1)), .int (xs (i + 2))]) (rest := [.int v]) (stk := [.int v, .int v]) ⟨hx, hb, hml, hown, hts⟩ hK hE hA hP hD hS (c_X12_alike l D (cG, g, tG) Zm _ τ F (xs (i + 1)) (xs (i + 2)) (v, τ') hF) (cwV 2 hts (gwV wd_1815 wd_1816 wd_1817 wd_11 wd_1818) rfl rfl rfl hd_X12_alike ⟨Nat.le_of_ble_eq_true rfl, Nat.le_of_ble_eq_true rfl⟩) (mg_200 (cG, g, tG) Zm _ τ) rfl rfl rfl hl.1 rfl (Nat.le_of_ble_eq_true rfl) dL_law_1433 hcs rfl (fun H locs hP hD hS => ?_)
  have hP := pperm (LW_m (cG, g, tG) Z (oL cG o f) σ τ').symm hP
  have hD := dperm (LW_m (cG, g, tG) Z (oL cG o f) σ τ').symm hD
  refine lv_icmp_eq (tgt := 1812) hx hb dL_law_1436 (by decide) (fun _ => ?_) (fun c1 => absurd rfl c1)
  exact nx g Z σ τ' A f H locs ls rfl rfl hJ hXX hP hD hS hl
set_option maxRecDepth 100000 in
set_option maxHeartbeats 4000000 in
/-- shuffle, behind the class's call -/
theorem lw_m_32 {p : Program} {l : Launch} {e : Env} {s : State} {m : MethodId} {below : List Frame} {meth : Method} {c : Code} {b L : Nat} {xs : Nat → Int32} {D : va_G} {cG : Nat → ClassId} {tG : Nat → Nat} (CX : LCx p l s m meth c b L xs D cG tG) {h mm o i cells slots : Nat} (hi : i + 6 ≤ L) (hcs : cells ≤ room_1.cells ∧ slots ≤ room_1.slots) (nx : NX p l e s m below meth c b D cG tG h mm o i 1812 cells slots) {F : Nat} {g : Nat → Nat} {Z Zm : hZ} {σ τ τ' : hSt} {A : HA} {f : Nat → Int64} {H : Heap} {locs : List Loc} {ls : Array Slot} {v : Int32} (e0 : g 0 = h) (e2 : g 200 = mm) (hF : f_X12_shuffle F Zm τ (xs (i + 1)) (xs (i + 2)) (xs (i + 3)) = some (v, τ')) (hJ : J A Z σ τ') (hXX : JX A (cG, g, tG) Z) (hP : va_P D vwCl (LW (cG, g, tG) Z (oL cG o f) σ τ) H) (hD : va_D (AA s) (LW (cG, g, tG) Z (oL cG o f) σ τ)) (hS : va_S (AA s) s.heap H locs) (hl : lv_has ls 7 [(4, .int (nI i)), (0, .ref b), (1, .ref h), (2, .ref mm), (3, .ref o)]) : W p l e room_1 s m #[Value.ref b] below meth c H locs cells slots (lw_Z below #[Value.ref b] s) (F0 m 1463 ls [.int v]) := by
  obtain ⟨⟨hx, hb, hr, hml, hown, hts, hX, hbl, hlocks, hgv⟩, hl0, hL, hKE, hXE⟩ := id CX
  have hts : ∀ w ∈ hU, w.before #[Value.ref b] s = true := fun w hw => hts w (hU_tbl hw)
  have hown : s.vm.findClass RL = some m.cls := hown
  subst e0
  subst e2
  have hK := (hKE g).1
  have hE := (hKE g).2
  have hA : ∀ q : Nat, s.heap.size ≤ q → AA s q := fun _ h => h
  have hbA : ¬ AA s b := Nat.not_le.mpr hbl
  refine lv_aload_n hx hb dL_law_1463 rfl (lv_at hl 3 rfl) ?_
  refine lw_ld (k := 1) (v := (1 : Int32)) hx hb hX hbl hbA hS hl (n0 := 1) (n4 := 0) rfl rfl rfl (by decide) (by omega) hL dL_law_1464 dL_law_1465 dL_law_1467 dL_law_1468 dL_law_1469 ?_
  refine lw_ld (k := 2) (v := (2 : Int32)) hx hb hX hbl hbA hS hl (n0 := 1) (n4 := 0) rfl rfl rfl (by decide) (by omega) hL dL_law_1470 dL_law_1471 dL_law_1473 dL_law_1474 dL_law_1475 ?_
  refine lw_ld (k := 3) (v := (3 : Int32)) hx hb hX hbl hbA hS hl (n0 := 1) (n4 := 0) rfl rfl rfl (by decide) (by omega) hL dL_law_1476 dL_law_1477 dL_law_1479 dL_law_1480 dL_law_1481 ?_
  have hP := pperm (LW_m (cG, g, tG) Z (oL cG o f) σ τ) hP
  have hD := dperm (LW_m (cG, g, tG) Z (oL cG o f) σ τ) hD
  refine cl_V (G := (cG, g, tG)) (w := (mW (cG, g, tG) Zm (hW (cG, g, tG) Z (oL cG o f) σ) τ)) (w' := (mW (cG, g, tG) Zm (hW (cG, g, tG) Z (oL cG o f) σ) τ')) (rv := some (.int v)) (bytes := cX12_shuffle) (maxL := 4) (ret := (some .int)) (C := RX12) (As := [.int (xs (i + 1)), .int (xs (i + 2)), .int (xs (i + 3))]) (rest := [.int v]) (stk := [.int v, .int v]) ⟨hx, hb, hml, hown, hts⟩ hK hE hA hP hD hS (c_X12_shuffle l D (cG, g, tG) Zm _ τ F (xs (i + 1)) (xs (i + 2)) (xs (i + 3)) (v, τ') hF) (cwV 3 hts (gwV wd_1835 wd_1836 wd_1837 wd_11 wd_1838) rfl rfl rfl hd_X12_shuffle ⟨Nat.le_of_ble_eq_true rfl, Nat.le_of_ble_eq_true rfl⟩) (mg_200 (cG, g, tG) Zm _ τ) rfl rfl rfl hl.1 rfl (Nat.le_of_ble_eq_true rfl) dL_law_1482 hcs rfl (fun H locs hP hD hS => ?_)
  have hP := pperm (LW_m (cG, g, tG) Z (oL cG o f) σ τ').symm hP
  have hD := dperm (LW_m (cG, g, tG) Z (oL cG o f) σ τ').symm hD
  refine lv_icmp_eq (tgt := 1812) hx hb dL_law_1485 (by decide) (fun _ => ?_) (fun c1 => absurd rfl c1)
  exact nx g Z σ τ' A f H locs ls rfl rfl hJ hXX hP hD hS hl
set_option maxRecDepth 100000 in
set_option maxHeartbeats 4000000 in
/-- unlike, behind the class's call -/
theorem lw_m_33 {p : Program} {l : Launch} {e : Env} {s : State} {m : MethodId} {below : List Frame} {meth : Method} {c : Code} {b L : Nat} {xs : Nat → Int32} {D : va_G} {cG : Nat → ClassId} {tG : Nat → Nat} (CX : LCx p l s m meth c b L xs D cG tG) {h mm o i cells slots : Nat} (hi : i + 6 ≤ L) (hcs : cells ≤ room_1.cells ∧ slots ≤ room_1.slots) (nx : NX p l e s m below meth c b D cG tG h mm o i 1812 cells slots) {F : Nat} {g : Nat → Nat} {Z Zm : hZ} {σ τ τ' : hSt} {A : HA} {f : Nat → Int64} {H : Heap} {locs : List Loc} {ls : Array Slot} {v : Int32} (e0 : g 0 = h) (e2 : g 200 = mm) (hF : f_X12_unlike F Zm τ (xs (i + 1)) (xs (i + 2)) (lng (xs (i + 3)) (xs (i + 4))) (xs (i + 5)) = some (v, τ')) (hJ : J A Z σ τ') (hXX : JX A (cG, g, tG) Z) (hP : va_P D vwCl (LW (cG, g, tG) Z (oL cG o f) σ τ) H) (hD : va_D (AA s) (LW (cG, g, tG) Z (oL cG o f) σ τ)) (hS : va_S (AA s) s.heap H locs) (hl : lv_has ls 7 [(4, .int (nI i)), (0, .ref b), (1, .ref h), (2, .ref mm), (3, .ref o)]) : W p l e room_1 s m #[Value.ref b] below meth c H locs cells slots (lw_Z below #[Value.ref b] s) (F0 m 1534 ls [.int v]) := by
  obtain ⟨⟨hx, hb, hr, hml, hown, hts, hX, hbl, hlocks, hgv⟩, hl0, hL, hKE, hXE⟩ := id CX
  have hts : ∀ w ∈ hU, w.before #[Value.ref b] s = true := fun w hw => hts w (hU_tbl hw)
  have hown : s.vm.findClass RL = some m.cls := hown
  subst e0
  subst e2
  have hK := (hKE g).1
  have hE := (hKE g).2
  have hA : ∀ q : Nat, s.heap.size ≤ q → AA s q := fun _ h => h
  have hbA : ¬ AA s b := Nat.not_le.mpr hbl
  refine lv_aload_n hx hb dL_law_1534 rfl (lv_at hl 3 rfl) ?_
  refine lw_ld (k := 1) (v := (1 : Int32)) hx hb hX hbl hbA hS hl (n0 := 1) (n4 := 0) rfl rfl rfl (by decide) (by omega) hL dL_law_1535 dL_law_1536 dL_law_1538 dL_law_1539 dL_law_1540 ?_
  refine lw_ld (k := 2) (v := (2 : Int32)) hx hb hX hbl hbA hS hl (n0 := 1) (n4 := 0) rfl rfl rfl (by decide) (by omega) hL dL_law_1541 dL_law_1542 dL_law_1544 dL_law_1545 dL_law_1546 ?_
  refine lw_ld (k := 3) (v := (3 : Int32)) hx hb hX hbl hbA hS hl (n0 := 1) (n4 := 0) rfl rfl rfl (by decide) (by omega) hL dL_law_1547 dL_law_1548 dL_law_1550 dL_law_1551 dL_law_1552 ?_
  refine lw_lg1 hx hb dL_law_1553 dL_law_1554 dL_law_1556 ?_
  refine lw_ld (k := 4) (v := (4 : Int32)) hx hb hX hbl hbA hS hl (n0 := 1) (n4 := 0) rfl rfl rfl (by decide) (by omega) hL dL_law_1557 dL_law_1558 dL_law_1560 dL_law_1561 dL_law_1562 ?_
  refine lw_lg2 hx hb hown (hts _ wd_1879) dL_law_1563 dL_law_1564 dL_law_1567 dL_law_1568 ?_
  refine lw_ld (k := 5) (v := (5 : Int32)) hx hb hX hbl hbA hS hl (n0 := 1) (n4 := 0) rfl rfl rfl (by decide) (by omega) hL dL_law_1569 dL_law_1570 dL_law_1572 dL_law_1573 dL_law_1574 ?_
  have hP := pperm (LW_m (cG, g, tG) Z (oL cG o f) σ τ) hP
  have hD := dperm (LW_m (cG, g, tG) Z (oL cG o f) σ τ) hD
  refine cl_V (G := (cG, g, tG)) (w := (mW (cG, g, tG) Zm (hW (cG, g, tG) Z (oL cG o f) σ) τ)) (w' := (mW (cG, g, tG) Zm (hW (cG, g, tG) Z (oL cG o f) σ) τ')) (rv := some (.int v)) (bytes := cX12_unlike) (maxL := 12) (ret := (some .int)) (C := RX12) (As := [.int (xs (i + 1)), .int (xs (i + 2)), .long (lng (xs (i + 3)) (xs (i + 4))), .int (xs (i + 5))]) (rest := [.int v]) (stk := [.int v, .int v]) ⟨hx, hb, hml, hown, hts⟩ hK hE hA hP hD hS (c_X12_unlike l D (cG, g, tG) Zm _ τ F (xs (i + 1)) (xs (i + 2)) (lng (xs (i + 3)) (xs (i + 4))) (xs (i + 5)) (v, τ') hF) (cwV 4 hts (gwV wd_1839 wd_1840 wd_1841 wd_11 wd_1842) rfl rfl rfl hd_X12_unlike ⟨Nat.le_of_ble_eq_true rfl, Nat.le_of_ble_eq_true rfl⟩) (mg_200 (cG, g, tG) Zm _ τ) rfl rfl rfl hl.1 rfl (Nat.le_of_ble_eq_true rfl) dL_law_1575 hcs rfl (fun H locs hP hD hS => ?_)
  have hP := pperm (LW_m (cG, g, tG) Z (oL cG o f) σ τ').symm hP
  have hD := dperm (LW_m (cG, g, tG) Z (oL cG o f) σ τ').symm hD
  refine lv_icmp_eq (tgt := 1812) hx hb dL_law_1578 (by decide) (fun _ => ?_) (fun c1 => absurd rfl c1)
  exact nx g Z σ τ' A f H locs ls rfl rfl hJ hXX hP hD hS hl
set_option maxRecDepth 100000 in
set_option maxHeartbeats 4000000 in
/-- rooms, behind the class's call -/
theorem lw_m_34 {p : Program} {l : Launch} {e : Env} {s : State} {m : MethodId} {below : List Frame} {meth : Method} {c : Code} {b L : Nat} {xs : Nat → Int32} {D : va_G} {cG : Nat → ClassId} {tG : Nat → Nat} (CX : LCx p l s m meth c b L xs D cG tG) {h mm o i cells slots : Nat} (hi : i + 6 ≤ L) (hcs : cells ≤ room_1.cells ∧ slots ≤ room_1.slots) (nx : NX p l e s m below meth c b D cG tG h mm o i 1812 cells slots) {F : Nat} {g : Nat → Nat} {Z Zm : hZ} {σ τ τ' : hSt} {A : HA} {f : Nat → Int64} {H : Heap} {locs : List Loc} {ls : Array Slot} {v : Int32} (e0 : g 0 = h) (e2 : g 200 = mm) (hF : f_X12_rooms F Zm τ (lng (xs (i + 1)) (xs (i + 2))) (xs (i + 3)) = some (v, τ')) (hJ : J A Z σ τ') (hXX : JX A (cG, g, tG) Z) (hP : va_P D vwCl (LW (cG, g, tG) Z (oL cG o f) σ τ) H) (hD : va_D (AA s) (LW (cG, g, tG) Z (oL cG o f) σ τ)) (hS : va_S (AA s) s.heap H locs) (hl : lv_has ls 7 [(4, .int (nI i)), (0, .ref b), (1, .ref h), (2, .ref mm), (3, .ref o)]) : W p l e room_1 s m #[Value.ref b] below meth c H locs cells slots (lw_Z below #[Value.ref b] s) (F0 m 1615 ls [.int v]) := by
  obtain ⟨⟨hx, hb, hr, hml, hown, hts, hX, hbl, hlocks, hgv⟩, hl0, hL, hKE, hXE⟩ := id CX
  have hts : ∀ w ∈ hU, w.before #[Value.ref b] s = true := fun w hw => hts w (hU_tbl hw)
  have hown : s.vm.findClass RL = some m.cls := hown
  subst e0
  subst e2
  have hK := (hKE g).1
  have hE := (hKE g).2
  have hA : ∀ q : Nat, s.heap.size ≤ q → AA s q := fun _ h => h
  have hbA : ¬ AA s b := Nat.not_le.mpr hbl
  refine lv_aload_n hx hb dL_law_1615 rfl (lv_at hl 3 rfl) ?_
  refine lw_ld (k := 1) (v := (1 : Int32)) hx hb hX hbl hbA hS hl (n0 := 1) (n4 := 0) rfl rfl rfl (by decide) (by omega) hL dL_law_1616 dL_law_1617 dL_law_1619 dL_law_1620 dL_law_1621 ?_
  refine lw_lg1 hx hb dL_law_1622 dL_law_1623 dL_law_1625 ?_
  refine lw_ld (k := 2) (v := (2 : Int32)) hx hb hX hbl hbA hS hl (n0 := 1) (n4 := 0) rfl rfl rfl (by decide) (by omega) hL dL_law_1626 dL_law_1627 dL_law_1629 dL_law_1630 dL_law_1631 ?_
  refine lw_lg2 hx hb hown (hts _ wd_1879) dL_law_1632 dL_law_1633 dL_law_1636 dL_law_1637 ?_
  refine lw_ld (k := 3) (v := (3 : Int32)) hx hb hX hbl hbA hS hl (n0 := 1) (n4 := 0) rfl rfl rfl (by decide) (by omega) hL dL_law_1638 dL_law_1639 dL_law_1641 dL_law_1642 dL_law_1643 ?_
  have hP := pperm (LW_m (cG, g, tG) Z (oL cG o f) σ τ) hP
  have hD := dperm (LW_m (cG, g, tG) Z (oL cG o f) σ τ) hD
  refine cl_V (G := (cG, g, tG)) (w := (mW (cG, g, tG) Zm (hW (cG, g, tG) Z (oL cG o f) σ) τ)) (w' := (mW (cG, g, tG) Zm (hW (cG, g, tG) Z (oL cG o f) σ) τ')) (rv := some (.int v)) (bytes := cX12_rooms) (maxL := 11) (ret := (some .int)) (C := RX12) (As := [.long (lng (xs (i + 1)) (xs (i + 2))), .int (xs (i + 3))]) (rest := [.int v]) (stk := [.int v, .int v]) ⟨hx, hb, hml, hown, hts⟩ hK hE hA hP hD hS (c_X12_rooms l D (cG, g, tG) Zm _ τ F (lng (xs (i + 1)) (xs (i + 2))) (xs (i + 3)) (v, τ') hF) (cwV 2 hts (gwV wd_1844 wd_1845 wd_1846 wd_11 wd_1847) rfl rfl rfl hd_X12_rooms ⟨Nat.le_of_ble_eq_true rfl, Nat.le_of_ble_eq_true rfl⟩) (mg_200 (cG, g, tG) Zm _ τ) rfl rfl rfl hl.1 rfl (Nat.le_of_ble_eq_true rfl) dL_law_1644 hcs rfl (fun H locs hP hD hS => ?_)
  have hP := pperm (LW_m (cG, g, tG) Z (oL cG o f) σ τ').symm hP
  have hD := dperm (LW_m (cG, g, tG) Z (oL cG o f) σ τ').symm hD
  refine lv_icmp_eq (tgt := 1812) hx hb dL_law_1647 (by decide) (fun _ => ?_) (fun c1 => absurd rfl c1)
  exact nx g Z σ τ' A f H locs ls rfl rfl hJ hXX hP hD hS hl
set_option maxRecDepth 100000 in
set_option maxHeartbeats 4000000 in
/-- book, behind the class's call -/
theorem lw_m_35 {p : Program} {l : Launch} {e : Env} {s : State} {m : MethodId} {below : List Frame} {meth : Method} {c : Code} {b L : Nat} {xs : Nat → Int32} {D : va_G} {cG : Nat → ClassId} {tG : Nat → Nat} (CX : LCx p l s m meth c b L xs D cG tG) {h mm o i cells slots : Nat} (hi : i + 6 ≤ L) (hcs : cells ≤ room_1.cells ∧ slots ≤ room_1.slots) (nx : NX p l e s m below meth c b D cG tG h mm o i 1812 cells slots) {F : Nat} {g : Nat → Nat} {Z Zm : hZ} {σ τ τ' : hSt} {A : HA} {f : Nat → Int64} {H : Heap} {locs : List Loc} {ls : Array Slot} {v : Int32} (e0 : g 0 = h) (e2 : g 200 = mm) (hF : f_X12_book F Zm τ (xs (i + 1)) (xs (i + 2)) (xs (i + 3)) = some (v, τ')) (hJ : J A Z σ τ') (hXX : JX A (cG, g, tG) Z) (hP : va_P D vwCl (LW (cG, g, tG) Z (oL cG o f) σ τ) H) (hD : va_D (AA s) (LW (cG, g, tG) Z (oL cG o f) σ τ)) (hS : va_S (AA s) s.heap H locs) (hl : lv_has ls 7 [(4, .int (nI i)), (0, .ref b), (1, .ref h), (2, .ref mm), (3, .ref o)]) : W p l e room_1 s m #[Value.ref b] below meth c H locs cells slots (lw_Z below #[Value.ref b] s) (F0 m 1674 ls [.int v]) := by
  obtain ⟨⟨hx, hb, hr, hml, hown, hts, hX, hbl, hlocks, hgv⟩, hl0, hL, hKE, hXE⟩ := id CX
  have hts : ∀ w ∈ hU, w.before #[Value.ref b] s = true := fun w hw => hts w (hU_tbl hw)
  have hown : s.vm.findClass RL = some m.cls := hown
  subst e0
  subst e2
  have hK := (hKE g).1
  have hE := (hKE g).2
  have hA : ∀ q : Nat, s.heap.size ≤ q → AA s q := fun _ h => h
  have hbA : ¬ AA s b := Nat.not_le.mpr hbl
  refine lv_aload_n hx hb dL_law_1674 rfl (lv_at hl 3 rfl) ?_
  refine lw_ld (k := 1) (v := (1 : Int32)) hx hb hX hbl hbA hS hl (n0 := 1) (n4 := 0) rfl rfl rfl (by decide) (by omega) hL dL_law_1675 dL_law_1676 dL_law_1678 dL_law_1679 dL_law_1680 ?_
  refine lw_ld (k := 2) (v := (2 : Int32)) hx hb hX hbl hbA hS hl (n0 := 1) (n4 := 0) rfl rfl rfl (by decide) (by omega) hL dL_law_1681 dL_law_1682 dL_law_1684 dL_law_1685 dL_law_1686 ?_
  refine lw_ld (k := 3) (v := (3 : Int32)) hx hb hX hbl hbA hS hl (n0 := 1) (n4 := 0) rfl rfl rfl (by decide) (by omega) hL dL_law_1687 dL_law_1688 dL_law_1690 dL_law_1691 dL_law_1692 ?_
  have hP := pperm (LW_m (cG, g, tG) Z (oL cG o f) σ τ) hP
  have hD := dperm (LW_m (cG, g, tG) Z (oL cG o f) σ τ) hD
  refine cl_V (G := (cG, g, tG)) (w := (mW (cG, g, tG) Zm (hW (cG, g, tG) Z (oL cG o f) σ) τ)) (w' := (mW (cG, g, tG) Zm (hW (cG, g, tG) Z (oL cG o f) σ) τ')) (rv := some (.int v)) (bytes := cX12_book) (maxL := 9) (ret := (some .int)) (C := RX12) (As := [.int (xs (i + 1)), .int (xs (i + 2)), .int (xs (i + 3))]) (rest := [.int v]) (stk := [.int v, .int v]) ⟨hx, hb, hml, hown, hts⟩ hK hE hA hP hD hS (c_X12_book l D (cG, g, tG) Zm _ τ F (xs (i + 1)) (xs (i + 2)) (xs (i + 3)) (v, τ') hF) (cwV 3 hts (gwV wd_1852 wd_1853 wd_1854 wd_11 wd_1855) rfl rfl rfl hd_X12_book ⟨Nat.le_of_ble_eq_true rfl, Nat.le_of_ble_eq_true rfl⟩) (mg_200 (cG, g, tG) Zm _ τ) rfl rfl rfl hl.1 rfl (Nat.le_of_ble_eq_true rfl) dL_law_1693 hcs rfl (fun H locs hP hD hS => ?_)
  have hP := pperm (LW_m (cG, g, tG) Z (oL cG o f) σ τ').symm hP
  have hD := dperm (LW_m (cG, g, tG) Z (oL cG o f) σ τ').symm hD
  refine lv_icmp_eq (tgt := 1812) hx hb dL_law_1696 (by decide) (fun _ => ?_) (fun c1 => absurd rfl c1)
  exact nx g Z σ τ' A f H locs ls rfl rfl hJ hXX hP hD hS hl
set_option maxRecDepth 100000 in
set_option maxHeartbeats 4000000 in
/-- mended, behind the class's call -/
theorem lw_m_36 {p : Program} {l : Launch} {e : Env} {s : State} {m : MethodId} {below : List Frame} {meth : Method} {c : Code} {b L : Nat} {xs : Nat → Int32} {D : va_G} {cG : Nat → ClassId} {tG : Nat → Nat} (CX : LCx p l s m meth c b L xs D cG tG) {h mm o i cells slots : Nat} (hi : i + 6 ≤ L) (hcs : cells ≤ room_1.cells ∧ slots ≤ room_1.slots) (nx : NX p l e s m below meth c b D cG tG h mm o i 1812 cells slots) {F : Nat} {g : Nat → Nat} {Z Zm : hZ} {σ τ τ' : hSt} {A : HA} {f : Nat → Int64} {H : Heap} {locs : List Loc} {ls : Array Slot} {v : Int32} (e0 : g 0 = h) (e2 : g 200 = mm) (hF : f_X12_mended F Zm τ (xs (i + 1)) (xs (i + 2)) (xs (i + 3)) = some (v, τ')) (hJ : J A Z σ τ') (hXX : JX A (cG, g, tG) Z) (hP : va_P D vwCl (LW (cG, g, tG) Z (oL cG o f) σ τ) H) (hD : va_D (AA s) (LW (cG, g, tG) Z (oL cG o f) σ τ)) (hS : va_S (AA s) s.heap H locs) (hl : lv_has ls 7 [(4, .int (nI i)), (0, .ref b), (1, .ref h), (2, .ref mm), (3, .ref o)]) : W p l e room_1 s m #[Value.ref b] below meth c H locs cells slots (lw_Z below #[Value.ref b] s) (F0 m 1723 ls [.int v]) := by
  obtain ⟨⟨hx, hb, hr, hml, hown, hts, hX, hbl, hlocks, hgv⟩, hl0, hL, hKE, hXE⟩ := id CX
  have hts : ∀ w ∈ hU, w.before #[Value.ref b] s = true := fun w hw => hts w (hU_tbl hw)
  have hown : s.vm.findClass RL = some m.cls := hown
  subst e0
  subst e2
  have hK := (hKE g).1
  have hE := (hKE g).2
  have hA : ∀ q : Nat, s.heap.size ≤ q → AA s q := fun _ h => h
  have hbA : ¬ AA s b := Nat.not_le.mpr hbl
  refine lv_aload_n hx hb dL_law_1723 rfl (lv_at hl 3 rfl) ?_
  refine lw_ld (k := 1) (v := (1 : Int32)) hx hb hX hbl hbA hS hl (n0 := 1) (n4 := 0) rfl rfl rfl (by decide) (by omega) hL dL_law_1724 dL_law_1725 dL_law_1727 dL_law_1728 dL_law_1729 ?_
  refine lw_ld (k := 2) (v := (2 : Int32)) hx hb hX hbl hbA hS hl (n0 := 1) (n4 := 0) rfl rfl rfl (by decide) (by omega) hL dL_law_1730 dL_law_1731 dL_law_1733 dL_law_1734 dL_law_1735 ?_
  refine lw_ld (k := 3) (v := (3 : Int32)) hx hb hX hbl hbA hS hl (n0 := 1) (n4 := 0) rfl rfl rfl (by decide) (by omega) hL dL_law_1736 dL_law_1737 dL_law_1739 dL_law_1740 dL_law_1741 ?_
  have hP := pperm (LW_m (cG, g, tG) Z (oL cG o f) σ τ) hP
  have hD := dperm (LW_m (cG, g, tG) Z (oL cG o f) σ τ) hD
  refine cl_V (G := (cG, g, tG)) (w := (mW (cG, g, tG) Zm (hW (cG, g, tG) Z (oL cG o f) σ) τ)) (w' := (mW (cG, g, tG) Zm (hW (cG, g, tG) Z (oL cG o f) σ) τ')) (rv := some (.int v)) (bytes := cX12_mended) (maxL := 6) (ret := (some .int)) (C := RX12) (As := [.int (xs (i + 1)), .int (xs (i + 2)), .int (xs (i + 3))]) (rest := [.int v]) (stk := [.int v, .int v]) ⟨hx, hb, hml, hown, hts⟩ hK hE hA hP hD hS (c_X12_mended l D (cG, g, tG) Zm _ τ F (xs (i + 1)) (xs (i + 2)) (xs (i + 3)) (v, τ') hF) (cwV 3 hts (gwV wd_1867 wd_1868 wd_1869 wd_11 wd_1870) rfl rfl rfl hd_X12_mended ⟨Nat.le_of_ble_eq_true rfl, Nat.le_of_ble_eq_true rfl⟩) (mg_200 (cG, g, tG) Zm _ τ) rfl rfl rfl hl.1 rfl (Nat.le_of_ble_eq_true rfl) dL_law_1742 hcs rfl (fun H locs hP hD hS => ?_)
  have hP := pperm (LW_m (cG, g, tG) Z (oL cG o f) σ τ').symm hP
  have hD := dperm (LW_m (cG, g, tG) Z (oL cG o f) σ τ').symm hD
  refine lv_icmp_eq (tgt := 1812) hx hb dL_law_1745 (by decide) (fun _ => ?_) (fun c1 => absurd rfl c1)
  exact nx g Z σ τ' A f H locs ls rfl rfl hJ hXX hP hD hS hl
set_option maxRecDepth 100000 in
set_option maxHeartbeats 4000000 in
/-- least, behind the class's call -/
theorem lw_m_37 {p : Program} {l : Launch} {e : Env} {s : State} {m : MethodId} {below : List Frame} {meth : Method} {c : Code} {b L : Nat} {xs : Nat → Int32} {D : va_G} {cG : Nat → ClassId} {tG : Nat → Nat} (CX : LCx p l s m meth c b L xs D cG tG) {h mm o i cells slots : Nat} (hi : i + 6 ≤ L) (hcs : cells ≤ room_1.cells ∧ slots ≤ room_1.slots) (nx : NX p l e s m below meth c b D cG tG h mm o i 1812 cells slots) {F : Nat} {g : Nat → Nat} {Z Zm : hZ} {σ τ τ' : hSt} {A : HA} {f : Nat → Int64} {H : Heap} {locs : List Loc} {ls : Array Slot} {v : Int32} (e0 : g 0 = h) (e2 : g 200 = mm) (hF : f_X12_least F Zm τ (xs (i + 1)) (xs (i + 2)) = some (v, τ')) (hJ : J A Z σ τ') (hXX : JX A (cG, g, tG) Z) (hP : va_P D vwCl (LW (cG, g, tG) Z (oL cG o f) σ τ) H) (hD : va_D (AA s) (LW (cG, g, tG) Z (oL cG o f) σ τ)) (hS : va_S (AA s) s.heap H locs) (hl : lv_has ls 7 [(4, .int (nI i)), (0, .ref b), (1, .ref h), (2, .ref mm), (3, .ref o)]) : W p l e room_1 s m #[Value.ref b] below meth c H locs cells slots (lw_Z below #[Value.ref b] s) (F0 m 1766 ls [.int v]) := by
  obtain ⟨⟨hx, hb, hr, hml, hown, hts, hX, hbl, hlocks, hgv⟩, hl0, hL, hKE, hXE⟩ := id CX
  have hts : ∀ w ∈ hU, w.before #[Value.ref b] s = true := fun w hw => hts w (hU_tbl hw)
  have hown : s.vm.findClass RL = some m.cls := hown
  subst e0
  subst e2
  have hK := (hKE g).1
  have hE := (hKE g).2
  have hA : ∀ q : Nat, s.heap.size ≤ q → AA s q := fun _ h => h
  have hbA : ¬ AA s b := Nat.not_le.mpr hbl
  refine lv_aload_n hx hb dL_law_1766 rfl (lv_at hl 3 rfl) ?_
  refine lw_ld (k := 1) (v := (1 : Int32)) hx hb hX hbl hbA hS hl (n0 := 1) (n4 := 0) rfl rfl rfl (by decide) (by omega) hL dL_law_1767 dL_law_1768 dL_law_1770 dL_law_1771 dL_law_1772 ?_
  refine lw_ld (k := 2) (v := (2 : Int32)) hx hb hX hbl hbA hS hl (n0 := 1) (n4 := 0) rfl rfl rfl (by decide) (by omega) hL dL_law_1773 dL_law_1774 dL_law_1776 dL_law_1777 dL_law_1778 ?_
  have hP := pperm (LW_m (cG, g, tG) Z (oL cG o f) σ τ) hP
  have hD := dperm (LW_m (cG, g, tG) Z (oL cG o f) σ τ) hD
  refine cl_V (G := (cG, g, tG)) (w := (mW (cG, g, tG) Zm (hW (cG, g, tG) Z (oL cG o f) σ) τ)) (w' := (mW (cG, g, tG) Zm (hW (cG, g, tG) Z (oL cG o f) σ) τ')) (rv := some (.int v)) (bytes := cX12_least) (maxL := 6) (ret := (some .int)) (C := RX12) (As := [.int (xs (i + 1)), .int (xs (i + 2))]) (rest := [.int v]) (stk := [.int v, .int v]) ⟨hx, hb, hml, hown, hts⟩ hK hE hA hP hD hS (c_X12_least l D (cG, g, tG) Zm _ τ F (xs (i + 1)) (xs (i + 2)) (v, τ') hF) (cwV 2 hts (gwV wd_1871 wd_1872 wd_1873 wd_11 wd_1874) rfl rfl rfl hd_X12_least ⟨Nat.le_of_ble_eq_true rfl, Nat.le_of_ble_eq_true rfl⟩) (mg_200 (cG, g, tG) Zm _ τ) rfl rfl rfl hl.1 rfl (Nat.le_of_ble_eq_true rfl) dL_law_1779 hcs rfl (fun H locs hP hD hS => ?_)
  have hP := pperm (LW_m (cG, g, tG) Z (oL cG o f) σ τ').symm hP
  have hD := dperm (LW_m (cG, g, tG) Z (oL cG o f) σ τ').symm hD
  refine lv_icmp_eq (tgt := 1812) hx hb dL_law_1782 (by decide) (fun _ => ?_) (fun c1 => absurd rfl c1)
  exact nx g Z σ τ' A f H locs ls rfl rfl hJ hXX hP hD hS hl
set_option maxRecDepth 100000 in
set_option maxHeartbeats 4000000 in
/-- count, behind the class's call -/
theorem lw_m_38 {p : Program} {l : Launch} {e : Env} {s : State} {m : MethodId} {below : List Frame} {meth : Method} {c : Code} {b L : Nat} {xs : Nat → Int32} {D : va_G} {cG : Nat → ClassId} {tG : Nat → Nat} (CX : LCx p l s m meth c b L xs D cG tG) {h mm o i cells slots : Nat} (hi : i + 6 ≤ L) (hcs : cells ≤ room_1.cells ∧ slots ≤ room_1.slots) (nx : NX p l e s m below meth c b D cG tG h mm o i 1812 cells slots) {g : Nat → Nat} {Z Zm : hZ} {σ τ τ' : hSt} {A : HA} {f : Nat → Int64} {H : Heap} {locs : List Loc} {ls : Array Slot} {v : Int32} (e0 : g 0 = h) (e2 : g 200 = mm) (hF : f_X12_count Zm τ (xs (i + 1)) = some (v, τ')) (hJ : J A Z σ τ') (hXX : JX A (cG, g, tG) Z) (hP : va_P D vwCl (LW (cG, g, tG) Z (oL cG o f) σ τ) H) (hD : va_D (AA s) (LW (cG, g, tG) Z (oL cG o f) σ τ)) (hS : va_S (AA s) s.heap H locs) (hl : lv_has ls 7 [(4, .int (nI i)), (0, .ref b), (1, .ref h), (2, .ref mm), (3, .ref o)]) : W p l e room_1 s m #[Value.ref b] below meth c H locs cells slots (lw_Z below #[Value.ref b] s) (F0 m 1797 ls [.int v]) := by
  obtain ⟨⟨hx, hb, hr, hml, hown, hts, hX, hbl, hlocks, hgv⟩, hl0, hL, hKE, hXE⟩ := id CX
  have hts : ∀ w ∈ hU, w.before #[Value.ref b] s = true := fun w hw => hts w (hU_tbl hw)
  have hown : s.vm.findClass RL = some m.cls := hown
  subst e0
  subst e2
  have hK := (hKE g).1
  have hE := (hKE g).2
  have hA : ∀ q : Nat, s.heap.size ≤ q → AA s q := fun _ h => h
  have hbA : ¬ AA s b := Nat.not_le.mpr hbl
  refine lv_aload_n hx hb dL_law_1797 rfl (lv_at hl 3 rfl) ?_
  refine lw_ld (k := 1) (v := (1 : Int32)) hx hb hX hbl hbA hS hl (n0 := 1) (n4 := 0) rfl rfl rfl (by decide) (by omega) hL dL_law_1798 dL_law_1799 dL_law_1801 dL_law_1802 dL_law_1803 ?_
  have hP := pperm (LW_m (cG, g, tG) Z (oL cG o f) σ τ) hP
  have hD := dperm (LW_m (cG, g, tG) Z (oL cG o f) σ τ) hD
  refine cl_V (G := (cG, g, tG)) (w := (mW (cG, g, tG) Zm (hW (cG, g, tG) Z (oL cG o f) σ) τ)) (w' := (mW (cG, g, tG) Zm (hW (cG, g, tG) Z (oL cG o f) σ) τ')) (rv := some (.int v)) (bytes := cX12_count) (maxL := 2) (ret := (some .int)) (C := RX12) (As := [.int (xs (i + 1))]) (rest := [.int v]) (stk := [.int v, .int v]) ⟨hx, hb, hml, hown, hts⟩ hK hE hA hP hD hS (c_X12_count l D (cG, g, tG) Zm _ τ (xs (i + 1)) (v, τ') hF) (cwV 1 hts (gwV wd_1875 wd_1876 wd_1877 wd_11 wd_1878) rfl rfl rfl hd_X12_count ⟨Nat.le_of_ble_eq_true rfl, Nat.le_of_ble_eq_true rfl⟩) (mg_200 (cG, g, tG) Zm _ τ) rfl rfl rfl hl.1 rfl (Nat.le_of_ble_eq_true rfl) dL_law_1804 hcs rfl (fun H locs hP hD hS => ?_)
  have hP := pperm (LW_m (cG, g, tG) Z (oL cG o f) σ τ').symm hP
  have hD := dperm (LW_m (cG, g, tG) Z (oL cG o f) σ τ').symm hD
  refine lv_icmp_eq (tgt := 1812) hx hb dL_law_1807 (by decide) (fun _ => ?_) (fun c1 => absurd rfl c1)
  exact nx g Z σ τ' A f H locs ls rfl rfl hJ hXX hP hD hS hl
