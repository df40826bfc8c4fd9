/-! the law's cases, by program (genL.py) -/
set_option maxRecDepth 100000 in
set_option maxHeartbeats 4000000 in
/-- alike -/
theorem lw_x_31 {p : Program} {l : Launch} {e : Env} {s : State} {m : MethodId} {below : List Frame} {meth : Method} {c : Code} {b L : Nat} {xs : Nat → Int32} {D : va_G} {cG : Nat → ClassId} {tG : Nat → Nat} (CX : LCx p l s m meth c b L xs D cG tG) {h mm o i cells slots : Nat} (hi : i + 6 ≤ L) (hcs : cells + 8 ≤ room_1.cells ∧ slots + 1000 ≤ room_1.slots) (nx : NX p l e s m below meth c b D cG tG h mm o i 1812 (cells + 8) (slots + 1000)) : NX p l e s m below meth c b D cG tG h mm o i 1404 cells slots := by
  intro g Z σ τ A f H locs ls e0 e2 hJ hXX hP hD hS hl
  obtain ⟨F, hF⟩ : ∃ F : Nat, 50000 ≤ F := ⟨50000, Nat.le_refl _⟩
  obtain ⟨⟨hx, hb, hr, hml, hown, hts, hX, hbl, hlocks, hgv⟩, hl0, hL, hKE, hXE⟩ := id CX
  have hts : ∀ w ∈ hU, w.before #[Value.ref b] s = true := fun w hw => hts w (hU_tbl hw)
  have hown : s.vm.findClass RL = some m.cls := hown
  subst e0
  subst e2
  have hK := (hKE g).1
  have hE := (hKE g).2
  have hA : ∀ q : Nat, s.heap.size ≤ q → AA s q := fun _ h => h
  have hbA : ¬ AA s b := Nat.not_le.mpr hbl
  refine lv_aload_n hx hb dL_law_1404 rfl (lv_at hl 2 rfl) ?_
  refine lw_ld (k := 1) (v := (1 : Int32)) hx hb hX hbl hbA hS hl (n0 := 1) (n4 := 0) rfl rfl rfl (by decide) (by omega) hL dL_law_1405 dL_law_1406 dL_law_1408 dL_law_1409 dL_law_1410 ?_
  refine lw_ld (k := 2) (v := (2 : Int32)) hx hb hX hbl hbA hS hl (n0 := 1) (n4 := 0) rfl rfl rfl (by decide) (by omega) hL dL_law_1411 dL_law_1412 dL_law_1414 dL_law_1415 dL_law_1416 ?_
  refine W.widen (k := cells + 8) (n := slots + 1000) (by omega) (by omega) ?_
  obtain ⟨v, σ', τ', h1, h2, hJ'⟩ := q_alike hF hJ (xs (i + 1)) (xs (i + 2))
  refine cl_V (G := (cG, g, tG)) (w := (hW (cG, g, tG) Z (mfix (cG, g, tG) τ ++ oL cG o f) σ)) (w' := (hW (cG, g, tG) Z (mfix (cG, g, tG) τ ++ oL cG o f) σ')) (rv := some (.int v)) (bytes := cX11_alike) (maxL := 5) (ret := (some .int)) (C := RX11) (As := [.int (xs (i + 1)), .int (xs (i + 2))]) (rest := []) (stk := [.int v]) ⟨hx, hb, hml, hown, hts⟩ hK hE hA hP hD hS (c_X11_alike l D (cG, g, tG) Z _ σ F (xs (i + 1)) (xs (i + 2)) (v, σ') h1) (cwV 2 hts (gwV wd_1066 wd_1067 wd_1068 wd_1 wd_1069) rfl rfl rfl hd_X11_alike ⟨Nat.le_of_ble_eq_true rfl, Nat.le_of_ble_eq_true rfl⟩) (hg_0 (cG, g, tG) Z _ σ) rfl rfl rfl hl.1 rfl (Nat.le_of_ble_eq_true rfl) dL_law_1417 hcs rfl (fun H locs hP hD hS => ?_)
  exact lw_m_31 CX hi hcs nx rfl rfl h2 hJ' (hXX) hP hD hS hl
set_option maxRecDepth 100000 in
set_option maxHeartbeats 4000000 in
/-- shuffle -/
theorem lw_x_32 {p : Program} {l : Launch} {e : Env} {s : State} {m : MethodId} {below : List Frame} {meth : Method} {c : Code} {b L : Nat} {xs : Nat → Int32} {D : va_G} {cG : Nat → ClassId} {tG : Nat → Nat} (CX : LCx p l s m meth c b L xs D cG tG) {h mm o i cells slots : Nat} (hi : i + 6 ≤ L) (hcs : cells + 8 ≤ room_1.cells ∧ slots + 1000 ≤ room_1.slots) (nx : NX p l e s m below meth c b D cG tG h mm o i 1812 (cells + 8) (slots + 1000)) : NX p l e s m below meth c b D cG tG h mm o i 1441 cells slots := by
  intro g Z σ τ A f H locs ls e0 e2 hJ hXX hP hD hS hl
  obtain ⟨F, hF⟩ : ∃ F : Nat, 50000 ≤ F := ⟨50000, Nat.le_refl _⟩
  obtain ⟨⟨hx, hb, hr, hml, hown, hts, hX, hbl, hlocks, hgv⟩, hl0, hL, hKE, hXE⟩ := id CX
  have hts : ∀ w ∈ hU, w.before #[Value.ref b] s = true := fun w hw => hts w (hU_tbl hw)
  have hown : s.vm.findClass RL = some m.cls := hown
  subst e0
  subst e2
  have hK := (hKE g).1
  have hE := (hKE g).2
  have hA : ∀ q : Nat, s.heap.size ≤ q → AA s q := fun _ h => h
  have hbA : ¬ AA s b := Nat.not_le.mpr hbl
  refine lv_aload_n hx hb dL_law_1441 rfl (lv_at hl 2 rfl) ?_
  refine lw_ld (k := 1) (v := (1 : Int32)) hx hb hX hbl hbA hS hl (n0 := 1) (n4 := 0) rfl rfl rfl (by decide) (by omega) hL dL_law_1442 dL_law_1443 dL_law_1445 dL_law_1446 dL_law_1447 ?_
  refine lw_ld (k := 2) (v := (2 : Int32)) hx hb hX hbl hbA hS hl (n0 := 1) (n4 := 0) rfl rfl rfl (by decide) (by omega) hL dL_law_1448 dL_law_1449 dL_law_1451 dL_law_1452 dL_law_1453 ?_
  refine lw_ld (k := 3) (v := (3 : Int32)) hx hb hX hbl hbA hS hl (n0 := 1) (n4 := 0) rfl rfl rfl (by decide) (by omega) hL dL_law_1454 dL_law_1455 dL_law_1457 dL_law_1458 dL_law_1459 ?_
  refine W.widen (k := cells + 8) (n := slots + 1000) (by omega) (by omega) ?_
  obtain ⟨v, σ', τ', h1, h2, hJ'⟩ := q_shuffle hF hJ (xs (i + 1)) (xs (i + 2)) (xs (i + 3))
  refine cl_V (G := (cG, g, tG)) (w := (hW (cG, g, tG) Z (mfix (cG, g, tG) τ ++ oL cG o f) σ)) (w' := (hW (cG, g, tG) Z (mfix (cG, g, tG) τ ++ oL cG o f) σ')) (rv := some (.int v)) (bytes := cX11_shuffle) (maxL := 6) (ret := (some .int)) (C := RX11) (As := [.int (xs (i + 1)), .int (xs (i + 2)), .int (xs (i + 3))]) (rest := []) (stk := [.int v]) ⟨hx, hb, hml, hown, hts⟩ hK hE hA hP hD hS (c_X11_shuffle l D (cG, g, tG) Z _ σ F (xs (i + 1)) (xs (i + 2)) (xs (i + 3)) (v, σ') h1) (cwV 3 hts (gwV wd_1092 wd_1093 wd_1094 wd_1 wd_1095) rfl rfl rfl hd_X11_shuffle ⟨Nat.le_of_ble_eq_true rfl, Nat.le_of_ble_eq_true rfl⟩) (hg_0 (cG, g, tG) Z _ σ) rfl rfl rfl hl.1 rfl (Nat.le_of_ble_eq_true rfl) dL_law_1460 hcs rfl (fun H locs hP hD hS => ?_)
  exact lw_m_32 CX hi hcs nx rfl rfl h2 hJ' (hXX) hP hD hS hl
set_option maxRecDepth 100000 in
set_option maxHeartbeats 4000000 in
/-- unlike -/
theorem lw_x_33 {p : Program} {l : Launch} {e : Env} {s : State} {m : MethodId} {below : List Frame} {meth : Method} {c : Code} {b L : Nat} {xs : Nat → Int32} {D : va_G} {cG : Nat → ClassId} {tG : Nat → Nat} (CX : LCx p l s m meth c b L xs D cG tG) {h mm o i cells slots : Nat} (hi : i + 6 ≤ L) (hcs : cells + 8 ≤ room_1.cells ∧ slots + 1000 ≤ room_1.slots) (nx : NX p l e s m below meth c b D cG tG h mm o i 1812 (cells + 8) (slots + 1000)) : NX p l e s m below meth c b D cG tG h mm o i 1490 cells slots := by
  intro g Z σ τ A f H locs ls e0 e2 hJ hXX hP hD hS hl
  obtain ⟨F, hF⟩ : ∃ F : Nat, 50000 ≤ F := ⟨50000, Nat.le_refl _⟩
  obtain ⟨⟨hx, hb, hr, hml, hown, hts, hX, hbl, hlocks, hgv⟩, hl0, hL, hKE, hXE⟩ := id CX
  have hts : ∀ w ∈ hU, w.before #[Value.ref b] s = true := fun w hw => hts w (hU_tbl hw)
  have hown : s.vm.findClass RL = some m.cls := hown
  subst e0
  subst e2
  have hK := (hKE g).1
  have hE := (hKE g).2
  have hA : ∀ q : Nat, s.heap.size ≤ q → AA s q := fun _ h => h
  have hbA : ¬ AA s b := Nat.not_le.mpr hbl
  refine lv_aload_n hx hb dL_law_1490 rfl (lv_at hl 2 rfl) ?_
  refine lw_ld (k := 1) (v := (1 : Int32)) hx hb hX hbl hbA hS hl (n0 := 1) (n4 := 0) rfl rfl rfl (by decide) (by omega) hL dL_law_1491 dL_law_1492 dL_law_1494 dL_law_1495 dL_law_1496 ?_
  refine lw_ld (k := 2) (v := (2 : Int32)) hx hb hX hbl hbA hS hl (n0 := 1) (n4 := 0) rfl rfl rfl (by decide) (by omega) hL dL_law_1497 dL_law_1498 dL_law_1500 dL_law_1501 dL_law_1502 ?_
  refine lw_ld (k := 3) (v := (3 : Int32)) hx hb hX hbl hbA hS hl (n0 := 1) (n4 := 0) rfl rfl rfl (by decide) (by omega) hL dL_law_1503 dL_law_1504 dL_law_1506 dL_law_1507 dL_law_1508 ?_
  refine lw_lg1 hx hb dL_law_1509 dL_law_1510 dL_law_1512 ?_
  refine lw_ld (k := 4) (v := (4 : Int32)) hx hb hX hbl hbA hS hl (n0 := 1) (n4 := 0) rfl rfl rfl (by decide) (by omega) hL dL_law_1513 dL_law_1514 dL_law_1516 dL_law_1517 dL_law_1518 ?_
  refine lw_lg2 hx hb hown (hts _ wd_1879) dL_law_1519 dL_law_1520 dL_law_1523 dL_law_1524 ?_
  refine lw_ld (k := 5) (v := (5 : Int32)) hx hb hX hbl hbA hS hl (n0 := 1) (n4 := 0) rfl rfl rfl (by decide) (by omega) hL dL_law_1525 dL_law_1526 dL_law_1528 dL_law_1529 dL_law_1530 ?_
  refine W.widen (k := cells + 8) (n := slots + 1000) (by omega) (by omega) ?_
  obtain ⟨v, σ', τ', h1, h2, hJ'⟩ := q_unlike hF hJ (xs (i + 1)) (xs (i + 2)) (lng (xs (i + 3)) (xs (i + 4))) (xs (i + 5))
  refine cl_V (G := (cG, g, tG)) (w := (hW (cG, g, tG) Z (mfix (cG, g, tG) τ ++ oL cG o f) σ)) (w' := (hW (cG, g, tG) Z (mfix (cG, g, tG) τ ++ oL cG o f) σ')) (rv := some (.int v)) (bytes := cX11_unlike) (maxL := 14) (ret := (some .int)) (C := RX11) (As := [.int (xs (i + 1)), .int (xs (i + 2)), .long (lng (xs (i + 3)) (xs (i + 4))), .int (xs (i + 5))]) (rest := []) (stk := [.int v]) ⟨hx, hb, hml, hown, hts⟩ hK hE hA hP hD hS (c_X11_unlike l D (cG, g, tG) Z _ σ F (xs (i + 1)) (xs (i + 2)) (lng (xs (i + 3)) (xs (i + 4))) (xs (i + 5)) (v, σ') h1) (cwV 4 hts (gwV wd_1096 wd_1097 wd_1098 wd_1 wd_1099) rfl rfl rfl hd_X11_unlike ⟨Nat.le_of_ble_eq_true rfl, Nat.le_of_ble_eq_true rfl⟩) (hg_0 (cG, g, tG) Z _ σ) rfl rfl rfl hl.1 rfl (Nat.le_of_ble_eq_true rfl) dL_law_1531 hcs rfl (fun H locs hP hD hS => ?_)
  exact lw_m_33 CX hi hcs nx rfl rfl h2 hJ' (hXX) hP hD hS hl
set_option maxRecDepth 100000 in
set_option maxHeartbeats 4000000 in
/-- rooms -/
theorem lw_x_34 {p : Program} {l : Launch} {e : Env} {s : State} {m : MethodId} {below : List Frame} {meth : Method} {c : Code} {b L : Nat} {xs : Nat → Int32} {D : va_G} {cG : Nat → ClassId} {tG : Nat → Nat} (CX : LCx p l s m meth c b L xs D cG tG) {h mm o i cells slots : Nat} (hi : i + 6 ≤ L) (hcs : cells + 8 ≤ room_1.cells ∧ slots + 1000 ≤ room_1.slots) (nx : NX p l e s m below meth c b D cG tG h mm o i 1812 (cells + 8) (slots + 1000)) : NX p l e s m below meth c b D cG tG h mm o i 1583 cells slots := by
  intro g Z σ τ A f H locs ls e0 e2 hJ hXX hP hD hS hl
  obtain ⟨F, hF⟩ : ∃ F : Nat, 50000 ≤ F := ⟨50000, Nat.le_refl _⟩
  obtain ⟨⟨hx, hb, hr, hml, hown, hts, hX, hbl, hlocks, hgv⟩, hl0, hL, hKE, hXE⟩ := id CX
  have hts : ∀ w ∈ hU, w.before #[Value.ref b] s = true := fun w hw => hts w (hU_tbl hw)
  have hown : s.vm.findClass RL = some m.cls := hown
  subst e0
  subst e2
  have hK := (hKE g).1
  have hE := (hKE g).2
  have hA : ∀ q : Nat, s.heap.size ≤ q → AA s q := fun _ h => h
  have hbA : ¬ AA s b := Nat.not_le.mpr hbl
  refine lv_aload_n hx hb dL_law_1583 rfl (lv_at hl 2 rfl) ?_
  refine lw_ld (k := 1) (v := (1 : Int32)) hx hb hX hbl hbA hS hl (n0 := 1) (n4 := 0) rfl rfl rfl (by decide) (by omega) hL dL_law_1584 dL_law_1585 dL_law_1587 dL_law_1588 dL_law_1589 ?_
  refine lw_lg1 hx hb dL_law_1590 dL_law_1591 dL_law_1593 ?_
  refine lw_ld (k := 2) (v := (2 : Int32)) hx hb hX hbl hbA hS hl (n0 := 1) (n4 := 0) rfl rfl rfl (by decide) (by omega) hL dL_law_1594 dL_law_1595 dL_law_1597 dL_law_1598 dL_law_1599 ?_
  refine lw_lg2 hx hb hown (hts _ wd_1879) dL_law_1600 dL_law_1601 dL_law_1604 dL_law_1605 ?_
  refine lw_ld (k := 3) (v := (3 : Int32)) hx hb hX hbl hbA hS hl (n0 := 1) (n4 := 0) rfl rfl rfl (by decide) (by omega) hL dL_law_1606 dL_law_1607 dL_law_1609 dL_law_1610 dL_law_1611 ?_
  refine W.widen (k := cells + 8) (n := slots + 1000) (by omega) (by omega) ?_
  obtain ⟨v, τ', h1, h2, hJ'⟩ := q_rooms hF hJ (lng (xs (i + 1)) (xs (i + 2))) (xs (i + 3))
  refine cl_V (G := (cG, g, tG)) (w := (hW (cG, g, tG) Z (mfix (cG, g, tG) τ ++ oL cG o f) σ)) (w' := (hW (cG, g, tG) Z (mfix (cG, g, tG) τ ++ oL cG o f) σ)) (rv := some (.int v)) (bytes := cX11_rooms) (maxL := 4) (ret := (some .int)) (C := RX11) (As := [.long (lng (xs (i + 1)) (xs (i + 2))), .int (xs (i + 3))]) (rest := []) (stk := [.int v]) ⟨hx, hb, hml, hown, hts⟩ hK hE hA hP hD hS (c_X11_rooms l D (cG, g, tG) _ F (lng (xs (i + 1)) (xs (i + 2))) (xs (i + 3)) v h1) (cwV 2 hts (gwV wd_1102 wd_1103 wd_1104 wd_1 wd_1105) rfl rfl rfl hd_X11_rooms ⟨Nat.le_of_ble_eq_true rfl, Nat.le_of_ble_eq_true rfl⟩) (hg_0 (cG, g, tG) Z _ σ) rfl rfl rfl hl.1 rfl (Nat.le_of_ble_eq_true rfl) dL_law_1612 hcs rfl (fun H locs hP hD hS => ?_)
  exact lw_m_34 CX hi hcs nx rfl rfl h2 hJ' (hXX) hP hD hS hl
set_option maxRecDepth 100000 in
set_option maxHeartbeats 4000000 in
/-- book -/
theorem lw_x_35 {p : Program} {l : Launch} {e : Env} {s : State} {m : MethodId} {below : List Frame} {meth : Method} {c : Code} {b L : Nat} {xs : Nat → Int32} {D : va_G} {cG : Nat → ClassId} {tG : Nat → Nat} (CX : LCx p l s m meth c b L xs D cG tG) {h mm o i cells slots : Nat} (hi : i + 6 ≤ L) (hcs : cells + 8 ≤ room_1.cells ∧ slots + 1000 ≤ room_1.slots) (nx : NX p l e s m below meth c b D cG tG h mm o i 1812 (cells + 8) (slots + 1000)) : NX p l e s m below meth c b D cG tG h mm o i 1652 cells slots := by
  intro g Z σ τ A f H locs ls e0 e2 hJ hXX hP hD hS hl
  obtain ⟨F, hF⟩ : ∃ F : Nat, 50000 ≤ F := ⟨50000, Nat.le_refl _⟩
  obtain ⟨⟨hx, hb, hr, hml, hown, hts, hX, hbl, hlocks, hgv⟩, hl0, hL, hKE, hXE⟩ := id CX
  have hts : ∀ w ∈ hU, w.before #[Value.ref b] s = true := fun w hw => hts w (hU_tbl hw)
  have hown : s.vm.findClass RL = some m.cls := hown
  subst e0
  subst e2
  have hK := (hKE g).1
  have hE := (hKE g).2
  have hA : ∀ q : Nat, s.heap.size ≤ q → AA s q := fun _ h => h
  have hbA : ¬ AA s b := Nat.not_le.mpr hbl
  refine lv_aload_n hx hb dL_law_1652 rfl (lv_at hl 2 rfl) ?_
  refine lw_ld (k := 1) (v := (1 : Int32)) hx hb hX hbl hbA hS hl (n0 := 1) (n4 := 0) rfl rfl rfl (by decide) (by omega) hL dL_law_1653 dL_law_1654 dL_law_1656 dL_law_1657 dL_law_1658 ?_
  refine lw_ld (k := 2) (v := (2 : Int32)) hx hb hX hbl hbA hS hl (n0 := 1) (n4 := 0) rfl rfl rfl (by decide) (by omega) hL dL_law_1659 dL_law_1660 dL_law_1662 dL_law_1663 dL_law_1664 ?_
  refine lw_ld (k := 3) (v := (3 : Int32)) hx hb hX hbl hbA hS hl (n0 := 1) (n4 := 0) rfl rfl rfl (by decide) (by omega) hL dL_law_1665 dL_law_1666 dL_law_1668 dL_law_1669 dL_law_1670 ?_
  refine W.widen (k := cells + 8) (n := slots + 1000) (by omega) (by omega) ?_
  obtain ⟨v, τ', h1, h2, hJ'⟩ := q_book hF hJ (xs (i + 1)) (xs (i + 2)) (xs (i + 3))
  refine cl_V (G := (cG, g, tG)) (w := (hW (cG, g, tG) Z (mfix (cG, g, tG) τ ++ oL cG o f) σ)) (w' := (hW (cG, g, tG) Z (mfix (cG, g, tG) τ ++ oL cG o f) σ)) (rv := some (.int v)) (bytes := cX11_book) (maxL := 4) (ret := (some .int)) (C := RX11) (As := [.int (xs (i + 1)), .int (xs (i + 2)), .int (xs (i + 3))]) (rest := []) (stk := [.int v]) ⟨hx, hb, hml, hown, hts⟩ hK hE hA hP hD hS (c_X11_book l D (cG, g, tG) _ F (xs (i + 1)) (xs (i + 2)) (xs (i + 3)) v h1) (cwV 3 hts (gwV wd_1120 wd_1121 wd_1122 wd_1 wd_1123) rfl rfl rfl hd_X11_book ⟨Nat.le_of_ble_eq_true rfl, Nat.le_of_ble_eq_true rfl⟩) (hg_0 (cG, g, tG) Z _ σ) rfl rfl rfl hl.1 rfl (Nat.le_of_ble_eq_true rfl) dL_law_1671 hcs rfl (fun H locs hP hD hS => ?_)
  exact lw_m_35 CX hi hcs nx rfl rfl h2 hJ' (hXX) hP hD hS hl
set_option maxRecDepth 100000 in
set_option maxHeartbeats 4000000 in
/-- mended -/
theorem lw_x_36 {p : Program} {l : Launch} {e : Env} {s : State} {m : MethodId} {below : List Frame} {meth : Method} {c : Code} {b L : Nat} {xs : Nat → Int32} {D : va_G} {cG : Nat → ClassId} {tG : Nat → Nat} (CX : LCx p l s m meth c b L xs D cG tG) {h mm o i cells slots : Nat} (hi : i + 6 ≤ L) (hcs : cells + 8 ≤ room_1.cells ∧ slots + 1000 ≤ room_1.slots) (nx : NX p l e s m below meth c b D cG tG h mm o i 1812 (cells + 8) (slots + 1000)) : NX p l e s m below meth c b D cG tG h mm o i 1701 cells slots := by
  intro g Z σ τ A f H locs ls e0 e2 hJ hXX hP hD hS hl
  obtain ⟨F, hF⟩ : ∃ F : Nat, 50000 ≤ F := ⟨50000, Nat.le_refl _⟩
  obtain ⟨⟨hx, hb, hr, hml, hown, hts, hX, hbl, hlocks, hgv⟩, hl0, hL, hKE, hXE⟩ := id CX
  have hts : ∀ w ∈ hU, w.before #[Value.ref b] s = true := fun w hw => hts w (hU_tbl hw)
  have hown : s.vm.findClass RL = some m.cls := hown
  subst e0
  subst e2
  have hK := (hKE g).1
  have hE := (hKE g).2
  have hA : ∀ q : Nat, s.heap.size ≤ q → AA s q := fun _ h => h
  have hbA : ¬ AA s b := Nat.not_le.mpr hbl
  refine lv_aload_n hx hb dL_law_1701 rfl (lv_at hl 2 rfl) ?_
  refine lw_ld (k := 1) (v := (1 : Int32)) hx hb hX hbl hbA hS hl (n0 := 1) (n4 := 0) rfl rfl rfl (by decide) (by omega) hL dL_law_1702 dL_law_1703 dL_law_1705 dL_law_1706 dL_law_1707 ?_
  refine lw_ld (k := 2) (v := (2 : Int32)) hx hb hX hbl hbA hS hl (n0 := 1) (n4 := 0) rfl rfl rfl (by decide) (by omega) hL dL_law_1708 dL_law_1709 dL_law_1711 dL_law_1712 dL_law_1713 ?_
  refine lw_ld (k := 3) (v := (3 : Int32)) hx hb hX hbl hbA hS hl (n0 := 1) (n4 := 0) rfl rfl rfl (by decide) (by omega) hL dL_law_1714 dL_law_1715 dL_law_1717 dL_law_1718 dL_law_1719 ?_
  refine W.widen (k := cells + 8) (n := slots + 1000) (by omega) (by omega) ?_
  obtain ⟨v, τ', h1, h2, hJ'⟩ := q_mended hF hJ (xs (i + 1)) (xs (i + 2)) (xs (i + 3))
  refine cl_V (G := (cG, g, tG)) (w := (hW (cG, g, tG) Z (mfix (cG, g, tG) τ ++ oL cG o f) σ)) (w' := (hW (cG, g, tG) Z (mfix (cG, g, tG) τ ++ oL cG o f) σ)) (rv := some (.int v)) (bytes := cX11_mended) (maxL := 4) (ret := (some .int)) (C := RX11) (As := [.int (xs (i + 1)), .int (xs (i + 2)), .int (xs (i + 3))]) (rest := []) (stk := [.int v]) ⟨hx, hb, hml, hown, hts⟩ hK hE hA hP hD hS (c_X11_mended l D (cG, g, tG) _ F (xs (i + 1)) (xs (i + 2)) (xs (i + 3)) v h1) (cwV 3 hts (gwV wd_1143 wd_1144 wd_1145 wd_1 wd_1146) rfl rfl rfl hd_X11_mended ⟨Nat.le_of_ble_eq_true rfl, Nat.le_of_ble_eq_true rfl⟩) (hg_0 (cG, g, tG) Z _ σ) rfl rfl rfl hl.1 rfl (Nat.le_of_ble_eq_true rfl) dL_law_1720 hcs rfl (fun H locs hP hD hS => ?_)
  exact lw_m_36 CX hi hcs nx rfl rfl h2 hJ' (hXX) hP hD hS hl
set_option maxRecDepth 100000 in
set_option maxHeartbeats 4000000 in
/-- least -/
theorem lw_x_37 {p : Program} {l : Launch} {e : Env} {s : State} {m : MethodId} {below : List Frame} {meth : Method} {c : Code} {b L : Nat} {xs : Nat → Int32} {D : va_G} {cG : Nat → ClassId} {tG : Nat → Nat} (CX : LCx p l s m meth c b L xs D cG tG) {h mm o i cells slots : Nat} (hi : i + 6 ≤ L) (hcs : cells + 8 ≤ room_1.cells ∧ slots + 1000 ≤ room_1.slots) (nx : NX p l e s m below meth c b D cG tG h mm o i 1812 (cells + 8) (slots + 1000)) : NX p l e s m below meth c b D cG tG h mm o i 1750 cells slots := by
  intro g Z σ τ A f H locs ls e0 e2 hJ hXX hP hD hS hl
  obtain ⟨F, hF⟩ : ∃ F : Nat, 50000 ≤ F := ⟨50000, Nat.le_refl _⟩
  obtain ⟨⟨hx, hb, hr, hml, hown, hts, hX, hbl, hlocks, hgv⟩, hl0, hL, hKE, hXE⟩ := id CX
  have hts : ∀ w ∈ hU, w.before #[Value.ref b] s = true := fun w hw => hts w (hU_tbl hw)
  have hown : s.vm.findClass RL = some m.cls := hown
  subst e0
  subst e2
  have hK := (hKE g).1
  have hE := (hKE g).2
  have hA : ∀ q : Nat, s.heap.size ≤ q → AA s q := fun _ h => h
  have hbA : ¬ AA s b := Nat.not_le.mpr hbl
  refine lv_aload_n hx hb dL_law_1750 rfl (lv_at hl 2 rfl) ?_
  refine lw_ld (k := 1) (v := (1 : Int32)) hx hb hX hbl hbA hS hl (n0 := 1) (n4 := 0) rfl rfl rfl (by decide) (by omega) hL dL_law_1751 dL_law_1752 dL_law_1754 dL_law_1755 dL_law_1756 ?_
  refine lw_ld (k := 2) (v := (2 : Int32)) hx hb hX hbl hbA hS hl (n0 := 1) (n4 := 0) rfl rfl rfl (by decide) (by omega) hL dL_law_1757 dL_law_1758 dL_law_1760 dL_law_1761 dL_law_1762 ?_
  refine W.widen (k := cells + 8) (n := slots + 1000) (by omega) (by omega) ?_
  obtain ⟨v, τ', h1, h2, hJ'⟩ := q_least hF hJ (xs (i + 1)) (xs (i + 2))
  refine cl_V (G := (cG, g, tG)) (w := (hW (cG, g, tG) Z (mfix (cG, g, tG) τ ++ oL cG o f) σ)) (w' := (hW (cG, g, tG) Z (mfix (cG, g, tG) τ ++ oL cG o f) σ)) (rv := some (.int v)) (bytes := cX11_least) (maxL := 4) (ret := (some .int)) (C := RX11) (As := [.int (xs (i + 1)), .int (xs (i + 2))]) (rest := []) (stk := [.int v]) ⟨hx, hb, hml, hown, hts⟩ hK hE hA hP hD hS (c_X11_least l D (cG, g, tG) _ F (xs (i + 1)) (xs (i + 2)) v h1) (cwV 2 hts (gwV wd_1150 wd_1151 wd_1152 wd_1 wd_1153) rfl rfl rfl hd_X11_least ⟨Nat.le_of_ble_eq_true rfl, Nat.le_of_ble_eq_true rfl⟩) (hg_0 (cG, g, tG) Z _ σ) rfl rfl rfl hl.1 rfl (Nat.le_of_ble_eq_true rfl) dL_law_1763 hcs rfl (fun H locs hP hD hS => ?_)
  exact lw_m_37 CX hi hcs nx rfl rfl h2 hJ' (hXX) hP hD hS hl
set_option maxRecDepth 100000 in
set_option maxHeartbeats 4000000 in
/-- count -/
theorem lw_x_38 {p : Program} {l : Launch} {e : Env} {s : State} {m : MethodId} {below : List Frame} {meth : Method} {c : Code} {b L : Nat} {xs : Nat → Int32} {D : va_G} {cG : Nat → ClassId} {tG : Nat → Nat} (CX : LCx p l s m meth c b L xs D cG tG) {h mm o i cells slots : Nat} (hi : i + 6 ≤ L) (hcs : cells + 8 ≤ room_1.cells ∧ slots + 1000 ≤ room_1.slots) (nx : NX p l e s m below meth c b D cG tG h mm o i 1812 (cells + 8) (slots + 1000)) : NX p l e s m below meth c b D cG tG h mm o i 1787 cells slots := by
  intro g Z σ τ A f H locs ls e0 e2 hJ hXX hP hD hS hl
  obtain ⟨F, hF⟩ : ∃ F : Nat, 50000 ≤ F := ⟨50000, Nat.le_refl _⟩
  obtain ⟨⟨hx, hb, hr, hml, hown, hts, hX, hbl, hlocks, hgv⟩, hl0, hL, hKE, hXE⟩ := id CX
  have hts : ∀ w ∈ hU, w.before #[Value.ref b] s = true := fun w hw => hts w (hU_tbl hw)
  have hown : s.vm.findClass RL = some m.cls := hown
  subst e0
  subst e2
  have hK := (hKE g).1
  have hE := (hKE g).2
  have hA : ∀ q : Nat, s.heap.size ≤ q → AA s q := fun _ h => h
  have hbA : ¬ AA s b := Nat.not_le.mpr hbl
  refine lv_aload_n hx hb dL_law_1787 rfl (lv_at hl 2 rfl) ?_
  refine lw_ld (k := 1) (v := (1 : Int32)) hx hb hX hbl hbA hS hl (n0 := 1) (n4 := 0) rfl rfl rfl (by decide) (by omega) hL dL_law_1788 dL_law_1789 dL_law_1791 dL_law_1792 dL_law_1793 ?_
  refine W.widen (k := cells + 8) (n := slots + 1000) (by omega) (by omega) ?_
  obtain ⟨v, τ', h1, h2, hJ'⟩ := q_count hJ (xs (i + 1))
  refine cl_V (G := (cG, g, tG)) (w := (hW (cG, g, tG) Z (mfix (cG, g, tG) τ ++ oL cG o f) σ)) (w' := (hW (cG, g, tG) Z (mfix (cG, g, tG) τ ++ oL cG o f) σ)) (rv := some (.int v)) (bytes := cX11_count) (maxL := 2) (ret := (some .int)) (C := RX11) (As := [.int (xs (i + 1))]) (rest := []) (stk := [.int v]) ⟨hx, hb, hml, hown, hts⟩ hK hE hA hP hD hS (c_X11_count l D (cG, g, tG) Z _ σ (xs (i + 1)) v h1) (cwV 1 hts (gwV wd_1158 wd_1159 wd_1160 wd_1 wd_1161) rfl rfl rfl hd_X11_count ⟨Nat.le_of_ble_eq_true rfl, Nat.le_of_ble_eq_true rfl⟩) (hg_0 (cG, g, tG) Z _ σ) rfl rfl rfl hl.1 rfl (Nat.le_of_ble_eq_true rfl) dL_law_1794 hcs rfl (fun H locs hP hD hS => ?_)
  exact lw_m_38 CX hi hcs nx rfl rfl h2 hJ' (hXX) hP hD hS hl
