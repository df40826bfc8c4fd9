/-! the law's cases, by program (genL.py) -/
set_option maxRecDepth 100000 in
set_option maxHeartbeats 4000000 in
/-- prime, behind the class's call -/
theorem lw_m_10 {p : Program} {l : Launch} {e : Env} {s : State} {m : MethodId} {below : List Frame} {meth : Method} {c : Code} {b L : Nat} {xs : Nat → Int32} {D : va_G} {cG : Nat → ClassId} {tG : Nat → Nat} (CX : LCx p l s m meth c b L xs D cG tG) {h mm o i cells slots : Nat} (hi : i + 6 ≤ L) (hcs : cells ≤ room_1.cells ∧ slots ≤ room_1.slots) (nx : NX p l e s m below meth c b D cG tG h mm o i 1812 cells slots) {F : Nat} {g : Nat → Nat} {Z Zm : hZ} {σ τ τ' : hSt} {A : HA} {f : Nat → Int64} {H : Heap} {locs : List Loc} {ls : Array Slot} {v : Int32} (e0 : g 0 = h) (e2 : g 200 = mm) (hF : f_X12_prime F Zm τ (xs (i + 1)) = some (v, τ')) (hJ : J A Z σ τ') (hXX : JX A (cG, g, tG) Z) (hP : va_P D vwCl (LW (cG, g, tG) Z (oL cG o f) σ τ) H) (hD : va_D (AA s) (LW (cG, g, tG) Z (oL cG o f) σ τ)) (hS : va_S (AA s) s.heap H locs) (hl : lv_has ls 7 [(4, .int (nI i)), (0, .ref b), (1, .ref h), (2, .ref mm), (3, .ref o)]) : W p l e room_1 s m #[Value.ref b] below meth c H locs cells slots (lw_Z below #[Value.ref b] s) (F0 m 544 ls [.int v]) := by
  obtain ⟨⟨hx, hb, hr, hml, hown, hts, hX, hbl, hlocks, hgv⟩, hl0, hL, hKE, hXE⟩ := id CX
  have hts : ∀ w ∈ hU, w.before #[Value.ref b] s = true := fun w hw => hts w (hU_tbl hw)
  have hown : s.vm.findClass RL = some m.cls := hown
  subst e0
  subst e2
  have hK := (hKE g).1
  have hE := (hKE g).2
  have hA : ∀ q : Nat, s.heap.size ≤ q → AA s q := fun _ h => h
  have hbA : ¬ AA s b := Nat.not_le.mpr hbl
  refine lv_aload_n hx hb dL_law_544 rfl (lv_at hl 3 rfl) ?_
  refine lw_ld (k := 1) (v := (1 : Int32)) hx hb hX hbl hbA hS hl (n0 := 1) (n4 := 0) rfl rfl rfl (by decide) (by omega) hL dL_law_545 dL_law_546 dL_law_548 dL_law_549 dL_law_550 ?_
  have hP := pperm (LW_m (cG, g, tG) Z (oL cG o f) σ τ) hP
  have hD := dperm (LW_m (cG, g, tG) Z (oL cG o f) σ τ) hD
  refine cl_V (G := (cG, g, tG)) (w := (mW (cG, g, tG) Zm (hW (cG, g, tG) Z (oL cG o f) σ) τ)) (w' := (mW (cG, g, tG) Zm (hW (cG, g, tG) Z (oL cG o f) σ) τ')) (rv := some (.int v)) (bytes := cX12_prime) (maxL := 2) (ret := (some .boolean)) (C := RX12) (As := [.int (xs (i + 1))]) (rest := [.int v]) (stk := [.int v, .int v]) ⟨hx, hb, hml, hown, hts⟩ hK hE hA hP hD hS (c_X12_prime l D (cG, g, tG) Zm _ τ F (xs (i + 1)) (v, τ') hF) (cwV 1 hts (gwV wd_1534 wd_1535 wd_1536 wd_11 wd_1537) rfl rfl rfl hd_X12_prime ⟨Nat.le_of_ble_eq_true rfl, Nat.le_of_ble_eq_true rfl⟩) (mg_200 (cG, g, tG) Zm _ τ) rfl rfl rfl hl.1 rfl (Nat.le_of_ble_eq_true rfl) dL_law_551 hcs rfl (fun H locs hP hD hS => ?_)
  have hP := pperm (LW_m (cG, g, tG) Z (oL cG o f) σ τ').symm hP
  have hD := dperm (LW_m (cG, g, tG) Z (oL cG o f) σ τ').symm hD
  refine lv_icmp_eq (tgt := 1812) hx hb dL_law_554 (by decide) (fun _ => ?_) (fun c1 => absurd rfl c1)
  exact nx g Z σ τ' A f H locs ls rfl rfl hJ hXX hP hD hS hl
set_option maxRecDepth 100000 in
set_option maxHeartbeats 4000000 in
/-- curve, behind the class's call -/
theorem lw_m_11 {p : Program} {l : Launch} {e : Env} {s : State} {m : MethodId} {below : List Frame} {meth : Method} {c : Code} {b L : Nat} {xs : Nat → Int32} {D : va_G} {cG : Nat → ClassId} {tG : Nat → Nat} (CX : LCx p l s m meth c b L xs D cG tG) {h mm o i cells slots : Nat} (hi : i + 6 ≤ L) (hcs : cells ≤ room_1.cells ∧ slots ≤ room_1.slots) (nx : NX p l e s m below meth c b D cG tG h mm o i 1812 cells slots) {F : Nat} {g : Nat → Nat} {Z Zm : hZ} {σ τ τ' : hSt} {A : HA} {f : Nat → Int64} {H : Heap} {locs : List Loc} {ls : Array Slot} {v : Int32} (e0 : g 0 = h) (e2 : g 200 = mm) (hF : f_X12_curve F Zm τ (xs (i + 1)) (xs (i + 2)) = some (v, τ')) (hJ : J A Z σ τ') (hXX : JX A (cG, g, tG) Z) (hP : va_P D vwCl (LW (cG, g, tG) Z (oL cG o f) σ τ) H) (hD : va_D (AA s) (LW (cG, g, tG) Z (oL cG o f) σ τ)) (hS : va_S (AA s) s.heap H locs) (hl : lv_has ls 7 [(4, .int (nI i)), (0, .ref b), (1, .ref h), (2, .ref mm), (3, .ref o)]) : W p l e room_1 s m #[Value.ref b] below meth c H locs cells slots (lw_Z below #[Value.ref b] s) (F0 m 575 ls [.int v]) := by
  obtain ⟨⟨hx, hb, hr, hml, hown, hts, hX, hbl, hlocks, hgv⟩, hl0, hL, hKE, hXE⟩ := id CX
  have hts : ∀ w ∈ hU, w.before #[Value.ref b] s = true := fun w hw => hts w (hU_tbl hw)
  have hown : s.vm.findClass RL = some m.cls := hown
  subst e0
  subst e2
  have hK := (hKE g).1
  have hE := (hKE g).2
  have hA : ∀ q : Nat, s.heap.size ≤ q → AA s q := fun _ h => h
  have hbA : ¬ AA s b := Nat.not_le.mpr hbl
  refine lv_aload_n hx hb dL_law_575 rfl (lv_at hl 3 rfl) ?_
  refine lw_ld (k := 1) (v := (1 : Int32)) hx hb hX hbl hbA hS hl (n0 := 1) (n4 := 0) rfl rfl rfl (by decide) (by omega) hL dL_law_576 dL_law_577 dL_law_579 dL_law_580 dL_law_581 ?_
  refine lw_ld (k := 2) (v := (2 : Int32)) hx hb hX hbl hbA hS hl (n0 := 1) (n4 := 0) rfl rfl rfl (by decide) (by omega) hL dL_law_582 dL_law_583 dL_law_585 dL_law_586 dL_law_587 ?_
  have hP := pperm (LW_m (cG, g, tG) Z (oL cG o f) σ τ) hP
  have hD := dperm (LW_m (cG, g, tG) Z (oL cG o f) σ τ) hD
  refine cl_V (G := (cG, g, tG)) (w := (mW (cG, g, tG) Zm (hW (cG, g, tG) Z (oL cG o f) σ) τ)) (w' := (mW (cG, g, tG) Zm (hW (cG, g, tG) Z (oL cG o f) σ) τ')) (rv := some (.int v)) (bytes := cX12_curve) (maxL := 4) (ret := (some .int)) (C := RX12) (As := [.int (xs (i + 1)), .int (xs (i + 2))]) (rest := [.int v]) (stk := [.int v, .int v]) ⟨hx, hb, hml, hown, hts⟩ hK hE hA hP hD hS (c_X12_curve l D (cG, g, tG) Zm _ τ F (xs (i + 1)) (xs (i + 2)) (v, τ') hF) (cwV 2 hts (gwV wd_1558 wd_1559 wd_1560 wd_11 wd_1561) rfl rfl rfl hd_X12_curve ⟨Nat.le_of_ble_eq_true rfl, Nat.le_of_ble_eq_true rfl⟩) (mg_200 (cG, g, tG) Zm _ τ) rfl rfl rfl hl.1 rfl (Nat.le_of_ble_eq_true rfl) dL_law_588 hcs rfl (fun H locs hP hD hS => ?_)
  have hP := pperm (LW_m (cG, g, tG) Z (oL cG o f) σ τ').symm hP
  have hD := dperm (LW_m (cG, g, tG) Z (oL cG o f) σ τ').symm hD
  refine lv_icmp_eq (tgt := 1812) hx hb dL_law_591 (by decide) (fun _ => ?_) (fun c1 => absurd rfl c1)
  exact nx g Z σ τ' A f H locs ls rfl rfl hJ hXX hP hD hS hl
set_option maxRecDepth 100000 in
set_option maxHeartbeats 4000000 in
/-- law, behind the class's call -/
theorem lw_m_12 {p : Program} {l : Launch} {e : Env} {s : State} {m : MethodId} {below : List Frame} {meth : Method} {c : Code} {b L : Nat} {xs : Nat → Int32} {D : va_G} {cG : Nat → ClassId} {tG : Nat → Nat} (CX : LCx p l s m meth c b L xs D cG tG) {h mm o i cells slots : Nat} (hi : i + 6 ≤ L) (hcs : cells ≤ room_1.cells ∧ slots ≤ room_1.slots) (nx : NX p l e s m below meth c b D cG tG h mm o i 1812 cells slots) {F : Nat} {g : Nat → Nat} {Z Zm : hZ} {σ τ τ' : hSt} {A : HA} {f : Nat → Int64} {H : Heap} {locs : List Loc} {ls : Array Slot} {v : Int32} (e0 : g 0 = h) (e2 : g 200 = mm) (hF : f_X12_law F Zm τ  = some (v, τ')) (hJ : J A Z σ τ') (hXX : JX A (cG, g, tG) Z) (hP : va_P D vwCl (LW (cG, g, tG) Z (oL cG o f) σ τ) H) (hD : va_D (AA s) (LW (cG, g, tG) Z (oL cG o f) σ τ)) (hS : va_S (AA s) s.heap H locs) (hl : lv_has ls 7 [(4, .int (nI i)), (0, .ref b), (1, .ref h), (2, .ref mm), (3, .ref o)]) : W p l e room_1 s m #[Value.ref b] below meth c H locs cells slots (lw_Z below #[Value.ref b] s) (F0 m 600 ls [.int v]) := by
  obtain ⟨⟨hx, hb, hr, hml, hown, hts, hX, hbl, hlocks, hgv⟩, hl0, hL, hKE, hXE⟩ := id CX
  have hts : ∀ w ∈ hU, w.before #[Value.ref b] s = true := fun w hw => hts w (hU_tbl hw)
  have hown : s.vm.findClass RL = some m.cls := hown
  subst e0
  subst e2
  have hK := (hKE g).1
  have hE := (hKE g).2
  have hA : ∀ q : Nat, s.heap.size ≤ q → AA s q := fun _ h => h
  have hbA : ¬ AA s b := Nat.not_le.mpr hbl
  refine lv_aload_n hx hb dL_law_600 rfl (lv_at hl 3 rfl) ?_
  have hP := pperm (LW_m (cG, g, tG) Z (oL cG o f) σ τ) hP
  have hD := dperm (LW_m (cG, g, tG) Z (oL cG o f) σ τ) hD
  refine cl_V (G := (cG, g, tG)) (w := (mW (cG, g, tG) Zm (hW (cG, g, tG) Z (oL cG o f) σ) τ)) (w' := (mW (cG, g, tG) Zm (hW (cG, g, tG) Z (oL cG o f) σ) τ')) (rv := some (.int v)) (bytes := cX12_law) (maxL := 1) (ret := (some .int)) (C := RX12) (As := []) (rest := [.int v]) (stk := [.int v, .int v]) ⟨hx, hb, hml, hown, hts⟩ hK hE hA hP hD hS (c_X12_law l D (cG, g, tG) Zm _ τ F  (v, τ') hF) (cwV 0 hts (gwV wd_1628 wd_1629 wd_1630 wd_11 wd_1631) rfl rfl rfl hd_X12_law ⟨Nat.le_of_ble_eq_true rfl, Nat.le_of_ble_eq_true rfl⟩) (mg_200 (cG, g, tG) Zm _ τ) rfl rfl rfl hl.1 rfl (Nat.le_of_ble_eq_true rfl) dL_law_601 hcs rfl (fun H locs hP hD hS => ?_)
  have hP := pperm (LW_m (cG, g, tG) Z (oL cG o f) σ τ').symm hP
  have hD := dperm (LW_m (cG, g, tG) Z (oL cG o f) σ τ').symm hD
  refine lv_icmp_eq (tgt := 1812) hx hb dL_law_604 (by decide) (fun _ => ?_) (fun c1 => absurd rfl c1)
  exact nx g Z σ τ' A f H locs ls rfl rfl hJ hXX hP hD hS hl
set_option maxRecDepth 100000 in
set_option maxHeartbeats 4000000 in
/-- giant, behind the class's call -/
theorem lw_m_13 {p : Program} {l : Launch} {e : Env} {s : State} {m : MethodId} {below : List Frame} {meth : Method} {c : Code} {b L : Nat} {xs : Nat → Int32} {D : va_G} {cG : Nat → ClassId} {tG : Nat → Nat} (CX : LCx p l s m meth c b L xs D cG tG) {h mm o i cells slots : Nat} (hi : i + 6 ≤ L) (hcs : cells ≤ room_1.cells ∧ slots ≤ room_1.slots) (nx : NX p l e s m below meth c b D cG tG h mm o i 1812 cells slots) {F : Nat} {g : Nat → Nat} {Z Zm : hZ} {σ τ τ' : hSt} {A : HA} {f : Nat → Int64} {H : Heap} {locs : List Loc} {ls : Array Slot} {v : Int32} (e0 : g 0 = h) (e2 : g 200 = mm) (hF : f_X12_giant F Zm τ  = some (v, τ')) (hJ : J A Z σ τ') (hXX : JX A (cG, g, tG) Z) (hP : va_P D vwCl (LW (cG, g, tG) Z (oL cG o f) σ τ) H) (hD : va_D (AA s) (LW (cG, g, tG) Z (oL cG o f) σ τ)) (hS : va_S (AA s) s.heap H locs) (hl : lv_has ls 7 [(4, .int (nI i)), (0, .ref b), (1, .ref h), (2, .ref mm), (3, .ref o)]) : W p l e room_1 s m #[Value.ref b] below meth c H locs cells slots (lw_Z below #[Value.ref b] s) (F0 m 613 ls [.int v]) := by
  obtain ⟨⟨hx, hb, hr, hml, hown, hts, hX, hbl, hlocks, hgv⟩, hl0, hL, hKE, hXE⟩ := id CX
  have hts : ∀ w ∈ hU, w.before #[Value.ref b] s = true := fun w hw => hts w (hU_tbl hw)
  have hown : s.vm.findClass RL = some m.cls := hown
  subst e0
  subst e2
  have hK := (hKE g).1
  have hE := (hKE g).2
  have hA : ∀ q : Nat, s.heap.size ≤ q → AA s q := fun _ h => h
  have hbA : ¬ AA s b := Nat.not_le.mpr hbl
  refine lv_aload_n hx hb dL_law_613 rfl (lv_at hl 3 rfl) ?_
  have hP := pperm (LW_m (cG, g, tG) Z (oL cG o f) σ τ) hP
  have hD := dperm (LW_m (cG, g, tG) Z (oL cG o f) σ τ) hD
  refine cl_V (G := (cG, g, tG)) (w := (mW (cG, g, tG) Zm (hW (cG, g, tG) Z (oL cG o f) σ) τ)) (w' := (mW (cG, g, tG) Zm (hW (cG, g, tG) Z (oL cG o f) σ) τ')) (rv := some (.int v)) (bytes := cX12_giant) (maxL := 1) (ret := (some .int)) (C := RX12) (As := []) (rest := [.int v]) (stk := [.int v, .int v]) ⟨hx, hb, hml, hown, hts⟩ hK hE hA hP hD hS (c_X12_giant l D (cG, g, tG) Zm _ τ F  (v, τ') hF) (cwV 0 hts (gwV wd_1636 wd_1637 wd_1638 wd_11 wd_1639) rfl rfl rfl hd_X12_giant ⟨Nat.le_of_ble_eq_true rfl, Nat.le_of_ble_eq_true rfl⟩) (mg_200 (cG, g, tG) Zm _ τ) rfl rfl rfl hl.1 rfl (Nat.le_of_ble_eq_true rfl) dL_law_614 hcs rfl (fun H locs hP hD hS => ?_)
  have hP := pperm (LW_m (cG, g, tG) Z (oL cG o f) σ τ').symm hP
  have hD := dperm (LW_m (cG, g, tG) Z (oL cG o f) σ τ').symm hD
  refine lv_icmp_eq (tgt := 1812) hx hb dL_law_617 (by decide) (fun _ => ?_) (fun c1 => absurd rfl c1)
  exact nx g Z σ τ' A f H locs ls rfl rfl hJ hXX hP hD hS hl
set_option maxRecDepth 100000 in
set_option maxHeartbeats 4000000 in
/-- talk, behind the class's call -/
theorem lw_m_14 {p : Program} {l : Launch} {e : Env} {s : State} {m : MethodId} {below : List Frame} {meth : Method} {c : Code} {b L : Nat} {xs : Nat → Int32} {D : va_G} {cG : Nat → ClassId} {tG : Nat → Nat} (CX : LCx p l s m meth c b L xs D cG tG) {h mm o i cells slots : Nat} (hi : i + 6 ≤ L) (hcs : cells ≤ room_1.cells ∧ slots ≤ room_1.slots) (nx : NX p l e s m below meth c b D cG tG h mm o i 1812 cells slots) {F : Nat} {g : Nat → Nat} {Z Zm : hZ} {σ τ τ' : hSt} {A : HA} {f : Nat → Int64} {H : Heap} {locs : List Loc} {ls : Array Slot} {v : Int32} (e0 : g 0 = h) (e2 : g 200 = mm) (hF : f_X12_talk F Zm τ (xs (i + 1)) (xs (i + 2)) (xs (i + 3)) (xs (i + 4)) = some (v, τ')) (hJ : J A Z σ τ') (hXX : JX A (cG, g, tG) Z) (hP : va_P D vwCl (LW (cG, g, tG) Z (oL cG o f) σ τ) H) (hD : va_D (AA s) (LW (cG, g, tG) Z (oL cG o f) σ τ)) (hS : va_S (AA s) s.heap H locs) (hl : lv_has ls 7 [(4, .int (nI i)), (0, .ref b), (1, .ref h), (2, .ref mm), (3, .ref o)]) : W p l e room_1 s m #[Value.ref b] below meth c H locs cells slots (lw_Z below #[Value.ref b] s) (F0 m 650 ls [.int v]) := by
  obtain ⟨⟨hx, hb, hr, hml, hown, hts, hX, hbl, hlocks, hgv⟩, hl0, hL, hKE, hXE⟩ := id CX
  have hts : ∀ w ∈ hU, w.before #[Value.ref b] s = true := fun w hw => hts w (hU_tbl hw)
  have hown : s.vm.findClass RL = some m.cls := hown
  subst e0
  subst e2
  have hK := (hKE g).1
  have hE := (hKE g).2
  have hA : ∀ q : Nat, s.heap.size ≤ q → AA s q := fun _ h => h
  have hbA : ¬ AA s b := Nat.not_le.mpr hbl
  refine lv_aload_n hx hb dL_law_650 rfl (lv_at hl 3 rfl) ?_
  refine lw_ld (k := 1) (v := (1 : Int32)) hx hb hX hbl hbA hS hl (n0 := 1) (n4 := 0) rfl rfl rfl (by decide) (by omega) hL dL_law_651 dL_law_652 dL_law_654 dL_law_655 dL_law_656 ?_
  refine lw_ld (k := 2) (v := (2 : Int32)) hx hb hX hbl hbA hS hl (n0 := 1) (n4 := 0) rfl rfl rfl (by decide) (by omega) hL dL_law_657 dL_law_658 dL_law_660 dL_law_661 dL_law_662 ?_
  refine lw_ld (k := 3) (v := (3 : Int32)) hx hb hX hbl hbA hS hl (n0 := 1) (n4 := 0) rfl rfl rfl (by decide) (by omega) hL dL_law_663 dL_law_664 dL_law_666 dL_law_667 dL_law_668 ?_
  refine lw_ld (k := 4) (v := (4 : Int32)) hx hb hX hbl hbA hS hl (n0 := 1) (n4 := 0) rfl rfl rfl (by decide) (by omega) hL dL_law_669 dL_law_670 dL_law_672 dL_law_673 dL_law_674 ?_
  have hP := pperm (LW_m (cG, g, tG) Z (oL cG o f) σ τ) hP
  have hD := dperm (LW_m (cG, g, tG) Z (oL cG o f) σ τ) hD
  refine cl_V (G := (cG, g, tG)) (w := (mW (cG, g, tG) Zm (hW (cG, g, tG) Z (oL cG o f) σ) τ)) (w' := (mW (cG, g, tG) Zm (hW (cG, g, tG) Z (oL cG o f) σ) τ')) (rv := some (.int v)) (bytes := cX12_talk) (maxL := 6) (ret := (some .int)) (C := RX12) (As := [.int (xs (i + 1)), .int (xs (i + 2)), .int (xs (i + 3)), .int (xs (i + 4))]) (rest := [.int v]) (stk := [.int v, .int v]) ⟨hx, hb, hml, hown, hts⟩ hK hE hA hP hD hS (c_X12_talk l D (cG, g, tG) Zm _ τ F (xs (i + 1)) (xs (i + 2)) (xs (i + 3)) (xs (i + 4)) (v, τ') hF) (cwV 4 hts (gwV wd_1640 wd_1641 wd_1642 wd_11 wd_1643) rfl rfl rfl hd_X12_talk ⟨Nat.le_of_ble_eq_true rfl, Nat.le_of_ble_eq_true rfl⟩) (mg_200 (cG, g, tG) Zm _ τ) rfl rfl rfl hl.1 rfl (Nat.le_of_ble_eq_true rfl) dL_law_675 hcs rfl (fun H locs hP hD hS => ?_)
  have hP := pperm (LW_m (cG, g, tG) Z (oL cG o f) σ τ').symm hP
  have hD := dperm (LW_m (cG, g, tG) Z (oL cG o f) σ τ').symm hD
  refine lv_icmp_eq (tgt := 1812) hx hb dL_law_678 (by decide) (fun _ => ?_) (fun c1 => absurd rfl c1)
  exact nx g Z σ τ' A f H locs ls rfl rfl hJ hXX hP hD hS hl
set_option maxRecDepth 100000 in
set_option maxHeartbeats 4000000 in
/-- run, behind the class's call -/
theorem lw_m_15 {p : Program} {l : Launch} {e : Env} {s : State} {m : MethodId} {below : List Frame} {meth : Method} {c : Code} {b L : Nat} {xs : Nat → Int32} {D : va_G} {cG : Nat → ClassId} {tG : Nat → Nat} (CX : LCx p l s m meth c b L xs D cG tG) {h mm o i cells slots : Nat} (hi : i + 6 ≤ L) (hcs : cells ≤ room_1.cells ∧ slots ≤ room_1.slots) (nx : NX p l e s m below meth c b D cG tG h mm o i 1812 cells slots) {F : Nat} {g : Nat → Nat} {Z Zm : hZ} {σ τ τ' : hSt} {A : HA} {f : Nat → Int64} {H : Heap} {locs : List Loc} {ls : Array Slot} {v : Int32} (e0 : g 0 = h) (e2 : g 200 = mm) (hF : f_X12_run F Zm τ (xs (i + 1)) (lng (xs (i + 2)) (xs (i + 3))) (xs (i + 4)) = some (v, τ')) (hJ : J A Z σ τ') (hXX : JX A (cG, g, tG) Z) (hP : va_P D vwCl (LW (cG, g, tG) Z (oL cG o f) σ τ) H) (hD : va_D (AA s) (LW (cG, g, tG) Z (oL cG o f) σ τ)) (hS : va_S (AA s) s.heap H locs) (hl : lv_has ls 7 [(4, .int (nI i)), (0, .ref b), (1, .ref h), (2, .ref mm), (3, .ref o)]) : W p l e room_1 s m #[Value.ref b] below meth c H locs cells slots (lw_Z below #[Value.ref b] s) (F0 m 721 ls [.int v]) := by
  obtain ⟨⟨hx, hb, hr, hml, hown, hts, hX, hbl, hlocks, hgv⟩, hl0, hL, hKE, hXE⟩ := id CX
  have hts : ∀ w ∈ hU, w.before #[Value.ref b] s = true := fun w hw => hts w (hU_tbl hw)
  have hown : s.vm.findClass RL = some m.cls := hown
  subst e0
  subst e2
  have hK := (hKE g).1
  have hE := (hKE g).2
  have hA : ∀ q : Nat, s.heap.size ≤ q → AA s q := fun _ h => h
  have hbA : ¬ AA s b := Nat.not_le.mpr hbl
  refine lv_aload_n hx hb dL_law_721 rfl (lv_at hl 3 rfl) ?_
  refine lw_ld (k := 1) (v := (1 : Int32)) hx hb hX hbl hbA hS hl (n0 := 1) (n4 := 0) rfl rfl rfl (by decide) (by omega) hL dL_law_722 dL_law_723 dL_law_725 dL_law_726 dL_law_727 ?_
  refine lw_ld (k := 2) (v := (2 : Int32)) hx hb hX hbl hbA hS hl (n0 := 1) (n4 := 0) rfl rfl rfl (by decide) (by omega) hL dL_law_728 dL_law_729 dL_law_731 dL_law_732 dL_law_733 ?_
  refine lw_lg1 hx hb dL_law_734 dL_law_735 dL_law_737 ?_
  refine lw_ld (k := 3) (v := (3 : Int32)) hx hb hX hbl hbA hS hl (n0 := 1) (n4 := 0) rfl rfl rfl (by decide) (by omega) hL dL_law_738 dL_law_739 dL_law_741 dL_law_742 dL_law_743 ?_
  refine lw_lg2 hx hb hown (hts _ wd_1879) dL_law_744 dL_law_745 dL_law_748 dL_law_749 ?_
  refine lw_ld (k := 4) (v := (4 : Int32)) hx hb hX hbl hbA hS hl (n0 := 1) (n4 := 0) rfl rfl rfl (by decide) (by omega) hL dL_law_750 dL_law_751 dL_law_753 dL_law_754 dL_law_755 ?_
  have hP := pperm (LW_m (cG, g, tG) Z (oL cG o f) σ τ) hP
  have hD := dperm (LW_m (cG, g, tG) Z (oL cG o f) σ τ) hD
  refine cl_V (G := (cG, g, tG)) (w := (mW (cG, g, tG) Zm (hW (cG, g, tG) Z (oL cG o f) σ) τ)) (w' := (mW (cG, g, tG) Zm (hW (cG, g, tG) Z (oL cG o f) σ) τ')) (rv := some (.int v)) (bytes := cX12_run) (maxL := 5) (ret := (some .int)) (C := RX12) (As := [.int (xs (i + 1)), .long (lng (xs (i + 2)) (xs (i + 3))), .int (xs (i + 4))]) (rest := [.int v]) (stk := [.int v, .int v]) ⟨hx, hb, hml, hown, hts⟩ hK hE hA hP hD hS (c_X12_run l D (cG, g, tG) Zm _ τ F (xs (i + 1)) (lng (xs (i + 2)) (xs (i + 3))) (xs (i + 4)) (v, τ') hF) (cwV 3 hts (gwV wd_1644 wd_1645 wd_1646 wd_11 wd_1647) rfl rfl rfl hd_X12_run ⟨Nat.le_of_ble_eq_true rfl, Nat.le_of_ble_eq_true rfl⟩) (mg_200 (cG, g, tG) Zm _ τ) rfl rfl rfl hl.1 rfl (Nat.le_of_ble_eq_true rfl) dL_law_756 hcs rfl (fun H locs hP hD hS => ?_)
  have hP := pperm (LW_m (cG, g, tG) Z (oL cG o f) σ τ').symm hP
  have hD := dperm (LW_m (cG, g, tG) Z (oL cG o f) σ τ').symm hD
  refine lv_icmp_eq (tgt := 1812) hx hb dL_law_759 (by decide) (fun _ => ?_) (fun c1 => absurd rfl c1)
  exact nx g Z σ τ' A f H locs ls rfl rfl hJ hXX hP hD hS hl
set_option maxRecDepth 100000 in
set_option maxHeartbeats 4000000 in
/-- fixed, behind the class's call -/
theorem lw_m_16 {p : Program} {l : Launch} {e : Env} {s : State} {m : MethodId} {below : List Frame} {meth : Method} {c : Code} {b L : Nat} {xs : Nat → Int32} {D : va_G} {cG : Nat → ClassId} {tG : Nat → Nat} (CX : LCx p l s m meth c b L xs D cG tG) {h mm o i cells slots : Nat} (hi : i + 6 ≤ L) (hcs : cells ≤ room_1.cells ∧ slots ≤ room_1.slots) (nx : NX p l e s m below meth c b D cG tG h mm o i 1812 cells slots) {F : Nat} {g : Nat → Nat} {Z Zm : hZ} {σ τ τ' : hSt} {A : HA} {f : Nat → Int64} {H : Heap} {locs : List Loc} {ls : Array Slot} {v : Int32} (e0 : g 0 = h) (e2 : g 200 = mm) (hF : f_X12_fixed F Zm τ (xs (i + 1)) (xs (i + 2)) = some (v, τ')) (hJ : J A Z σ τ') (hXX : JX A (cG, g, tG) Z) (hP : va_P D vwCl (LW (cG, g, tG) Z (oL cG o f) σ τ) H) (hD : va_D (AA s) (LW (cG, g, tG) Z (oL cG o f) σ τ)) (hS : va_S (AA s) s.heap H locs) (hl : lv_has ls 7 [(4, .int (nI i)), (0, .ref b), (1, .ref h), (2, .ref mm), (3, .ref o)]) : W p l e room_1 s m #[Value.ref b] below meth c H locs cells slots (lw_Z below #[Value.ref b] s) (F0 m 780 ls [.int v]) := by
  obtain ⟨⟨hx, hb, hr, hml, hown, hts, hX, hbl, hlocks, hgv⟩, hl0, hL, hKE, hXE⟩ := id CX
  have hts : ∀ w ∈ hU, w.before #[Value.ref b] s = true := fun w hw => hts w (hU_tbl hw)
  have hown : s.vm.findClass RL = some m.cls := hown
  subst e0
  subst e2
  have hK := (hKE g).1
  have hE := (hKE g).2
  have hA : ∀ q : Nat, s.heap.size ≤ q → AA s q := fun _ h => h
  have hbA : ¬ AA s b := Nat.not_le.mpr hbl
  refine lv_aload_n hx hb dL_law_780 rfl (lv_at hl 3 rfl) ?_
  refine lw_ld (k := 1) (v := (1 : Int32)) hx hb hX hbl hbA hS hl (n0 := 1) (n4 := 0) rfl rfl rfl (by decide) (by omega) hL dL_law_781 dL_law_782 dL_law_784 dL_law_785 dL_law_786 ?_
  refine lw_ld (k := 2) (v := (2 : Int32)) hx hb hX hbl hbA hS hl (n0 := 1) (n4 := 0) rfl rfl rfl (by decide) (by omega) hL dL_law_787 dL_law_788 dL_law_790 dL_law_791 dL_law_792 ?_
  have hP := pperm (LW_m (cG, g, tG) Z (oL cG o f) σ τ) hP
  have hD := dperm (LW_m (cG, g, tG) Z (oL cG o f) σ τ) hD
  refine cl_V (G := (cG, g, tG)) (w := (mW (cG, g, tG) Zm (hW (cG, g, tG) Z (oL cG o f) σ) τ)) (w' := (mW (cG, g, tG) Zm (hW (cG, g, tG) Z (oL cG o f) σ) τ')) (rv := some (.int v)) (bytes := cX12_fixed) (maxL := 3) (ret := (some .int)) (C := RX12) (As := [.int (xs (i + 1)), .int (xs (i + 2))]) (rest := [.int v]) (stk := [.int v, .int v]) ⟨hx, hb, hml, hown, hts⟩ hK hE hA hP hD hS (c_X12_fixed l D (cG, g, tG) Zm _ τ F (xs (i + 1)) (xs (i + 2)) (v, τ') hF) (cwV 2 hts (gwV wd_1720 wd_1721 wd_1722 wd_11 wd_1723) rfl rfl rfl hd_X12_fixed ⟨Nat.le_of_ble_eq_true rfl, Nat.le_of_ble_eq_true rfl⟩) (mg_200 (cG, g, tG) Zm _ τ) rfl rfl rfl hl.1 rfl (Nat.le_of_ble_eq_true rfl) dL_law_793 hcs rfl (fun H locs hP hD hS => ?_)
  have hP := pperm (LW_m (cG, g, tG) Z (oL cG o f) σ τ').symm hP
  have hD := dperm (LW_m (cG, g, tG) Z (oL cG o f) σ τ').symm hD
  refine lv_icmp_eq (tgt := 1812) hx hb dL_law_796 (by decide) (fun _ => ?_) (fun c1 => absurd rfl c1)
  exact nx g Z σ τ' A f H locs ls rfl rfl hJ hXX hP hD hS hl
set_option maxRecDepth 100000 in
set_option maxHeartbeats 4000000 in
/-- latest, behind the class's call -/
theorem lw_m_17 {p : Program} {l : Launch} {e : Env} {s : State} {m : MethodId} {below : List Frame} {meth : Method} {c : Code} {b L : Nat} {xs : Nat → Int32} {D : va_G} {cG : Nat → ClassId} {tG : Nat → Nat} (CX : LCx p l s m meth c b L xs D cG tG) {h mm o i cells slots : Nat} (hi : i + 6 ≤ L) (hcs : cells ≤ room_1.cells ∧ slots ≤ room_1.slots) (nx : NX p l e s m below meth c b D cG tG h mm o i 1812 cells slots) {g : Nat → Nat} {Z Zm : hZ} {σ τ τ' : hSt} {A : HA} {f : Nat → Int64} {H : Heap} {locs : List Loc} {ls : Array Slot} {v : Int32} (e0 : g 0 = h) (e2 : g 200 = mm) (hF : f_X12_latest Zm τ (xs (i + 1)) = some (v, τ')) (hJ : J A Z σ τ') (hXX : JX A (cG, g, tG) Z) (hP : va_P D vwCl (LW (cG, g, tG) Z (oL cG o f) σ τ) H) (hD : va_D (AA s) (LW (cG, g, tG) Z (oL cG o f) σ τ)) (hS : va_S (AA s) s.heap H locs) (hl : lv_has ls 7 [(4, .int (nI i)), (0, .ref b), (1, .ref h), (2, .ref mm), (3, .ref o)]) : W p l e room_1 s m #[Value.ref b] below meth c H locs cells slots (lw_Z below #[Value.ref b] s) (F0 m 811 ls [.int v]) := by
  obtain ⟨⟨hx, hb, hr, hml, hown, hts, hX, hbl, hlocks, hgv⟩, hl0, hL, hKE, hXE⟩ := id CX
  have hts : ∀ w ∈ hU, w.before #[Value.ref b] s = true := fun w hw => hts w (hU_tbl hw)
  have hown : s.vm.findClass RL = some m.cls := hown
  subst e0
  subst e2
  have hK := (hKE g).1
  have hE := (hKE g).2
  have hA : ∀ q : Nat, s.heap.size ≤ q → AA s q := fun _ h => h
  have hbA : ¬ AA s b := Nat.not_le.mpr hbl
  refine lv_aload_n hx hb dL_law_811 rfl (lv_at hl 3 rfl) ?_
  refine lw_ld (k := 1) (v := (1 : Int32)) hx hb hX hbl hbA hS hl (n0 := 1) (n4 := 0) rfl rfl rfl (by decide) (by omega) hL dL_law_812 dL_law_813 dL_law_815 dL_law_816 dL_law_817 ?_
  have hP := pperm (LW_m (cG, g, tG) Z (oL cG o f) σ τ) hP
  have hD := dperm (LW_m (cG, g, tG) Z (oL cG o f) σ τ) hD
  refine cl_V (G := (cG, g, tG)) (w := (mW (cG, g, tG) Zm (hW (cG, g, tG) Z (oL cG o f) σ) τ)) (w' := (mW (cG, g, tG) Zm (hW (cG, g, tG) Z (oL cG o f) σ) τ')) (rv := some (.int v)) (bytes := cX12_latest) (maxL := 2) (ret := (some .int)) (C := RX12) (As := [.int (xs (i + 1))]) (rest := [.int v]) (stk := [.int v, .int v]) ⟨hx, hb, hml, hown, hts⟩ hK hE hA hP hD hS (c_X12_latest l D (cG, g, tG) Zm _ τ (xs (i + 1)) (v, τ') hF) (cwV 1 hts (gwV wd_1724 wd_1725 wd_1726 wd_11 wd_1727) rfl rfl rfl hd_X12_latest ⟨Nat.le_of_ble_eq_true rfl, Nat.le_of_ble_eq_true rfl⟩) (mg_200 (cG, g, tG) Zm _ τ) rfl rfl rfl hl.1 rfl (Nat.le_of_ble_eq_true rfl) dL_law_818 hcs rfl (fun H locs hP hD hS => ?_)
  have hP := pperm (LW_m (cG, g, tG) Z (oL cG o f) σ τ').symm hP
  have hD := dperm (LW_m (cG, g, tG) Z (oL cG o f) σ τ').symm hD
  refine lv_icmp_eq (tgt := 1812) hx hb dL_law_821 (by decide) (fun _ => ?_) (fun c1 => absurd rfl c1)
  exact nx g Z σ τ' A f H locs ls rfl rfl hJ hXX hP hD hS hl
set_option maxRecDepth 100000 in
set_option maxHeartbeats 4000000 in
/-- draw, behind the class's call -/
theorem lw_m_19 {p : Program} {l : Launch} {e : Env} {s : State} {m : MethodId} {below : List Frame} {meth : Method} {c : Code} {b L : Nat} {xs : Nat → Int32} {D : va_G} {cG : Nat → ClassId} {tG : Nat → Nat} (CX : LCx p l s m meth c b L xs D cG tG) {h mm o i cells slots : Nat} (hi : i + 6 ≤ L) (hcs : cells ≤ room_1.cells ∧ slots ≤ room_1.slots) (nx : NX p l e s m below meth c b D cG tG h mm o i 1812 cells slots) {g : Nat → Nat} {Z Zm : hZ} {σ τ τ' : hSt} {A : HA} {f : Nat → Int64} {H : Heap} {locs : List Loc} {ls : Array Slot} {v : Int32} (e0 : g 0 = h) (e2 : g 200 = mm) (hF : f_X12_draw Zm τ (xs (i + 1)) = some (v, τ')) (hJ : J A Z σ τ') (hXX : JX A (cG, g, tG) Z) (hP : va_P D vwCl (LW (cG, g, tG) Z (oL cG o f) σ τ) H) (hD : va_D (AA s) (LW (cG, g, tG) Z (oL cG o f) σ τ)) (hS : va_S (AA s) s.heap H locs) (hl : lv_has ls 7 [(4, .int (nI i)), (0, .ref b), (1, .ref h), (2, .ref mm), (3, .ref o)]) : W p l e room_1 s m #[Value.ref b] below meth c H locs cells slots (lw_Z below #[Value.ref b] s) (F0 m 904 ls [.int v]) := by
  obtain ⟨⟨hx, hb, hr, hml, hown, hts, hX, hbl, hlocks, hgv⟩, hl0, hL, hKE, hXE⟩ := id CX
  have hts : ∀ w ∈ hU, w.before #[Value.ref b] s = true := fun w hw => hts w (hU_tbl hw)
  have hown : s.vm.findClass RL = some m.cls := hown
  subst e0
  subst e2
  have hK := (hKE g).1
  have hE := (hKE g).2
  have hA : ∀ q : Nat, s.heap.size ≤ q → AA s q := fun _ h => h
  have hbA : ¬ AA s b := Nat.not_le.mpr hbl
  refine lv_aload_n hx hb dL_law_904 rfl (lv_at hl 3 rfl) ?_
  refine lw_ld (k := 1) (v := (1 : Int32)) hx hb hX hbl hbA hS hl (n0 := 1) (n4 := 0) rfl rfl rfl (by decide) (by omega) hL dL_law_905 dL_law_906 dL_law_908 dL_law_909 dL_law_910 ?_
  have hP := pperm (LW_m (cG, g, tG) Z (oL cG o f) σ τ) hP
  have hD := dperm (LW_m (cG, g, tG) Z (oL cG o f) σ τ) hD
  refine cl_V (G := (cG, g, tG)) (w := (mW (cG, g, tG) Zm (hW (cG, g, tG) Z (oL cG o f) σ) τ)) (w' := (mW (cG, g, tG) Zm (hW (cG, g, tG) Z (oL cG o f) σ) τ')) (rv := some (.int v)) (bytes := cX12_draw) (maxL := 2) (ret := (some .int)) (C := RX12) (As := [.int (xs (i + 1))]) (rest := [.int v]) (stk := [.int v, .int v]) ⟨hx, hb, hml, hown, hts⟩ hK hE hA hP hD hS (c_X12_draw l D (cG, g, tG) Zm _ τ (xs (i + 1)) (v, τ') hF) (cwV 1 hts (gwV wd_1732 wd_1733 wd_1734 wd_11 wd_1735) rfl rfl rfl hd_X12_draw ⟨Nat.le_of_ble_eq_true rfl, Nat.le_of_ble_eq_true rfl⟩) (mg_200 (cG, g, tG) Zm _ τ) rfl rfl rfl hl.1 rfl (Nat.le_of_ble_eq_true rfl) dL_law_911 hcs rfl (fun H locs hP hD hS => ?_)
  have hP := pperm (LW_m (cG, g, tG) Z (oL cG o f) σ τ').symm hP
  have hD := dperm (LW_m (cG, g, tG) Z (oL cG o f) σ τ').symm hD
  refine lv_icmp_eq (tgt := 1812) hx hb dL_law_914 (by decide) (fun _ => ?_) (fun c1 => absurd rfl c1)
  exact nx g Z σ τ' A f H locs ls rfl rfl hJ hXX hP hD hS hl
