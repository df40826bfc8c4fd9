/-! the law's cases, by program (genL.py) -/
set_option maxRecDepth 100000 in
set_option maxHeartbeats 4000000 in
/-- tries, behind the class's call -/
theorem lw_m_20 {p : Program} {l : Launch} {e : Env} {s : State} {m : MethodId} {below : List Frame} {meth : Method} {c : Code} {b L : Nat} {xs : Nat → Int32} {D : va_G} {cG : Nat → ClassId} {tG : Nat → Nat} (CX : LCx p l s m meth c b L xs D cG tG) {h mm o i cells slots : Nat} (hi : i + 6 ≤ L) (hcs : cells ≤ room_1.cells ∧ slots ≤ room_1.slots) (nx : NX p l e s m below meth c b D cG tG h mm o i 1812 cells slots) {F : Nat} {g : Nat → Nat} {Z Zm : hZ} {σ τ τ' : hSt} {A : HA} {f : Nat → Int64} {H : Heap} {locs : List Loc} {ls : Array Slot} {v : Int32} (e0 : g 0 = h) (e2 : g 200 = mm) (hF : f_X12_tries F Zm τ (xs (i + 1)) (xs (i + 2)) = some (v, τ')) (hJ : J A Z σ τ') (hXX : JX A (cG, g, tG) Z) (hP : va_P D vwCl (LW (cG, g, tG) Z (oL cG o f) σ τ) H) (hD : va_D (AA s) (LW (cG, g, tG) Z (oL cG o f) σ τ)) (hS : va_S (AA s) s.heap H locs) (hl : lv_has ls 7 [(4, .int (nI i)), (0, .ref b), (1, .ref h), (2, .ref mm), (3, .ref o)]) : W p l e room_1 s m #[Value.ref b] below meth c H locs cells slots (lw_Z below #[Value.ref b] s) (F0 m 935 ls [.int v]) := by
  obtain ⟨⟨hx, hb, hr, hml, hown, hts, hX, hbl, hlocks, hgv⟩, hl0, hL, hKE, hXE⟩ := id CX
  have hts : ∀ w ∈ hU, w.before #[Value.ref b] s = true := fun w hw => hts w (hU_tbl hw)
  have hown : s.vm.findClass RL = some m.cls := hown
  subst e0
  subst e2
  have hK := (hKE g).1
  have hE := (hKE g).2
  have hA : ∀ q : Nat, s.heap.size ≤ q → AA s q := fun _ h => h
  have hbA : ¬ AA s b := Nat.not_le.mpr hbl
  refine lv_aload_n hx hb dL_law_935 rfl (lv_at hl 3 rfl) ?_
  refine lw_ld (k := 1) (v := (1 : Int32)) hx hb hX hbl hbA hS hl (n0 := 1) (n4 := 0) rfl rfl rfl (by decide) (by omega) hL dL_law_936 dL_law_937 dL_law_939 dL_law_940 dL_law_941 ?_
  refine lw_ld (k := 2) (v := (2 : Int32)) hx hb hX hbl hbA hS hl (n0 := 1) (n4 := 0) rfl rfl rfl (by decide) (by omega) hL dL_law_942 dL_law_943 dL_law_945 dL_law_946 dL_law_947 ?_
  have hP := pperm (LW_m (cG, g, tG) Z (oL cG o f) σ τ) hP
  have hD := dperm (LW_m (cG, g, tG) Z (oL cG o f) σ τ) hD
  refine cl_V (G := (cG, g, tG)) (w := (mW (cG, g, tG) Zm (hW (cG, g, tG) Z (oL cG o f) σ) τ)) (w' := (mW (cG, g, tG) Zm (hW (cG, g, tG) Z (oL cG o f) σ) τ')) (rv := some (.int v)) (bytes := cX12_tries) (maxL := 4) (ret := (some .int)) (C := RX12) (As := [.int (xs (i + 1)), .int (xs (i + 2))]) (rest := [.int v]) (stk := [.int v, .int v]) ⟨hx, hb, hml, hown, hts⟩ hK hE hA hP hD hS (c_X12_tries l D (cG, g, tG) Zm _ τ F (xs (i + 1)) (xs (i + 2)) (v, τ') hF) (cwV 2 hts (gwV wd_1736 wd_1737 wd_1738 wd_11 wd_1739) rfl rfl rfl hd_X12_tries ⟨Nat.le_of_ble_eq_true rfl, Nat.le_of_ble_eq_true rfl⟩) (mg_200 (cG, g, tG) Zm _ τ) rfl rfl rfl hl.1 rfl (Nat.le_of_ble_eq_true rfl) dL_law_948 hcs rfl (fun H locs hP hD hS => ?_)
  have hP := pperm (LW_m (cG, g, tG) Z (oL cG o f) σ τ').symm hP
  have hD := dperm (LW_m (cG, g, tG) Z (oL cG o f) σ τ').symm hD
  refine lv_icmp_eq (tgt := 1812) hx hb dL_law_951 (by decide) (fun _ => ?_) (fun c1 => absurd rfl c1)
  exact nx g Z σ τ' A f H locs ls rfl rfl hJ hXX hP hD hS hl
set_option maxRecDepth 100000 in
set_option maxHeartbeats 4000000 in
/-- spent, behind the class's call -/
theorem lw_m_21 {p : Program} {l : Launch} {e : Env} {s : State} {m : MethodId} {below : List Frame} {meth : Method} {c : Code} {b L : Nat} {xs : Nat → Int32} {D : va_G} {cG : Nat → ClassId} {tG : Nat → Nat} (CX : LCx p l s m meth c b L xs D cG tG) {h mm o i cells slots : Nat} (hi : i + 6 ≤ L) (hcs : cells ≤ room_1.cells ∧ slots ≤ room_1.slots) (nx : NX p l e s m below meth c b D cG tG h mm o i 1812 cells slots) {F : Nat} {g : Nat → Nat} {Z Zm : hZ} {σ τ τ' : hSt} {A : HA} {f : Nat → Int64} {H : Heap} {locs : List Loc} {ls : Array Slot} {v : Int32} (e0 : g 0 = h) (e2 : g 200 = mm) (hF : f_X12_spent F Zm τ (xs (i + 1)) (xs (i + 2)) = some (v, τ')) (hJ : J A Z σ τ') (hXX : JX A (cG, g, tG) Z) (hP : va_P D vwCl (LW (cG, g, tG) Z (oL cG o f) σ τ) H) (hD : va_D (AA s) (LW (cG, g, tG) Z (oL cG o f) σ τ)) (hS : va_S (AA s) s.heap H locs) (hl : lv_has ls 7 [(4, .int (nI i)), (0, .ref b), (1, .ref h), (2, .ref mm), (3, .ref o)]) : W p l e room_1 s m #[Value.ref b] below meth c H locs cells slots (lw_Z below #[Value.ref b] s) (F0 m 972 ls [.int v]) := by
  obtain ⟨⟨hx, hb, hr, hml, hown, hts, hX, hbl, hlocks, hgv⟩, hl0, hL, hKE, hXE⟩ := id CX
  have hts : ∀ w ∈ hU, w.before #[Value.ref b] s = true := fun w hw => hts w (hU_tbl hw)
  have hown : s.vm.findClass RL = some m.cls := hown
  subst e0
  subst e2
  have hK := (hKE g).1
  have hE := (hKE g).2
  have hA : ∀ q : Nat, s.heap.size ≤ q → AA s q := fun _ h => h
  have hbA : ¬ AA s b := Nat.not_le.mpr hbl
  refine lv_aload_n hx hb dL_law_972 rfl (lv_at hl 3 rfl) ?_
  refine lw_ld (k := 1) (v := (1 : Int32)) hx hb hX hbl hbA hS hl (n0 := 1) (n4 := 0) rfl rfl rfl (by decide) (by omega) hL dL_law_973 dL_law_974 dL_law_976 dL_law_977 dL_law_978 ?_
  refine lw_ld (k := 2) (v := (2 : Int32)) hx hb hX hbl hbA hS hl (n0 := 1) (n4 := 0) rfl rfl rfl (by decide) (by omega) hL dL_law_979 dL_law_980 dL_law_982 dL_law_983 dL_law_984 ?_
  have hP := pperm (LW_m (cG, g, tG) Z (oL cG o f) σ τ) hP
  have hD := dperm (LW_m (cG, g, tG) Z (oL cG o f) σ τ) hD
  refine cl_V (G := (cG, g, tG)) (w := (mW (cG, g, tG) Zm (hW (cG, g, tG) Z (oL cG o f) σ) τ)) (w' := (mW (cG, g, tG) Zm (hW (cG, g, tG) Z (oL cG o f) σ) τ')) (rv := some (.int v)) (bytes := cX12_spent) (maxL := 7) (ret := (some .int)) (C := RX12) (As := [.int (xs (i + 1)), .int (xs (i + 2))]) (rest := [.int v]) (stk := [.int v, .int v]) ⟨hx, hb, hml, hown, hts⟩ hK hE hA hP hD hS (c_X12_spent l D (cG, g, tG) Zm _ τ F (xs (i + 1)) (xs (i + 2)) (v, τ') hF) (cwV 2 hts (gwV wd_1741 wd_1742 wd_1743 wd_11 wd_1744) rfl rfl rfl hd_X12_spent ⟨Nat.le_of_ble_eq_true rfl, Nat.le_of_ble_eq_true rfl⟩) (mg_200 (cG, g, tG) Zm _ τ) rfl rfl rfl hl.1 rfl (Nat.le_of_ble_eq_true rfl) dL_law_985 hcs rfl (fun H locs hP hD hS => ?_)
  have hP := pperm (LW_m (cG, g, tG) Z (oL cG o f) σ τ').symm hP
  have hD := dperm (LW_m (cG, g, tG) Z (oL cG o f) σ τ').symm hD
  refine lv_icmp_eq (tgt := 1812) hx hb dL_law_988 (by decide) (fun _ => ?_) (fun c1 => absurd rfl c1)
  exact nx g Z σ τ' A f H locs ls rfl rfl hJ hXX hP hD hS hl
set_option maxRecDepth 100000 in
set_option maxHeartbeats 4000000 in
/-- odds, behind the class's call -/
theorem lw_m_22 {p : Program} {l : Launch} {e : Env} {s : State} {m : MethodId} {below : List Frame} {meth : Method} {c : Code} {b L : Nat} {xs : Nat → Int32} {D : va_G} {cG : Nat → ClassId} {tG : Nat → Nat} (CX : LCx p l s m meth c b L xs D cG tG) {h mm o i cells slots : Nat} (hi : i + 6 ≤ L) (hcs : cells ≤ room_1.cells ∧ slots ≤ room_1.slots) (nx : NX p l e s m below meth c b D cG tG h mm o i 1812 cells slots) {F : Nat} {g : Nat → Nat} {Z Zm : hZ} {σ τ τ' : hSt} {A : HA} {f : Nat → Int64} {H : Heap} {locs : List Loc} {ls : Array Slot} {v : Int32} (e0 : g 0 = h) (e2 : g 200 = mm) (hF : f_X12_odds F Zm τ (xs (i + 1)) (xs (i + 2)) (xs (i + 3)) = some (v, τ')) (hJ : J A Z σ τ') (hXX : JX A (cG, g, tG) Z) (hP : va_P D vwCl (LW (cG, g, tG) Z (oL cG o f) σ τ) H) (hD : va_D (AA s) (LW (cG, g, tG) Z (oL cG o f) σ τ)) (hS : va_S (AA s) s.heap H locs) (hl : lv_has ls 7 [(4, .int (nI i)), (0, .ref b), (1, .ref h), (2, .ref mm), (3, .ref o)]) : W p l e room_1 s m #[Value.ref b] below meth c H locs cells slots (lw_Z below #[Value.ref b] s) (F0 m 1015 ls [.int v]) := by
  obtain ⟨⟨hx, hb, hr, hml, hown, hts, hX, hbl, hlocks, hgv⟩, hl0, hL, hKE, hXE⟩ := id CX
  have hts : ∀ w ∈ hU, w.before #[Value.ref b] s = true := fun w hw => hts w (hU_tbl hw)
  have hown : s.vm.findClass RL = some m.cls := hown
  subst e0
  subst e2
  have hK := (hKE g).1
  have hE := (hKE g).2
  have hA : ∀ q : Nat, s.heap.size ≤ q → AA s q := fun _ h => h
  have hbA : ¬ AA s b := Nat.not_le.mpr hbl
  refine lv_aload_n hx hb dL_law_1015 rfl (lv_at hl 3 rfl) ?_
  refine lw_ld (k := 1) (v := (1 : Int32)) hx hb hX hbl hbA hS hl (n0 := 1) (n4 := 0) rfl rfl rfl (by decide) (by omega) hL dL_law_1016 dL_law_1017 dL_law_1019 dL_law_1020 dL_law_1021 ?_
  refine lw_ld (k := 2) (v := (2 : Int32)) hx hb hX hbl hbA hS hl (n0 := 1) (n4 := 0) rfl rfl rfl (by decide) (by omega) hL dL_law_1022 dL_law_1023 dL_law_1025 dL_law_1026 dL_law_1027 ?_
  refine lw_ld (k := 3) (v := (3 : Int32)) hx hb hX hbl hbA hS hl (n0 := 1) (n4 := 0) rfl rfl rfl (by decide) (by omega) hL dL_law_1028 dL_law_1029 dL_law_1031 dL_law_1032 dL_law_1033 ?_
  have hP := pperm (LW_m (cG, g, tG) Z (oL cG o f) σ τ) hP
  have hD := dperm (LW_m (cG, g, tG) Z (oL cG o f) σ τ) hD
  refine cl_V (G := (cG, g, tG)) (w := (mW (cG, g, tG) Zm (hW (cG, g, tG) Z (oL cG o f) σ) τ)) (w' := (mW (cG, g, tG) Zm (hW (cG, g, tG) Z (oL cG o f) σ) τ')) (rv := some (.int v)) (bytes := cX12_odds) (maxL := 8) (ret := (some .int)) (C := RX12) (As := [.int (xs (i + 1)), .int (xs (i + 2)), .int (xs (i + 3))]) (rest := [.int v]) (stk := [.int v, .int v]) ⟨hx, hb, hml, hown, hts⟩ hK hE hA hP hD hS (c_X12_odds l D (cG, g, tG) Zm _ τ F (xs (i + 1)) (xs (i + 2)) (xs (i + 3)) (v, τ') hF) (cwV 3 hts (gwV wd_1745 wd_1746 wd_1747 wd_11 wd_1748) rfl rfl rfl hd_X12_odds ⟨Nat.le_of_ble_eq_true rfl, Nat.le_of_ble_eq_true rfl⟩) (mg_200 (cG, g, tG) Zm _ τ) rfl rfl rfl hl.1 rfl (Nat.le_of_ble_eq_true rfl) dL_law_1034 hcs rfl (fun H locs hP hD hS => ?_)
  have hP := pperm (LW_m (cG, g, tG) Z (oL cG o f) σ τ').symm hP
  have hD := dperm (LW_m (cG, g, tG) Z (oL cG o f) σ τ').symm hD
  refine lv_icmp_eq (tgt := 1812) hx hb dL_law_1037 (by decide) (fun _ => ?_) (fun c1 => absurd rfl c1)
  exact nx g Z σ τ' A f H locs ls rfl rfl hJ hXX hP hD hS hl
set_option maxRecDepth 100000 in
set_option maxHeartbeats 4000000 in
/-- best, behind the class's call -/
theorem lw_m_23 {p : Program} {l : Launch} {e : Env} {s : State} {m : MethodId} {below : List Frame} {meth : Method} {c : Code} {b L : Nat} {xs : Nat → Int32} {D : va_G} {cG : Nat → ClassId} {tG : Nat → Nat} (CX : LCx p l s m meth c b L xs D cG tG) {h mm o i cells slots : Nat} (hi : i + 6 ≤ L) (hcs : cells ≤ room_1.cells ∧ slots ≤ room_1.slots) (nx : NX p l e s m below meth c b D cG tG h mm o i 1812 cells slots) {F : Nat} {g : Nat → Nat} {Z Zm : hZ} {σ τ τ' : hSt} {A : HA} {f : Nat → Int64} {H : Heap} {locs : List Loc} {ls : Array Slot} {v : Int64} (e0 : g 0 = h) (e2 : g 200 = mm) (hF : f_X12_best F Zm τ (xs (i + 1)) (xs (i + 2)) = some (v, τ')) (hJ : J A Z σ τ') (hXX : JX A (cG, g, tG) Z) (hP : va_P D vwCl (LW (cG, g, tG) Z (oL cG o f) σ τ) H) (hD : va_D (AA s) (LW (cG, g, tG) Z (oL cG o f) σ τ)) (hS : va_S (AA s) s.heap H locs) (hl : lv_has ls 7 [(4, .int (nI i)), (0, .ref b), (1, .ref h), (2, .ref mm), (3, .ref o)]) : W p l e room_1 s m #[Value.ref b] below meth c H locs cells slots (lw_Z below #[Value.ref b] s) (F0 m 1058 ls [.long v]) := by
  obtain ⟨⟨hx, hb, hr, hml, hown, hts, hX, hbl, hlocks, hgv⟩, hl0, hL, hKE, hXE⟩ := id CX
  have hts : ∀ w ∈ hU, w.before #[Value.ref b] s = true := fun w hw => hts w (hU_tbl hw)
  have hown : s.vm.findClass RL = some m.cls := hown
  subst e0
  subst e2
  have hK := (hKE g).1
  have hE := (hKE g).2
  have hA : ∀ q : Nat, s.heap.size ≤ q → AA s q := fun _ h => h
  have hbA : ¬ AA s b := Nat.not_le.mpr hbl
  refine lv_aload_n hx hb dL_law_1058 rfl (lv_at hl 3 rfl) ?_
  refine lw_ld (k := 1) (v := (1 : Int32)) hx hb hX hbl hbA hS hl (n0 := 1) (n4 := 0) rfl rfl rfl (by decide) (by omega) hL dL_law_1059 dL_law_1060 dL_law_1062 dL_law_1063 dL_law_1064 ?_
  refine lw_ld (k := 2) (v := (2 : Int32)) hx hb hX hbl hbA hS hl (n0 := 1) (n4 := 0) rfl rfl rfl (by decide) (by omega) hL dL_law_1065 dL_law_1066 dL_law_1068 dL_law_1069 dL_law_1070 ?_
  have hP := pperm (LW_m (cG, g, tG) Z (oL cG o f) σ τ) hP
  have hD := dperm (LW_m (cG, g, tG) Z (oL cG o f) σ τ) hD
  refine cl_V (G := (cG, g, tG)) (w := (mW (cG, g, tG) Zm (hW (cG, g, tG) Z (oL cG o f) σ) τ)) (w' := (mW (cG, g, tG) Zm (hW (cG, g, tG) Z (oL cG o f) σ) τ')) (rv := some (.long v)) (bytes := cX12_best) (maxL := 3) (ret := (some .long)) (C := RX12) (As := [.int (xs (i + 1)), .int (xs (i + 2))]) (rest := [.long v]) (stk := [.long v, .long v]) ⟨hx, hb, hml, hown, hts⟩ hK hE hA hP hD hS (c_X12_best l D (cG, g, tG) Zm _ τ F (xs (i + 1)) (xs (i + 2)) (v, τ') hF) (cwV 2 hts (gwV wd_1754 wd_1755 wd_1756 wd_11 wd_1757) rfl rfl rfl hd_X12_best ⟨Nat.le_of_ble_eq_true rfl, Nat.le_of_ble_eq_true rfl⟩) (mg_200 (cG, g, tG) Zm _ τ) rfl rfl rfl hl.1 rfl (Nat.le_of_ble_eq_true rfl) dL_law_1071 hcs rfl (fun H locs hP hD hS => ?_)
  have hP := pperm (LW_m (cG, g, tG) Z (oL cG o f) σ τ').symm hP
  have hD := dperm (LW_m (cG, g, tG) Z (oL cG o f) σ τ').symm hD
  refine W.lcmp hx hb dL_law_1074 ?_
  refine lv_if_eq (tgt := 1812) hx hb dL_law_1075 (by decide) (fun _ => ?_) (fun c1 => absurd ((lg_cmp_eq v v).mpr rfl) c1)
  exact nx g Z σ τ' A f H locs ls rfl rfl hJ hXX hP hD hS hl
set_option maxRecDepth 100000 in
set_option maxHeartbeats 4000000 in
/-- bound, behind the class's call -/
theorem lw_m_24 {p : Program} {l : Launch} {e : Env} {s : State} {m : MethodId} {below : List Frame} {meth : Method} {c : Code} {b L : Nat} {xs : Nat → Int32} {D : va_G} {cG : Nat → ClassId} {tG : Nat → Nat} (CX : LCx p l s m meth c b L xs D cG tG) {h mm o i cells slots : Nat} (hi : i + 6 ≤ L) (hcs : cells ≤ room_1.cells ∧ slots ≤ room_1.slots) (nx : NX p l e s m below meth c b D cG tG h mm o i 1812 cells slots) {F : Nat} {g : Nat → Nat} {Z Zm : hZ} {σ τ τ' : hSt} {A : HA} {f : Nat → Int64} {H : Heap} {locs : List Loc} {ls : Array Slot} {v : Int64} (e0 : g 0 = h) (e2 : g 200 = mm) (hF : f_X12_bound F Zm τ (xs (i + 1)) (xs (i + 2)) = some (v, τ')) (hJ : J A Z σ τ') (hXX : JX A (cG, g, tG) Z) (hP : va_P D vwCl (LW (cG, g, tG) Z (oL cG o f) σ τ) H) (hD : va_D (AA s) (LW (cG, g, tG) Z (oL cG o f) σ τ)) (hS : va_S (AA s) s.heap H locs) (hl : lv_has ls 7 [(4, .int (nI i)), (0, .ref b), (1, .ref h), (2, .ref mm), (3, .ref o)]) : W p l e room_1 s m #[Value.ref b] below meth c H locs cells slots (lw_Z below #[Value.ref b] s) (F0 m 1096 ls [.long v]) := by
  obtain ⟨⟨hx, hb, hr, hml, hown, hts, hX, hbl, hlocks, hgv⟩, hl0, hL, hKE, hXE⟩ := id CX
  have hts : ∀ w ∈ hU, w.before #[Value.ref b] s = true := fun w hw => hts w (hU_tbl hw)
  have hown : s.vm.findClass RL = some m.cls := hown
  subst e0
  subst e2
  have hK := (hKE g).1
  have hE := (hKE g).2
  have hA : ∀ q : Nat, s.heap.size ≤ q → AA s q := fun _ h => h
  have hbA : ¬ AA s b := Nat.not_le.mpr hbl
  refine lv_aload_n hx hb dL_law_1096 rfl (lv_at hl 3 rfl) ?_
  refine lw_ld (k := 1) (v := (1 : Int32)) hx hb hX hbl hbA hS hl (n0 := 1) (n4 := 0) rfl rfl rfl (by decide) (by omega) hL dL_law_1097 dL_law_1098 dL_law_1100 dL_law_1101 dL_law_1102 ?_
  refine lw_ld (k := 2) (v := (2 : Int32)) hx hb hX hbl hbA hS hl (n0 := 1) (n4 := 0) rfl rfl rfl (by decide) (by omega) hL dL_law_1103 dL_law_1104 dL_law_1106 dL_law_1107 dL_law_1108 ?_
  have hP := pperm (LW_m (cG, g, tG) Z (oL cG o f) σ τ) hP
  have hD := dperm (LW_m (cG, g, tG) Z (oL cG o f) σ τ) hD
  refine cl_V (G := (cG, g, tG)) (w := (mW (cG, g, tG) Zm (hW (cG, g, tG) Z (oL cG o f) σ) τ)) (w' := (mW (cG, g, tG) Zm (hW (cG, g, tG) Z (oL cG o f) σ) τ')) (rv := some (.long v)) (bytes := cX12_bound) (maxL := 11) (ret := (some .long)) (C := RX12) (As := [.int (xs (i + 1)), .int (xs (i + 2))]) (rest := [.long v]) (stk := [.long v, .long v]) ⟨hx, hb, hml, hown, hts⟩ hK hE hA hP hD hS (c_X12_bound l D (cG, g, tG) Zm _ τ F (xs (i + 1)) (xs (i + 2)) (v, τ') hF) (cwV 2 hts (gwV wd_1778 wd_1779 wd_1780 wd_11 wd_1781) rfl rfl rfl hd_X12_bound ⟨Nat.le_of_ble_eq_true rfl, Nat.le_of_ble_eq_true rfl⟩) (mg_200 (cG, g, tG) Zm _ τ) rfl rfl rfl hl.1 rfl (Nat.le_of_ble_eq_true rfl) dL_law_1109 hcs rfl (fun H locs hP hD hS => ?_)
  have hP := pperm (LW_m (cG, g, tG) Z (oL cG o f) σ τ').symm hP
  have hD := dperm (LW_m (cG, g, tG) Z (oL cG o f) σ τ').symm hD
  refine W.lcmp hx hb dL_law_1112 ?_
  refine lv_if_eq (tgt := 1812) hx hb dL_law_1113 (by decide) (fun _ => ?_) (fun c1 => absurd ((lg_cmp_eq v v).mpr rfl) c1)
  exact nx g Z σ τ' A f H locs ls rfl rfl hJ hXX hP hD hS hl
set_option maxRecDepth 100000 in
set_option maxHeartbeats 4000000 in
/-- roots, behind the class's call -/
theorem lw_m_25 {p : Program} {l : Launch} {e : Env} {s : State} {m : MethodId} {below : List Frame} {meth : Method} {c : Code} {b L : Nat} {xs : Nat → Int32} {D : va_G} {cG : Nat → ClassId} {tG : Nat → Nat} (CX : LCx p l s m meth c b L xs D cG tG) {h mm o i cells slots : Nat} (hi : i + 6 ≤ L) (hcs : cells ≤ room_1.cells ∧ slots ≤ room_1.slots) (nx : NX p l e s m below meth c b D cG tG h mm o i 1812 cells slots) {F : Nat} {g : Nat → Nat} {Z Zm : hZ} {σ τ τ' : hSt} {A : HA} {f : Nat → Int64} {H : Heap} {locs : List Loc} {ls : Array Slot} {v : Int32} (e0 : g 0 = h) (e2 : g 200 = mm) (hF : f_X12_roots F Zm τ (xs (i + 1)) (xs (i + 2)) = some (v, τ')) (hJ : J A Z σ τ') (hXX : JX A (cG, g, tG) Z) (hP : va_P D vwCl (LW (cG, g, tG) Z (oL cG o f) σ τ) H) (hD : va_D (AA s) (LW (cG, g, tG) Z (oL cG o f) σ τ)) (hS : va_S (AA s) s.heap H locs) (hl : lv_has ls 7 [(4, .int (nI i)), (0, .ref b), (1, .ref h), (2, .ref mm), (3, .ref o)]) : W p l e room_1 s m #[Value.ref b] below meth c H locs cells slots (lw_Z below #[Value.ref b] s) (F0 m 1134 ls [.int v]) := by
  obtain ⟨⟨hx, hb, hr, hml, hown, hts, hX, hbl, hlocks, hgv⟩, hl0, hL, hKE, hXE⟩ := id CX
  have hts : ∀ w ∈ hU, w.before #[Value.ref b] s = true := fun w hw => hts w (hU_tbl hw)
  have hown : s.vm.findClass RL = some m.cls := hown
  subst e0
  subst e2
  have hK := (hKE g).1
  have hE := (hKE g).2
  have hA : ∀ q : Nat, s.heap.size ≤ q → AA s q := fun _ h => h
  have hbA : ¬ AA s b := Nat.not_le.mpr hbl
  refine lv_aload_n hx hb dL_law_1134 rfl (lv_at hl 3 rfl) ?_
  refine lw_ld (k := 1) (v := (1 : Int32)) hx hb hX hbl hbA hS hl (n0 := 1) (n4 := 0) rfl rfl rfl (by decide) (by omega) hL dL_law_1135 dL_law_1136 dL_law_1138 dL_law_1139 dL_law_1140 ?_
  refine lw_ld (k := 2) (v := (2 : Int32)) hx hb hX hbl hbA hS hl (n0 := 1) (n4 := 0) rfl rfl rfl (by decide) (by omega) hL dL_law_1141 dL_law_1142 dL_law_1144 dL_law_1145 dL_law_1146 ?_
  have hP := pperm (LW_m (cG, g, tG) Z (oL cG o f) σ τ) hP
  have hD := dperm (LW_m (cG, g, tG) Z (oL cG o f) σ τ) hD
  refine cl_V (G := (cG, g, tG)) (w := (mW (cG, g, tG) Zm (hW (cG, g, tG) Z (oL cG o f) σ) τ)) (w' := (mW (cG, g, tG) Zm (hW (cG, g, tG) Z (oL cG o f) σ) τ')) (rv := some (.int v)) (bytes := cX12_roots) (maxL := 3) (ret := (some .int)) (C := RX12) (As := [.int (xs (i + 1)), .int (xs (i + 2))]) (rest := [.int v]) (stk := [.int v, .int v]) ⟨hx, hb, hml, hown, hts⟩ hK hE hA hP hD hS (c_X12_roots l D (cG, g, tG) Zm _ τ F (xs (i + 1)) (xs (i + 2)) (v, τ') hF) (cwV 2 hts (gwV wd_1782 wd_1783 wd_1784 wd_11 wd_1785) rfl rfl rfl hd_X12_roots ⟨Nat.le_of_ble_eq_true rfl, Nat.le_of_ble_eq_true rfl⟩) (mg_200 (cG, g, tG) Zm _ τ) rfl rfl rfl hl.1 rfl (Nat.le_of_ble_eq_true rfl) dL_law_1147 hcs rfl (fun H locs hP hD hS => ?_)
  have hP := pperm (LW_m (cG, g, tG) Z (oL cG o f) σ τ').symm hP
  have hD := dperm (LW_m (cG, g, tG) Z (oL cG o f) σ τ').symm hD
  refine lv_icmp_eq (tgt := 1812) hx hb dL_law_1150 (by decide) (fun _ => ?_) (fun c1 => absurd rfl c1)
  exact nx g Z σ τ' A f H locs ls rfl rfl hJ hXX hP hD hS hl
set_option maxRecDepth 100000 in
set_option maxHeartbeats 4000000 in
/-- small, behind the class's call -/
theorem lw_m_26 {p : Program} {l : Launch} {e : Env} {s : State} {m : MethodId} {below : List Frame} {meth : Method} {c : Code} {b L : Nat} {xs : Nat → Int32} {D : va_G} {cG : Nat → ClassId} {tG : Nat → Nat} (CX : LCx p l s m meth c b L xs D cG tG) {h mm o i cells slots : Nat} (hi : i + 6 ≤ L) (hcs : cells ≤ room_1.cells ∧ slots ≤ room_1.slots) (nx : NX p l e s m below meth c b D cG tG h mm o i 1812 cells slots) {F : Nat} {g : Nat → Nat} {Z Zm : hZ} {σ τ τ' : hSt} {A : HA} {f : Nat → Int64} {H : Heap} {locs : List Loc} {ls : Array Slot} {v : Int32} (e0 : g 0 = h) (e2 : g 200 = mm) (hF : f_X12_small F Zm τ (xs (i + 1)) (xs (i + 2)) (xs (i + 3)) = some (v, τ')) (hJ : J A Z σ τ') (hXX : JX A (cG, g, tG) Z) (hP : va_P D vwCl (LW (cG, g, tG) Z (oL cG o f) σ τ) H) (hD : va_D (AA s) (LW (cG, g, tG) Z (oL cG o f) σ τ)) (hS : va_S (AA s) s.heap H locs) (hl : lv_has ls 7 [(4, .int (nI i)), (0, .ref b), (1, .ref h), (2, .ref mm), (3, .ref o)]) : W p l e room_1 s m #[Value.ref b] below meth c H locs cells slots (lw_Z below #[Value.ref b] s) (F0 m 1177 ls [.int v]) := by
  obtain ⟨⟨hx, hb, hr, hml, hown, hts, hX, hbl, hlocks, hgv⟩, hl0, hL, hKE, hXE⟩ := id CX
  have hts : ∀ w ∈ hU, w.before #[Value.ref b] s = true := fun w hw => hts w (hU_tbl hw)
  have hown : s.vm.findClass RL = some m.cls := hown
  subst e0
  subst e2
  have hK := (hKE g).1
  have hE := (hKE g).2
  have hA : ∀ q : Nat, s.heap.size ≤ q → AA s q := fun _ h => h
  have hbA : ¬ AA s b := Nat.not_le.mpr hbl
  refine lv_aload_n hx hb dL_law_1177 rfl (lv_at hl 3 rfl) ?_
  refine lw_ld (k := 1) (v := (1 : Int32)) hx hb hX hbl hbA hS hl (n0 := 1) (n4 := 0) rfl rfl rfl (by decide) (by omega) hL dL_law_1178 dL_law_1179 dL_law_1181 dL_law_1182 dL_law_1183 ?_
  refine lw_ld (k := 2) (v := (2 : Int32)) hx hb hX hbl hbA hS hl (n0 := 1) (n4 := 0) rfl rfl rfl (by decide) (by omega) hL dL_law_1184 dL_law_1185 dL_law_1187 dL_law_1188 dL_law_1189 ?_
  refine lw_ld (k := 3) (v := (3 : Int32)) hx hb hX hbl hbA hS hl (n0 := 1) (n4 := 0) rfl rfl rfl (by decide) (by omega) hL dL_law_1190 dL_law_1191 dL_law_1193 dL_law_1194 dL_law_1195 ?_
  have hP := pperm (LW_m (cG, g, tG) Z (oL cG o f) σ τ) hP
  have hD := dperm (LW_m (cG, g, tG) Z (oL cG o f) σ τ) hD
  refine cl_V (G := (cG, g, tG)) (w := (mW (cG, g, tG) Zm (hW (cG, g, tG) Z (oL cG o f) σ) τ)) (w' := (mW (cG, g, tG) Zm (hW (cG, g, tG) Z (oL cG o f) σ) τ')) (rv := some (.int v)) (bytes := cX12_small) (maxL := 8) (ret := (some .int)) (C := RX12) (As := [.int (xs (i + 1)), .int (xs (i + 2)), .int (xs (i + 3))]) (rest := [.int v]) (stk := [.int v, .int v]) ⟨hx, hb, hml, hown, hts⟩ hK hE hA hP hD hS (c_X12_small l D (cG, g, tG) Zm _ τ F (xs (i + 1)) (xs (i + 2)) (xs (i + 3)) (v, τ') hF) (cwV 3 hts (gwV wd_1786 wd_1787 wd_1788 wd_11 wd_1789) rfl rfl rfl hd_X12_small ⟨Nat.le_of_ble_eq_true rfl, Nat.le_of_ble_eq_true rfl⟩) (mg_200 (cG, g, tG) Zm _ τ) rfl rfl rfl hl.1 rfl (Nat.le_of_ble_eq_true rfl) dL_law_1196 hcs rfl (fun H locs hP hD hS => ?_)
  have hP := pperm (LW_m (cG, g, tG) Z (oL cG o f) σ τ').symm hP
  have hD := dperm (LW_m (cG, g, tG) Z (oL cG o f) σ τ').symm hD
  refine lv_icmp_eq (tgt := 1812) hx hb dL_law_1199 (by decide) (fun _ => ?_) (fun c1 => absurd rfl c1)
  exact nx g Z σ τ' A f H locs ls rfl rfl hJ hXX hP hD hS hl
set_option maxRecDepth 100000 in
set_option maxHeartbeats 4000000 in
/-- won, behind the class's call -/
theorem lw_m_27 {p : Program} {l : Launch} {e : Env} {s : State} {m : MethodId} {below : List Frame} {meth : Method} {c : Code} {b L : Nat} {xs : Nat → Int32} {D : va_G} {cG : Nat → ClassId} {tG : Nat → Nat} (CX : LCx p l s m meth c b L xs D cG tG) {h mm o i cells slots : Nat} (hi : i + 6 ≤ L) (hcs : cells ≤ room_1.cells ∧ slots ≤ room_1.slots) (nx : NX p l e s m below meth c b D cG tG h mm o i 1812 cells slots) {F : Nat} {g : Nat → Nat} {Z Zm : hZ} {σ τ τ' : hSt} {A : HA} {f : Nat → Int64} {H : Heap} {locs : List Loc} {ls : Array Slot} {v : Int32} (e0 : g 0 = h) (e2 : g 200 = mm) (hF : f_X12_won F Zm τ (xs (i + 1)) (xs (i + 2)) = some (v, τ')) (hJ : J A Z σ τ') (hXX : JX A (cG, g, tG) Z) (hP : va_P D vwCl (LW (cG, g, tG) Z (oL cG o f) σ τ) H) (hD : va_D (AA s) (LW (cG, g, tG) Z (oL cG o f) σ τ)) (hS : va_S (AA s) s.heap H locs) (hl : lv_has ls 7 [(4, .int (nI i)), (0, .ref b), (1, .ref h), (2, .ref mm), (3, .ref o)]) : W p l e room_1 s m #[Value.ref b] below meth c H locs cells slots (lw_Z below #[Value.ref b] s) (F0 m 1220 ls [.int v]) := by
  obtain ⟨⟨hx, hb, hr, hml, hown, hts, hX, hbl, hlocks, hgv⟩, hl0, hL, hKE, hXE⟩ := id CX
  have hts : ∀ w ∈ hU, w.before #[Value.ref b] s = true := fun w hw => hts w (hU_tbl hw)
  have hown : s.vm.findClass RL = some m.cls := hown
  subst e0
  subst e2
  have hK := (hKE g).1
  have hE := (hKE g).2
  have hA : ∀ q : Nat, s.heap.size ≤ q → AA s q := fun _ h => h
  have hbA : ¬ AA s b := Nat.not_le.mpr hbl
  refine lv_aload_n hx hb dL_law_1220 rfl (lv_at hl 3 rfl) ?_
  refine lw_ld (k := 1) (v := (1 : Int32)) hx hb hX hbl hbA hS hl (n0 := 1) (n4 := 0) rfl rfl rfl (by decide) (by omega) hL dL_law_1221 dL_law_1222 dL_law_1224 dL_law_1225 dL_law_1226 ?_
  refine lw_ld (k := 2) (v := (2 : Int32)) hx hb hX hbl hbA hS hl (n0 := 1) (n4 := 0) rfl rfl rfl (by decide) (by omega) hL dL_law_1227 dL_law_1228 dL_law_1230 dL_law_1231 dL_law_1232 ?_
  have hP := pperm (LW_m (cG, g, tG) Z (oL cG o f) σ τ) hP
  have hD := dperm (LW_m (cG, g, tG) Z (oL cG o f) σ τ) hD
  refine cl_V (G := (cG, g, tG)) (w := (mW (cG, g, tG) Zm (hW (cG, g, tG) Z (oL cG o f) σ) τ)) (w' := (mW (cG, g, tG) Zm (hW (cG, g, tG) Z (oL cG o f) σ) τ')) (rv := some (.int v)) (bytes := cX12_won) (maxL := 3) (ret := (some .int)) (C := RX12) (As := [.int (xs (i + 1)), .int (xs (i + 2))]) (rest := [.int v]) (stk := [.int v, .int v]) ⟨hx, hb, hml, hown, hts⟩ hK hE hA hP hD hS (c_X12_won l D (cG, g, tG) Zm _ τ F (xs (i + 1)) (xs (i + 2)) (v, τ') hF) (cwV 2 hts (gwV wd_1790 wd_1791 wd_1792 wd_11 wd_1793) rfl rfl rfl hd_X12_won ⟨Nat.le_of_ble_eq_true rfl, Nat.le_of_ble_eq_true rfl⟩) (mg_200 (cG, g, tG) Zm _ τ) rfl rfl rfl hl.1 rfl (Nat.le_of_ble_eq_true rfl) dL_law_1233 hcs rfl (fun H locs hP hD hS => ?_)
  have hP := pperm (LW_m (cG, g, tG) Z (oL cG o f) σ τ').symm hP
  have hD := dperm (LW_m (cG, g, tG) Z (oL cG o f) σ τ').symm hD
  refine lv_icmp_eq (tgt := 1812) hx hb dL_law_1236 (by decide) (fun _ => ?_) (fun c1 => absurd rfl c1)
  exact nx g Z σ τ' A f H locs ls rfl rfl hJ hXX hP hD hS hl
set_option maxRecDepth 100000 in
set_option maxHeartbeats 4000000 in
/-- game, behind the class's call -/
theorem lw_m_28 {p : Program} {l : Launch} {e : Env} {s : State} {m : MethodId} {below : List Frame} {meth : Method} {c : Code} {b L : Nat} {xs : Nat → Int32} {D : va_G} {cG : Nat → ClassId} {tG : Nat → Nat} (CX : LCx p l s m meth c b L xs D cG tG) {h mm o i cells slots : Nat} (hi : i + 6 ≤ L) (hcs : cells ≤ room_1.cells ∧ slots ≤ room_1.slots) (nx : NX p l e s m below meth c b D cG tG h mm o i 1812 cells slots) {F : Nat} {g : Nat → Nat} {Z Zm : hZ} {σ τ τ' : hSt} {A : HA} {f : Nat → Int64} {H : Heap} {locs : List Loc} {ls : Array Slot} {v : Int32} (e0 : g 0 = h) (e2 : g 200 = mm) (hF : f_X12_game F Zm τ (xs (i + 1)) (xs (i + 2)) (xs (i + 3)) = some (v, τ')) (hJ : J A Z σ τ') (hXX : JX A (cG, g, tG) Z) (hP : va_P D vwCl (LW (cG, g, tG) Z (oL cG o f) σ τ) H) (hD : va_D (AA s) (LW (cG, g, tG) Z (oL cG o f) σ τ)) (hS : va_S (AA s) s.heap H locs) (hl : lv_has ls 7 [(4, .int (nI i)), (0, .ref b), (1, .ref h), (2, .ref mm), (3, .ref o)]) : W p l e room_1 s m #[Value.ref b] below meth c H locs cells slots (lw_Z below #[Value.ref b] s) (F0 m 1263 ls [.int v]) := by
  obtain ⟨⟨hx, hb, hr, hml, hown, hts, hX, hbl, hlocks, hgv⟩, hl0, hL, hKE, hXE⟩ := id CX
  have hts : ∀ w ∈ hU, w.before #[Value.ref b] s = true := fun w hw => hts w (hU_tbl hw)
  have hown : s.vm.findClass RL = some m.cls := hown
  subst e0
  subst e2
  have hK := (hKE g).1
  have hE := (hKE g).2
  have hA : ∀ q : Nat, s.heap.size ≤ q → AA s q := fun _ h => h
  have hbA : ¬ AA s b := Nat.not_le.mpr hbl
  refine lv_aload_n hx hb dL_law_1263 rfl (lv_at hl 3 rfl) ?_
  refine lw_ld (k := 1) (v := (1 : Int32)) hx hb hX hbl hbA hS hl (n0 := 1) (n4 := 0) rfl rfl rfl (by decide) (by omega) hL dL_law_1264 dL_law_1265 dL_law_1267 dL_law_1268 dL_law_1269 ?_
  refine lw_ld (k := 2) (v := (2 : Int32)) hx hb hX hbl hbA hS hl (n0 := 1) (n4 := 0) rfl rfl rfl (by decide) (by omega) hL dL_law_1270 dL_law_1271 dL_law_1273 dL_law_1274 dL_law_1275 ?_
  refine lw_ld (k := 3) (v := (3 : Int32)) hx hb hX hbl hbA hS hl (n0 := 1) (n4 := 0) rfl rfl rfl (by decide) (by omega) hL dL_law_1276 dL_law_1277 dL_law_1279 dL_law_1280 dL_law_1281 ?_
  have hP := pperm (LW_m (cG, g, tG) Z (oL cG o f) σ τ) hP
  have hD := dperm (LW_m (cG, g, tG) Z (oL cG o f) σ τ) hD
  refine cl_V (G := (cG, g, tG)) (w := (mW (cG, g, tG) Zm (hW (cG, g, tG) Z (oL cG o f) σ) τ)) (w' := (mW (cG, g, tG) Zm (hW (cG, g, tG) Z (oL cG o f) σ) τ')) (rv := some (.int v)) (bytes := cX12_game) (maxL := 4) (ret := (some .int)) (C := RX12) (As := [.int (xs (i + 1)), .int (xs (i + 2)), .int (xs (i + 3))]) (rest := [.int v]) (stk := [.int v, .int v]) ⟨hx, hb, hml, hown, hts⟩ hK hE hA hP hD hS (c_X12_game l D (cG, g, tG) Zm _ τ F (xs (i + 1)) (xs (i + 2)) (xs (i + 3)) (v, τ') hF) (cwV 3 hts (gwV wd_1798 wd_1799 wd_1800 wd_11 wd_1801) rfl rfl rfl hd_X12_game ⟨Nat.le_of_ble_eq_true rfl, Nat.le_of_ble_eq_true rfl⟩) (mg_200 (cG, g, tG) Zm _ τ) rfl rfl rfl hl.1 rfl (Nat.le_of_ble_eq_true rfl) dL_law_1282 hcs rfl (fun H locs hP hD hS => ?_)
  have hP := pperm (LW_m (cG, g, tG) Z (oL cG o f) σ τ').symm hP
  have hD := dperm (LW_m (cG, g, tG) Z (oL cG o f) σ τ').symm hD
  refine lv_icmp_eq (tgt := 1812) hx hb dL_law_1285 (by decide) (fun _ => ?_) (fun c1 => absurd rfl c1)
  exact nx g Z σ τ' A f H locs ls rfl rfl hJ hXX hP hD hS hl
set_option maxRecDepth 100000 in
set_option maxHeartbeats 4000000 in
/-- steep, behind the class's call -/
theorem lw_m_29 {p : Program} {l : Launch} {e : Env} {s : State} {m : MethodId} {below : List Frame} {meth : Method} {c : Code} {b L : Nat} {xs : Nat → Int32} {D : va_G} {cG : Nat → ClassId} {tG : Nat → Nat} (CX : LCx p l s m meth c b L xs D cG tG) {h mm o i cells slots : Nat} (hi : i + 6 ≤ L) (hcs : cells ≤ room_1.cells ∧ slots ≤ room_1.slots) (nx : NX p l e s m below meth c b D cG tG h mm o i 1812 cells slots) {F : Nat} {g : Nat → Nat} {Z Zm : hZ} {σ τ τ' : hSt} {A : HA} {f : Nat → Int64} {H : Heap} {locs : List Loc} {ls : Array Slot} {v : Int32} (e0 : g 0 = h) (e2 : g 200 = mm) (hF : f_X12_steep F Zm τ (xs (i + 1)) (xs (i + 2)) (xs (i + 3)) (nz (xs (i + 4))) = some (v, τ')) (hJ : J A Z σ τ') (hXX : JX A (cG, g, tG) Z) (hP : va_P D vwCl (LW (cG, g, tG) Z (oL cG o f) σ τ) H) (hD : va_D (AA s) (LW (cG, g, tG) Z (oL cG o f) σ τ)) (hS : va_S (AA s) s.heap H locs) (hl : lv_has ls 7 [(4, .int (nI i)), (0, .ref b), (1, .ref h), (2, .ref mm), (3, .ref o)]) : W p l e room_1 s m #[Value.ref b] below meth c H locs cells slots (lw_Z below #[Value.ref b] s) (F0 m 1326 ls [.int v]) := by
  obtain ⟨⟨hx, hb, hr, hml, hown, hts, hX, hbl, hlocks, hgv⟩, hl0, hL, hKE, hXE⟩ := id CX
  have hts : ∀ w ∈ hU, w.before #[Value.ref b] s = true := fun w hw => hts w (hU_tbl hw)
  have hown : s.vm.findClass RL = some m.cls := hown
  subst e0
  subst e2
  have hK := (hKE g).1
  have hE := (hKE g).2
  have hA : ∀ q : Nat, s.heap.size ≤ q → AA s q := fun _ h => h
  have hbA : ¬ AA s b := Nat.not_le.mpr hbl
  refine lv_aload_n hx hb dL_law_1326 rfl (lv_at hl 3 rfl) ?_
  refine lw_ld (k := 1) (v := (1 : Int32)) hx hb hX hbl hbA hS hl (n0 := 1) (n4 := 0) rfl rfl rfl (by decide) (by omega) hL dL_law_1327 dL_law_1328 dL_law_1330 dL_law_1331 dL_law_1332 ?_
  refine lw_ld (k := 2) (v := (2 : Int32)) hx hb hX hbl hbA hS hl (n0 := 1) (n4 := 0) rfl rfl rfl (by decide) (by omega) hL dL_law_1333 dL_law_1334 dL_law_1336 dL_law_1337 dL_law_1338 ?_
  refine lw_ld (k := 3) (v := (3 : Int32)) hx hb hX hbl hbA hS hl (n0 := 1) (n4 := 0) rfl rfl rfl (by decide) (by omega) hL dL_law_1339 dL_law_1340 dL_law_1342 dL_law_1343 dL_law_1344 ?_
  refine lw_ld (k := 4) (v := (4 : Int32)) hx hb hX hbl hbA hS hl (n0 := 1) (n4 := 0) rfl rfl rfl (by decide) (by omega) hL dL_law_1345 dL_law_1346 dL_law_1348 dL_law_1349 dL_law_1350 ?_
  refine lw_nz hx hb dL_law_1351 dL_law_1354 dL_law_1355 dL_law_1358 ?_
  have hP := pperm (LW_m (cG, g, tG) Z (oL cG o f) σ τ) hP
  have hD := dperm (LW_m (cG, g, tG) Z (oL cG o f) σ τ) hD
  refine cl_V (G := (cG, g, tG)) (w := (mW (cG, g, tG) Zm (hW (cG, g, tG) Z (oL cG o f) σ) τ)) (w' := (mW (cG, g, tG) Zm (hW (cG, g, tG) Z (oL cG o f) σ) τ')) (rv := some (.int v)) (bytes := cX12_steep) (maxL := 7) (ret := (some .int)) (C := RX12) (As := [.int (xs (i + 1)), .int (xs (i + 2)), .int (xs (i + 3)), .int (nz (xs (i + 4)))]) (rest := [.int v]) (stk := [.int v, .int v]) ⟨hx, hb, hml, hown, hts⟩ hK hE hA hP hD hS (c_X12_steep l D (cG, g, tG) Zm _ τ F (xs (i + 1)) (xs (i + 2)) (xs (i + 3)) (nz (xs (i + 4))) (v, τ') hF) (cwV 4 hts (gwV wd_1806 wd_1807 wd_1808 wd_11 wd_1809) rfl rfl rfl hd_X12_steep ⟨Nat.le_of_ble_eq_true rfl, Nat.le_of_ble_eq_true rfl⟩) (mg_200 (cG, g, tG) Zm _ τ) rfl rfl rfl hl.1 rfl (Nat.le_of_ble_eq_true rfl) dL_law_1359 hcs rfl (fun H locs hP hD hS => ?_)
  have hP := pperm (LW_m (cG, g, tG) Z (oL cG o f) σ τ').symm hP
  have hD := dperm (LW_m (cG, g, tG) Z (oL cG o f) σ τ').symm hD
  refine lv_icmp_eq (tgt := 1812) hx hb dL_law_1362 (by decide) (fun _ => ?_) (fun c1 => absurd rfl c1)
  exact nx g Z σ τ' A f H locs ls rfl rfl hJ hXX hP hD hS hl
