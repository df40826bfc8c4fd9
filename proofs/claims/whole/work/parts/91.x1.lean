/-! the law's cases, by program (genL.py) -/
set_option maxRecDepth 100000 in
set_option maxHeartbeats 4000000 in
/-- prime -/
theorem lw_x_10 {p : Program} {l : Launch} {e : Env} {s : State} {m : MethodId} {below : List Frame} {meth : Method} {c : Code} {b L : Nat} {xs : Nat → Int32} {D : va_G} {cG : Nat → ClassId} {tG : Nat → Nat} (CX : LCx p l s m meth c b L xs D cG tG) {h mm o i cells slots : Nat} (hi : i + 6 ≤ L) (hcs : cells + 8 ≤ room_1.cells ∧ slots + 1000 ≤ room_1.slots) (nx : NX p l e s m below meth c b D cG tG h mm o i 1812 (cells + 8) (slots + 1000)) : NX p l e s m below meth c b D cG tG h mm o i 534 cells slots := by
  intro g Z σ τ A f H locs ls e0 e2 hJ hXX hP hD hS hl
  obtain ⟨F, hF⟩ : ∃ F : Nat, 50000 ≤ F := ⟨50000, Nat.le_refl _⟩
  obtain ⟨⟨hx, hb, hr, hml, hown, hts, hX, hbl, hlocks, hgv⟩, hl0, hL, hKE, hXE⟩ := id CX
  have hts : ∀ w ∈ hU, w.before #[Value.ref b] s = true := fun w hw => hts w (hU_tbl hw)
  have hown : s.vm.findClass RL = some m.cls := hown
  subst e0
  subst e2
  have hK := (hKE g).1
  have hE := (hKE g).2
  have hA : ∀ q : Nat, s.heap.size ≤ q → AA s q := fun _ h => h
  have hbA : ¬ AA s b := Nat.not_le.mpr hbl
  refine lv_aload_n hx hb dL_law_534 rfl (lv_at hl 2 rfl) ?_
  refine lw_ld (k := 1) (v := (1 : Int32)) hx hb hX hbl hbA hS hl (n0 := 1) (n4 := 0) rfl rfl rfl (by decide) (by omega) hL dL_law_535 dL_law_536 dL_law_538 dL_law_539 dL_law_540 ?_
  refine W.widen (k := cells + 8) (n := slots + 1000) (by omega) (by omega) ?_
  obtain ⟨v, τ', h1, h2, hJ'⟩ := q_prime hF hJ (xs (i + 1))
  refine cl_V (G := (cG, g, tG)) (w := (hW (cG, g, tG) Z (mfix (cG, g, tG) τ ++ oL cG o f) σ)) (w' := (hW (cG, g, tG) Z (mfix (cG, g, tG) τ ++ oL cG o f) σ)) (rv := some (.int v)) (bytes := cX11_prime) (maxL := 2) (ret := (some .boolean)) (C := RX11) (As := [.int (xs (i + 1))]) (rest := []) (stk := [.int v]) ⟨hx, hb, hml, hown, hts⟩ hK hE hA hP hD hS (c_X11_prime l D (cG, g, tG) _ F (xs (i + 1)) v h1) (cwV 1 hts (gwV wd_722 wd_723 wd_724 wd_1 wd_725) rfl rfl rfl hd_X11_prime ⟨Nat.le_of_ble_eq_true rfl, Nat.le_of_ble_eq_true rfl⟩) (hg_0 (cG, g, tG) Z _ σ) rfl rfl rfl hl.1 rfl (Nat.le_of_ble_eq_true rfl) dL_law_541 hcs rfl (fun H locs hP hD hS => ?_)
  exact lw_m_10 CX hi hcs nx rfl rfl h2 hJ' (hXX) hP hD hS hl
set_option maxRecDepth 100000 in
set_option maxHeartbeats 4000000 in
/-- curve -/
theorem lw_x_11 {p : Program} {l : Launch} {e : Env} {s : State} {m : MethodId} {below : List Frame} {meth : Method} {c : Code} {b L : Nat} {xs : Nat → Int32} {D : va_G} {cG : Nat → ClassId} {tG : Nat → Nat} (CX : LCx p l s m meth c b L xs D cG tG) {h mm o i cells slots : Nat} (hi : i + 6 ≤ L) (hcs : cells + 8 ≤ room_1.cells ∧ slots + 1000 ≤ room_1.slots) (nx : NX p l e s m below meth c b D cG tG h mm o i 1812 (cells + 8) (slots + 1000)) : NX p l e s m below meth c b D cG tG h mm o i 559 cells slots := by
  intro g Z σ τ A f H locs ls e0 e2 hJ hXX hP hD hS hl
  obtain ⟨F, hF⟩ : ∃ F : Nat, 50000 ≤ F := ⟨50000, Nat.le_refl _⟩
  obtain ⟨⟨hx, hb, hr, hml, hown, hts, hX, hbl, hlocks, hgv⟩, hl0, hL, hKE, hXE⟩ := id CX
  have hts : ∀ w ∈ hU, w.before #[Value.ref b] s = true := fun w hw => hts w (hU_tbl hw)
  have hown : s.vm.findClass RL = some m.cls := hown
  subst e0
  subst e2
  have hK := (hKE g).1
  have hE := (hKE g).2
  have hA : ∀ q : Nat, s.heap.size ≤ q → AA s q := fun _ h => h
  have hbA : ¬ AA s b := Nat.not_le.mpr hbl
  refine lv_aload_n hx hb dL_law_559 rfl (lv_at hl 2 rfl) ?_
  refine lw_ld (k := 1) (v := (1 : Int32)) hx hb hX hbl hbA hS hl (n0 := 1) (n4 := 0) rfl rfl rfl (by decide) (by omega) hL dL_law_560 dL_law_561 dL_law_563 dL_law_564 dL_law_565 ?_
  refine lw_ld (k := 2) (v := (2 : Int32)) hx hb hX hbl hbA hS hl (n0 := 1) (n4 := 0) rfl rfl rfl (by decide) (by omega) hL dL_law_566 dL_law_567 dL_law_569 dL_law_570 dL_law_571 ?_
  refine W.widen (k := cells + 8) (n := slots + 1000) (by omega) (by omega) ?_
  obtain ⟨v, σ', τ', h1, h2, hJ'⟩ := q_curve hF hJ (xs (i + 1)) (xs (i + 2))
  refine cl_V (G := (cG, g, tG)) (w := (hW (cG, g, tG) Z (mfix (cG, g, tG) τ ++ oL cG o f) σ)) (w' := (hW (cG, g, tG) Z (mfix (cG, g, tG) τ ++ oL cG o f) σ')) (rv := some (.int v)) (bytes := cX11_curve) (maxL := 3) (ret := (some .int)) (C := RX11) (As := [.int (xs (i + 1)), .int (xs (i + 2))]) (rest := []) (stk := [.int v]) ⟨hx, hb, hml, hown, hts⟩ hK hE hA hP hD hS (c_X11_curve l D (cG, g, tG) Z _ σ F (xs (i + 1)) (xs (i + 2)) (v, σ') h1) (cwV 2 hts (gwV wd_726 wd_727 wd_728 wd_1 wd_729) rfl rfl rfl hd_X11_curve ⟨Nat.le_of_ble_eq_true rfl, Nat.le_of_ble_eq_true rfl⟩) (hg_0 (cG, g, tG) Z _ σ) rfl rfl rfl hl.1 rfl (Nat.le_of_ble_eq_true rfl) dL_law_572 hcs rfl (fun H locs hP hD hS => ?_)
  exact lw_m_11 CX hi hcs nx rfl rfl h2 hJ' (hXX) hP hD hS hl
set_option maxRecDepth 100000 in
set_option maxHeartbeats 4000000 in
/-- run -/
theorem lw_x_15 {p : Program} {l : Launch} {e : Env} {s : State} {m : MethodId} {below : List Frame} {meth : Method} {c : Code} {b L : Nat} {xs : Nat → Int32} {D : va_G} {cG : Nat → ClassId} {tG : Nat → Nat} (CX : LCx p l s m meth c b L xs D cG tG) {h mm o i cells slots : Nat} (hi : i + 6 ≤ L) (hcs : cells + 8 ≤ room_1.cells ∧ slots + 1000 ≤ room_1.slots) (nx : NX p l e s m below meth c b D cG tG h mm o i 1812 (cells + 8) (slots + 1000)) : NX p l e s m below meth c b D cG tG h mm o i 683 cells slots := by
  intro g Z σ τ A f H locs ls e0 e2 hJ hXX hP hD hS hl
  obtain ⟨F, hF⟩ : ∃ F : Nat, 50000 ≤ F := ⟨50000, Nat.le_refl _⟩
  obtain ⟨⟨hx, hb, hr, hml, hown, hts, hX, hbl, hlocks, hgv⟩, hl0, hL, hKE, hXE⟩ := id CX
  have hts : ∀ w ∈ hU, w.before #[Value.ref b] s = true := fun w hw => hts w (hU_tbl hw)
  have hown : s.vm.findClass RL = some m.cls := hown
  subst e0
  subst e2
  have hK := (hKE g).1
  have hE := (hKE g).2
  have hA : ∀ q : Nat, s.heap.size ≤ q → AA s q := fun _ h => h
  have hbA : ¬ AA s b := Nat.not_le.mpr hbl
  refine lv_aload_n hx hb dL_law_683 rfl (lv_at hl 2 rfl) ?_
  refine lw_ld (k := 1) (v := (1 : Int32)) hx hb hX hbl hbA hS hl (n0 := 1) (n4 := 0) rfl rfl rfl (by decide) (by omega) hL dL_law_684 dL_law_685 dL_law_687 dL_law_688 dL_law_689 ?_
  refine lw_ld (k := 2) (v := (2 : Int32)) hx hb hX hbl hbA hS hl (n0 := 1) (n4 := 0) rfl rfl rfl (by decide) (by omega) hL dL_law_690 dL_law_691 dL_law_693 dL_law_694 dL_law_695 ?_
  refine lw_lg1 hx hb dL_law_696 dL_law_697 dL_law_699 ?_
  refine lw_ld (k := 3) (v := (3 : Int32)) hx hb hX hbl hbA hS hl (n0 := 1) (n4 := 0) rfl rfl rfl (by decide) (by omega) hL dL_law_700 dL_law_701 dL_law_703 dL_law_704 dL_law_705 ?_
  refine lw_lg2 hx hb hown (hts _ wd_1879) dL_law_706 dL_law_707 dL_law_710 dL_law_711 ?_
  refine lw_ld (k := 4) (v := (4 : Int32)) hx hb hX hbl hbA hS hl (n0 := 1) (n4 := 0) rfl rfl rfl (by decide) (by omega) hL dL_law_712 dL_law_713 dL_law_715 dL_law_716 dL_law_717 ?_
  refine W.widen (k := cells + 8) (n := slots + 1000) (by omega) (by omega) ?_
  obtain ⟨v, A', σ', τ', h1, h2, hJ'⟩ := q_run hF hJ (xs (i + 1)) (lng (xs (i + 2)) (xs (i + 3))) (xs (i + 4))
  refine cl_V (G := (cG, g, tG)) (w := (hW (cG, g, tG) Z (mfix (cG, g, tG) τ ++ oL cG o f) σ)) (w' := (hW (cG, g, tG) Z (mfix (cG, g, tG) τ ++ oL cG o f) σ')) (rv := some (.int v)) (bytes := cX11_run) (maxL := 6) (ret := (some .int)) (C := RX11) (As := [.int (xs (i + 1)), .long (lng (xs (i + 2)) (xs (i + 3))), .int (xs (i + 4))]) (rest := []) (stk := [.int v]) ⟨hx, hb, hml, hown, hts⟩ hK hE hA hP hD hS (c_X11_run l D (cG, g, tG) Z _ σ F (xs (i + 1)) (lng (xs (i + 2)) (xs (i + 3))) (xs (i + 4)) (v, σ') h1) (cwV 3 hts (gwV wd_799 wd_800 wd_801 wd_1 wd_802) rfl rfl rfl hd_X11_run ⟨Nat.le_of_ble_eq_true rfl, Nat.le_of_ble_eq_true rfl⟩) (hg_0 (cG, g, tG) Z _ σ) rfl rfl rfl hl.1 rfl (Nat.le_of_ble_eq_true rfl) dL_law_718 hcs rfl (fun H locs hP hD hS => ?_)
  exact lw_m_15 CX hi hcs nx rfl rfl h2 hJ' (JX_j hJ hJ' hXX) hP hD hS hl
set_option maxRecDepth 100000 in
set_option maxHeartbeats 4000000 in
/-- fixed -/
theorem lw_x_16 {p : Program} {l : Launch} {e : Env} {s : State} {m : MethodId} {below : List Frame} {meth : Method} {c : Code} {b L : Nat} {xs : Nat → Int32} {D : va_G} {cG : Nat → ClassId} {tG : Nat → Nat} (CX : LCx p l s m meth c b L xs D cG tG) {h mm o i cells slots : Nat} (hi : i + 6 ≤ L) (hcs : cells + 8 ≤ room_1.cells ∧ slots + 1000 ≤ room_1.slots) (nx : NX p l e s m below meth c b D cG tG h mm o i 1812 (cells + 8) (slots + 1000)) : NX p l e s m below meth c b D cG tG h mm o i 764 cells slots := by
  intro g Z σ τ A f H locs ls e0 e2 hJ hXX hP hD hS hl
  obtain ⟨F, hF⟩ : ∃ F : Nat, 50000 ≤ F := ⟨50000, Nat.le_refl _⟩
  obtain ⟨⟨hx, hb, hr, hml, hown, hts, hX, hbl, hlocks, hgv⟩, hl0, hL, hKE, hXE⟩ := id CX
  have hts : ∀ w ∈ hU, w.before #[Value.ref b] s = true := fun w hw => hts w (hU_tbl hw)
  have hown : s.vm.findClass RL = some m.cls := hown
  subst e0
  subst e2
  have hK := (hKE g).1
  have hE := (hKE g).2
  have hA : ∀ q : Nat, s.heap.size ≤ q → AA s q := fun _ h => h
  have hbA : ¬ AA s b := Nat.not_le.mpr hbl
  refine lv_aload_n hx hb dL_law_764 rfl (lv_at hl 2 rfl) ?_
  refine lw_ld (k := 1) (v := (1 : Int32)) hx hb hX hbl hbA hS hl (n0 := 1) (n4 := 0) rfl rfl rfl (by decide) (by omega) hL dL_law_765 dL_law_766 dL_law_768 dL_law_769 dL_law_770 ?_
  refine lw_ld (k := 2) (v := (2 : Int32)) hx hb hX hbl hbA hS hl (n0 := 1) (n4 := 0) rfl rfl rfl (by decide) (by omega) hL dL_law_771 dL_law_772 dL_law_774 dL_law_775 dL_law_776 ?_
  refine W.widen (k := cells + 8) (n := slots + 1000) (by omega) (by omega) ?_
  obtain ⟨v, A', σ', τ', h1, h2, hJ'⟩ := q_fixed hF hJ (xs (i + 1)) (xs (i + 2))
  refine cl_V (G := (cG, g, tG)) (w := (hW (cG, g, tG) Z (mfix (cG, g, tG) τ ++ oL cG o f) σ)) (w' := (hW (cG, g, tG) Z (mfix (cG, g, tG) τ ++ oL cG o f) σ')) (rv := some (.int v)) (bytes := cX11_fixed) (maxL := 4) (ret := (some .int)) (C := RX11) (As := [.int (xs (i + 1)), .int (xs (i + 2))]) (rest := []) (stk := [.int v]) ⟨hx, hb, hml, hown, hts⟩ hK hE hA hP hD hS (c_X11_fixed l D (cG, g, tG) Z _ σ F (xs (i + 1)) (xs (i + 2)) (v, σ') h1) (cwV 2 hts (gwV wd_931 wd_932 wd_933 wd_1 wd_934) rfl rfl rfl hd_X11_fixed ⟨Nat.le_of_ble_eq_true rfl, Nat.le_of_ble_eq_true rfl⟩) (hg_0 (cG, g, tG) Z _ σ) rfl rfl rfl hl.1 rfl (Nat.le_of_ble_eq_true rfl) dL_law_777 hcs rfl (fun H locs hP hD hS => ?_)
  exact lw_m_16 CX hi hcs nx rfl rfl h2 hJ' (JX_j hJ hJ' hXX) hP hD hS hl
set_option maxRecDepth 100000 in
set_option maxHeartbeats 4000000 in
/-- latest -/
theorem lw_x_17 {p : Program} {l : Launch} {e : Env} {s : State} {m : MethodId} {below : List Frame} {meth : Method} {c : Code} {b L : Nat} {xs : Nat → Int32} {D : va_G} {cG : Nat → ClassId} {tG : Nat → Nat} (CX : LCx p l s m meth c b L xs D cG tG) {h mm o i cells slots : Nat} (hi : i + 6 ≤ L) (hcs : cells + 8 ≤ room_1.cells ∧ slots + 1000 ≤ room_1.slots) (nx : NX p l e s m below meth c b D cG tG h mm o i 1812 (cells + 8) (slots + 1000)) : NX p l e s m below meth c b D cG tG h mm o i 801 cells slots := by
  intro g Z σ τ A f H locs ls e0 e2 hJ hXX hP hD hS hl
  obtain ⟨F, hF⟩ : ∃ F : Nat, 50000 ≤ F := ⟨50000, Nat.le_refl _⟩
  obtain ⟨⟨hx, hb, hr, hml, hown, hts, hX, hbl, hlocks, hgv⟩, hl0, hL, hKE, hXE⟩ := id CX
  have hts : ∀ w ∈ hU, w.before #[Value.ref b] s = true := fun w hw => hts w (hU_tbl hw)
  have hown : s.vm.findClass RL = some m.cls := hown
  subst e0
  subst e2
  have hK := (hKE g).1
  have hE := (hKE g).2
  have hA : ∀ q : Nat, s.heap.size ≤ q → AA s q := fun _ h => h
  have hbA : ¬ AA s b := Nat.not_le.mpr hbl
  refine lv_aload_n hx hb dL_law_801 rfl (lv_at hl 2 rfl) ?_
  refine lw_ld (k := 1) (v := (1 : Int32)) hx hb hX hbl hbA hS hl (n0 := 1) (n4 := 0) rfl rfl rfl (by decide) (by omega) hL dL_law_802 dL_law_803 dL_law_805 dL_law_806 dL_law_807 ?_
  refine W.widen (k := cells + 8) (n := slots + 1000) (by omega) (by omega) ?_
  obtain ⟨v, τ', h1, h2, hJ'⟩ := q_latest hJ (xs (i + 1))
  refine cl_V (G := (cG, g, tG)) (w := (hW (cG, g, tG) Z (mfix (cG, g, tG) τ ++ oL cG o f) σ)) (w' := (hW (cG, g, tG) Z (mfix (cG, g, tG) τ ++ oL cG o f) σ)) (rv := some (.int v)) (bytes := cX11_latest) (maxL := 2) (ret := (some .int)) (C := RX11) (As := [.int (xs (i + 1))]) (rest := []) (stk := [.int v]) ⟨hx, hb, hml, hown, hts⟩ hK hE hA hP hD hS (c_X11_latest l D (cG, g, tG) Z _ σ (xs (i + 1)) v h1) (cwV 1 hts (gwV wd_939 wd_940 wd_941 wd_1 wd_942) rfl rfl rfl hd_X11_latest ⟨Nat.le_of_ble_eq_true rfl, Nat.le_of_ble_eq_true rfl⟩) (hg_0 (cG, g, tG) Z _ σ) rfl rfl rfl hl.1 rfl (Nat.le_of_ble_eq_true rfl) dL_law_808 hcs rfl (fun H locs hP hD hS => ?_)
  exact lw_m_17 CX hi hcs nx rfl rfl h2 hJ' (hXX) hP hD hS hl
set_option maxRecDepth 100000 in
set_option maxHeartbeats 4000000 in
/-- draw -/
theorem lw_x_19 {p : Program} {l : Launch} {e : Env} {s : State} {m : MethodId} {below : List Frame} {meth : Method} {c : Code} {b L : Nat} {xs : Nat → Int32} {D : va_G} {cG : Nat → ClassId} {tG : Nat → Nat} (CX : LCx p l s m meth c b L xs D cG tG) {h mm o i cells slots : Nat} (hi : i + 6 ≤ L) (hcs : cells + 8 ≤ room_1.cells ∧ slots + 1000 ≤ room_1.slots) (nx : NX p l e s m below meth c b D cG tG h mm o i 1812 (cells + 8) (slots + 1000)) : NX p l e s m below meth c b D cG tG h mm o i 894 cells slots := by
  intro g Z σ τ A f H locs ls e0 e2 hJ hXX hP hD hS hl
  obtain ⟨F, hF⟩ : ∃ F : Nat, 50000 ≤ F := ⟨50000, Nat.le_refl _⟩
  obtain ⟨⟨hx, hb, hr, hml, hown, hts, hX, hbl, hlocks, hgv⟩, hl0, hL, hKE, hXE⟩ := id CX
  have hts : ∀ w ∈ hU, w.before #[Value.ref b] s = true := fun w hw => hts w (hU_tbl hw)
  have hown : s.vm.findClass RL = some m.cls := hown
  subst e0
  subst e2
  have hK := (hKE g).1
  have hE := (hKE g).2
  have hA : ∀ q : Nat, s.heap.size ≤ q → AA s q := fun _ h => h
  have hbA : ¬ AA s b := Nat.not_le.mpr hbl
  refine lv_aload_n hx hb dL_law_894 rfl (lv_at hl 2 rfl) ?_
  refine lw_ld (k := 1) (v := (1 : Int32)) hx hb hX hbl hbA hS hl (n0 := 1) (n4 := 0) rfl rfl rfl (by decide) (by omega) hL dL_law_895 dL_law_896 dL_law_898 dL_law_899 dL_law_900 ?_
  refine W.widen (k := cells + 8) (n := slots + 1000) (by omega) (by omega) ?_
  obtain ⟨v, τ', h1, h2, hJ'⟩ := q_draw hJ (xs (i + 1))
  refine cl_V (G := (cG, g, tG)) (w := (hW (cG, g, tG) Z (mfix (cG, g, tG) τ ++ oL cG o f) σ)) (w' := (hW (cG, g, tG) Z (mfix (cG, g, tG) τ ++ oL cG o f) σ)) (rv := some (.int v)) (bytes := cX11_draw) (maxL := 2) (ret := (some .int)) (C := RX11) (As := [.int (xs (i + 1))]) (rest := []) (stk := [.int v]) ⟨hx, hb, hml, hown, hts⟩ hK hE hA hP hD hS (c_X11_draw l D (cG, g, tG) Z _ σ (xs (i + 1)) v h1) (cwV 1 hts (gwV wd_943 wd_944 wd_945 wd_1 wd_946) rfl rfl rfl hd_X11_draw ⟨Nat.le_of_ble_eq_true rfl, Nat.le_of_ble_eq_true rfl⟩) (hg_0 (cG, g, tG) Z _ σ) rfl rfl rfl hl.1 rfl (Nat.le_of_ble_eq_true rfl) dL_law_901 hcs rfl (fun H locs hP hD hS => ?_)
  exact lw_m_19 CX hi hcs nx rfl rfl h2 hJ' (hXX) hP hD hS hl
