/-! the law's cases, by program (genL.py) -/
set_option maxRecDepth 100000 in
set_option maxHeartbeats 4000000 in
/-- tries -/
theorem lw_x_20 {p : Program} {l : Launch} {e : Env} {s : State} {m : MethodId} {below : List Frame} {meth : Method} {c : Code} {b L : Nat} {xs : Nat → Int32} {D : va_G} {cG : Nat → ClassId} {tG : Nat → Nat} (CX : LCx p l s m meth c b L xs D cG tG) {h mm o i cells slots : Nat} (hi : i + 6 ≤ L) (hcs : cells + 8 ≤ room_1.cells ∧ slots + 1000 ≤ room_1.slots) (nx : NX p l e s m below meth c b D cG tG h mm o i 1812 (cells + 8) (slots + 1000)) : NX p l e s m below meth c b D cG tG h mm o i 919 cells slots := by
  intro g Z σ τ A f H locs ls e0 e2 hJ hXX hP hD hS hl
  obtain ⟨F, hF⟩ : ∃ F : Nat, 50000 ≤ F := ⟨50000, Nat.le_refl _⟩
  obtain ⟨⟨hx, hb, hr, hml, hown, hts, hX, hbl, hlocks, hgv⟩, hl0, hL, hKE, hXE⟩ := id CX
  have hts : ∀ w ∈ hU, w.before #[Value.ref b] s = true := fun w hw => hts w (hU_tbl hw)
  have hown : s.vm.findClass RL = some m.cls := hown
  subst e0
  subst e2
  have hK := (hKE g).1
  have hE := (hKE g).2
  have hA : ∀ q : Nat, s.heap.size ≤ q → AA s q := fun _ h => h
  have hbA : ¬ AA s b := Nat.not_le.mpr hbl
  refine lv_aload_n hx hb dL_law_919 rfl (lv_at hl 2 rfl) ?_
  refine lw_ld (k := 1) (v := (1 : Int32)) hx hb hX hbl hbA hS hl (n0 := 1) (n4 := 0) rfl rfl rfl (by decide) (by omega) hL dL_law_920 dL_law_921 dL_law_923 dL_law_924 dL_law_925 ?_
  refine lw_ld (k := 2) (v := (2 : Int32)) hx hb hX hbl hbA hS hl (n0 := 1) (n4 := 0) rfl rfl rfl (by decide) (by omega) hL dL_law_926 dL_law_927 dL_law_929 dL_law_930 dL_law_931 ?_
  refine W.widen (k := cells + 8) (n := slots + 1000) (by omega) (by omega) ?_
  obtain ⟨v, σ', τ', h1, h2, hJ'⟩ := q_tries hF hJ (xs (i + 1)) (xs (i + 2))
  refine cl_V (G := (cG, g, tG)) (w := (hW (cG, g, tG) Z (mfix (cG, g, tG) τ ++ oL cG o f) σ)) (w' := (hW (cG, g, tG) Z (mfix (cG, g, tG) τ ++ oL cG o f) σ')) (rv := some (.int v)) (bytes := cX11_tries) (maxL := 5) (ret := (some .int)) (C := RX11) (As := [.int (xs (i + 1)), .int (xs (i + 2))]) (rest := []) (stk := [.int v]) ⟨hx, hb, hml, hown, hts⟩ hK hE hA hP hD hS (c_X11_tries l D (cG, g, tG) Z _ σ F (xs (i + 1)) (xs (i + 2)) (v, σ') h1) (cwV 2 hts (gwV wd_951 wd_952 wd_953 wd_1 wd_954) rfl rfl rfl hd_X11_tries ⟨Nat.le_of_ble_eq_true rfl, Nat.le_of_ble_eq_true rfl⟩) (hg_0 (cG, g, tG) Z _ σ) rfl rfl rfl hl.1 rfl (Nat.le_of_ble_eq_true rfl) dL_law_932 hcs rfl (fun H locs hP hD hS => ?_)
  exact lw_m_20 CX hi hcs nx rfl rfl h2 hJ' (hXX) hP hD hS hl
set_option maxRecDepth 100000 in
set_option maxHeartbeats 4000000 in
/-- spent -/
theorem lw_x_21 {p : Program} {l : Launch} {e : Env} {s : State} {m : MethodId} {below : List Frame} {meth : Method} {c : Code} {b L : Nat} {xs : Nat → Int32} {D : va_G} {cG : Nat → ClassId} {tG : Nat → Nat} (CX : LCx p l s m meth c b L xs D cG tG) {h mm o i cells slots : Nat} (hi : i + 6 ≤ L) (hcs : cells + 8 ≤ room_1.cells ∧ slots + 1000 ≤ room_1.slots) (nx : NX p l e s m below meth c b D cG tG h mm o i 1812 (cells + 8) (slots + 1000)) : NX p l e s m below meth c b D cG tG h mm o i 956 cells slots := by
  intro g Z σ τ A f H locs ls e0 e2 hJ hXX hP hD hS hl
  obtain ⟨F, hF⟩ : ∃ F : Nat, 50000 ≤ F := ⟨50000, Nat.le_refl _⟩
  obtain ⟨⟨hx, hb, hr, hml, hown, hts, hX, hbl, hlocks, hgv⟩, hl0, hL, hKE, hXE⟩ := id CX
  have hts : ∀ w ∈ hU, w.before #[Value.ref b] s = true := fun w hw => hts w (hU_tbl hw)
  have hown : s.vm.findClass RL = some m.cls := hown
  subst e0
  subst e2
  have hK := (hKE g).1
  have hE := (hKE g).2
  have hA : ∀ q : Nat, s.heap.size ≤ q → AA s q := fun _ h => h
  have hbA : ¬ AA s b := Nat.not_le.mpr hbl
  refine lv_aload_n hx hb dL_law_956 rfl (lv_at hl 2 rfl) ?_
  refine lw_ld (k := 1) (v := (1 : Int32)) hx hb hX hbl hbA hS hl (n0 := 1) (n4 := 0) rfl rfl rfl (by decide) (by omega) hL dL_law_957 dL_law_958 dL_law_960 dL_law_961 dL_law_962 ?_
  refine lw_ld (k := 2) (v := (2 : Int32)) hx hb hX hbl hbA hS hl (n0 := 1) (n4 := 0) rfl rfl rfl (by decide) (by omega) hL dL_law_963 dL_law_964 dL_law_966 dL_law_967 dL_law_968 ?_
  refine W.widen (k := cells + 8) (n := slots + 1000) (by omega) (by omega) ?_
  obtain ⟨v, σ', τ', h1, h2, hJ'⟩ := q_spent hF hJ (xs (i + 1)) (xs (i + 2))
  refine cl_V (G := (cG, g, tG)) (w := (hW (cG, g, tG) Z (mfix (cG, g, tG) τ ++ oL cG o f) σ)) (w' := (hW (cG, g, tG) Z (mfix (cG, g, tG) τ ++ oL cG o f) σ')) (rv := some (.int v)) (bytes := cX11_spent) (maxL := 8) (ret := (some .int)) (C := RX11) (As := [.int (xs (i + 1)), .int (xs (i + 2))]) (rest := []) (stk := [.int v]) ⟨hx, hb, hml, hown, hts⟩ hK hE hA hP hD hS (c_X11_spent l D (cG, g, tG) Z _ σ F (xs (i + 1)) (xs (i + 2)) (v, σ') h1) (cwV 2 hts (gwV wd_955 wd_956 wd_957 wd_1 wd_958) rfl rfl rfl hd_X11_spent ⟨Nat.le_of_ble_eq_true rfl, Nat.le_of_ble_eq_true rfl⟩) (hg_0 (cG, g, tG) Z _ σ) rfl rfl rfl hl.1 rfl (Nat.le_of_ble_eq_true rfl) dL_law_969 hcs rfl (fun H locs hP hD hS => ?_)
  exact lw_m_21 CX hi hcs nx rfl rfl h2 hJ' (hXX) hP hD hS hl
set_option maxRecDepth 100000 in
set_option maxHeartbeats 4000000 in
/-- odds -/
theorem lw_x_22 {p : Program} {l : Launch} {e : Env} {s : State} {m : MethodId} {below : List Frame} {meth : Method} {c : Code} {b L : Nat} {xs : Nat → Int32} {D : va_G} {cG : Nat → ClassId} {tG : Nat → Nat} (CX : LCx p l s m meth c b L xs D cG tG) {h mm o i cells slots : Nat} (hi : i + 6 ≤ L) (hcs : cells + 8 ≤ room_1.cells ∧ slots + 1000 ≤ room_1.slots) (nx : NX p l e s m below meth c b D cG tG h mm o i 1812 (cells + 8) (slots + 1000)) : NX p l e s m below meth c b D cG tG h mm o i 993 cells slots := by
  intro g Z σ τ A f H locs ls e0 e2 hJ hXX hP hD hS hl
  obtain ⟨F, hF⟩ : ∃ F : Nat, 50000 ≤ F := ⟨50000, Nat.le_refl _⟩
  obtain ⟨⟨hx, hb, hr, hml, hown, hts, hX, hbl, hlocks, hgv⟩, hl0, hL, hKE, hXE⟩ := id CX
  have hts : ∀ w ∈ hU, w.before #[Value.ref b] s = true := fun w hw => hts w (hU_tbl hw)
  have hown : s.vm.findClass RL = some m.cls := hown
  subst e0
  subst e2
  have hK := (hKE g).1
  have hE := (hKE g).2
  have hA : ∀ q : Nat, s.heap.size ≤ q → AA s q := fun _ h => h
  have hbA : ¬ AA s b := Nat.not_le.mpr hbl
  refine lv_aload_n hx hb dL_law_993 rfl (lv_at hl 2 rfl) ?_
  refine lw_ld (k := 1) (v := (1 : Int32)) hx hb hX hbl hbA hS hl (n0 := 1) (n4 := 0) rfl rfl rfl (by decide) (by omega) hL dL_law_994 dL_law_995 dL_law_997 dL_law_998 dL_law_999 ?_
  refine lw_ld (k := 2) (v := (2 : Int32)) hx hb hX hbl hbA hS hl (n0 := 1) (n4 := 0) rfl rfl rfl (by decide) (by omega) hL dL_law_1000 dL_law_1001 dL_law_1003 dL_law_1004 dL_law_1005 ?_
  refine lw_ld (k := 3) (v := (3 : Int32)) hx hb hX hbl hbA hS hl (n0 := 1) (n4 := 0) rfl rfl rfl (by decide) (by omega) hL dL_law_1006 dL_law_1007 dL_law_1009 dL_law_1010 dL_law_1011 ?_
  refine W.widen (k := cells + 8) (n := slots + 1000) (by omega) (by omega) ?_
  obtain ⟨v, σ', τ', h1, h2, hJ'⟩ := q_odds hF hJ (xs (i + 1)) (xs (i + 2)) (xs (i + 3))
  refine cl_V (G := (cG, g, tG)) (w := (hW (cG, g, tG) Z (mfix (cG, g, tG) τ ++ oL cG o f) σ)) (w' := (hW (cG, g, tG) Z (mfix (cG, g, tG) τ ++ oL cG o f) σ')) (rv := some (.int v)) (bytes := cX11_odds) (maxL := 6) (ret := (some .int)) (C := RX11) (As := [.int (xs (i + 1)), .int (xs (i + 2)), .int (xs (i + 3))]) (rest := []) (stk := [.int v]) ⟨hx, hb, hml, hown, hts⟩ hK hE hA hP hD hS (c_X11_odds l D (cG, g, tG) Z _ σ F (xs (i + 1)) (xs (i + 2)) (xs (i + 3)) (v, σ') h1) (cwV 3 hts (gwV wd_962 wd_963 wd_964 wd_1 wd_965) rfl rfl rfl hd_X11_odds ⟨Nat.le_of_ble_eq_true rfl, Nat.le_of_ble_eq_true rfl⟩) (hg_0 (cG, g, tG) Z _ σ) rfl rfl rfl hl.1 rfl (Nat.le_of_ble_eq_true rfl) dL_law_1012 hcs rfl (fun H locs hP hD hS => ?_)
  exact lw_m_22 CX hi hcs nx rfl rfl h2 hJ' (hXX) hP hD hS hl
set_option maxRecDepth 100000 in
set_option maxHeartbeats 4000000 in
/-- best -/
theorem lw_x_23 {p : Program} {l : Launch} {e : Env} {s : State} {m : MethodId} {below : List Frame} {meth : Method} {c : Code} {b L : Nat} {xs : Nat → Int32} {D : va_G} {cG : Nat → ClassId} {tG : Nat → Nat} (CX : LCx p l s m meth c b L xs D cG tG) {h mm o i cells slots : Nat} (hi : i + 6 ≤ L) (hcs : cells + 8 ≤ room_1.cells ∧ slots + 1000 ≤ room_1.slots) (nx : NX p l e s m below meth c b D cG tG h mm o i 1812 (cells + 8) (slots + 1000)) : NX p l e s m below meth c b D cG tG h mm o i 1042 cells slots := by
  intro g Z σ τ A f H locs ls e0 e2 hJ hXX hP hD hS hl
  obtain ⟨F, hF⟩ : ∃ F : Nat, 50000 ≤ F := ⟨50000, Nat.le_refl _⟩
  obtain ⟨⟨hx, hb, hr, hml, hown, hts, hX, hbl, hlocks, hgv⟩, hl0, hL, hKE, hXE⟩ := id CX
  have hts : ∀ w ∈ hU, w.before #[Value.ref b] s = true := fun w hw => hts w (hU_tbl hw)
  have hown : s.vm.findClass RL = some m.cls := hown
  subst e0
  subst e2
  have hK := (hKE g).1
  have hE := (hKE g).2
  have hA : ∀ q : Nat, s.heap.size ≤ q → AA s q := fun _ h => h
  have hbA : ¬ AA s b := Nat.not_le.mpr hbl
  refine lv_aload_n hx hb dL_law_1042 rfl (lv_at hl 2 rfl) ?_
  refine lw_ld (k := 1) (v := (1 : Int32)) hx hb hX hbl hbA hS hl (n0 := 1) (n4 := 0) rfl rfl rfl (by decide) (by omega) hL dL_law_1043 dL_law_1044 dL_law_1046 dL_law_1047 dL_law_1048 ?_
  refine lw_ld (k := 2) (v := (2 : Int32)) hx hb hX hbl hbA hS hl (n0 := 1) (n4 := 0) rfl rfl rfl (by decide) (by omega) hL dL_law_1049 dL_law_1050 dL_law_1052 dL_law_1053 dL_law_1054 ?_
  refine W.widen (k := cells + 8) (n := slots + 1000) (by omega) (by omega) ?_
  obtain ⟨v, σ', τ', h1, h2, hJ'⟩ := q_best hF hJ (xs (i + 1)) (xs (i + 2))
  refine cl_V (G := (cG, g, tG)) (w := (hW (cG, g, tG) Z (mfix (cG, g, tG) τ ++ oL cG o f) σ)) (w' := (hW (cG, g, tG) Z (mfix (cG, g, tG) τ ++ oL cG o f) σ')) (rv := some (.long v)) (bytes := cX11_best) (maxL := 4) (ret := (some .long)) (C := RX11) (As := [.int (xs (i + 1)), .int (xs (i + 2))]) (rest := []) (stk := [.long v]) ⟨hx, hb, hml, hown, hts⟩ hK hE hA hP hD hS (c_X11_best l D (cG, g, tG) Z _ σ F (xs (i + 1)) (xs (i + 2)) (v, σ') h1) (cwV 2 hts (gwV wd_978 wd_979 wd_980 wd_1 wd_981) rfl rfl rfl hd_X11_best ⟨Nat.le_of_ble_eq_true rfl, Nat.le_of_ble_eq_true rfl⟩) (hg_0 (cG, g, tG) Z _ σ) rfl rfl rfl hl.1 rfl (Nat.le_of_ble_eq_true rfl) dL_law_1055 hcs rfl (fun H locs hP hD hS => ?_)
  exact lw_m_23 CX hi hcs nx rfl rfl h2 hJ' (hXX) hP hD hS hl
set_option maxRecDepth 100000 in
set_option maxHeartbeats 4000000 in
/-- bound -/
theorem lw_x_24 {p : Program} {l : Launch} {e : Env} {s : State} {m : MethodId} {below : List Frame} {meth : Method} {c : Code} {b L : Nat} {xs : Nat → Int32} {D : va_G} {cG : Nat → ClassId} {tG : Nat → Nat} (CX : LCx p l s m meth c b L xs D cG tG) {h mm o i cells slots : Nat} (hi : i + 6 ≤ L) (hcs : cells + 8 ≤ room_1.cells ∧ slots + 1000 ≤ room_1.slots) (nx : NX p l e s m below meth c b D cG tG h mm o i 1812 (cells + 8) (slots + 1000)) : NX p l e s m below meth c b D cG tG h mm o i 1080 cells slots := by
  intro g Z σ τ A f H locs ls e0 e2 hJ hXX hP hD hS hl
  obtain ⟨F, hF⟩ : ∃ F : Nat, 50000 ≤ F := ⟨50000, Nat.le_refl _⟩
  obtain ⟨⟨hx, hb, hr, hml, hown, hts, hX, hbl, hlocks, hgv⟩, hl0, hL, hKE, hXE⟩ := id CX
  have hts : ∀ w ∈ hU, w.before #[Value.ref b] s = true := fun w hw => hts w (hU_tbl hw)
  have hown : s.vm.findClass RL = some m.cls := hown
  subst e0
  subst e2
  have hK := (hKE g).1
  have hE := (hKE g).2
  have hA : ∀ q : Nat, s.heap.size ≤ q → AA s q := fun _ h => h
  have hbA : ¬ AA s b := Nat.not_le.mpr hbl
  refine lv_aload_n hx hb dL_law_1080 rfl (lv_at hl 2 rfl) ?_
  refine lw_ld (k := 1) (v := (1 : Int32)) hx hb hX hbl hbA hS hl (n0 := 1) (n4 := 0) rfl rfl rfl (by decide) (by omega) hL dL_law_1081 dL_law_1082 dL_law_1084 dL_law_1085 dL_law_1086 ?_
  refine lw_ld (k := 2) (v := (2 : Int32)) hx hb hX hbl hbA hS hl (n0 := 1) (n4 := 0) rfl rfl rfl (by decide) (by omega) hL dL_law_1087 dL_law_1088 dL_law_1090 dL_law_1091 dL_law_1092 ?_
  refine W.widen (k := cells + 8) (n := slots + 1000) (by omega) (by omega) ?_
  obtain ⟨v, σ', τ', h1, h2, hJ'⟩ := q_bound hF hJ (xs (i + 1)) (xs (i + 2))
  refine cl_V (G := (cG, g, tG)) (w := (hW (cG, g, tG) Z (mfix (cG, g, tG) τ ++ oL cG o f) σ)) (w' := (hW (cG, g, tG) Z (mfix (cG, g, tG) τ ++ oL cG o f) σ')) (rv := some (.long v)) (bytes := cX11_bound) (maxL := 4) (ret := (some .long)) (C := RX11) (As := [.int (xs (i + 1)), .int (xs (i + 2))]) (rest := []) (stk := [.long v]) ⟨hx, hb, hml, hown, hts⟩ hK hE hA hP hD hS (c_X11_bound l D (cG, g, tG) Z _ σ F (xs (i + 1)) (xs (i + 2)) (v, σ') h1) (cwV 2 hts (gwV wd_1005 wd_1006 wd_1007 wd_1 wd_1008) rfl rfl rfl hd_X11_bound ⟨Nat.le_of_ble_eq_true rfl, Nat.le_of_ble_eq_true rfl⟩) (hg_0 (cG, g, tG) Z _ σ) rfl rfl rfl hl.1 rfl (Nat.le_of_ble_eq_true rfl) dL_law_1093 hcs rfl (fun H locs hP hD hS => ?_)
  exact lw_m_24 CX hi hcs nx rfl rfl h2 hJ' (hXX) hP hD hS hl
set_option maxRecDepth 100000 in
set_option maxHeartbeats 4000000 in
/-- roots -/
theorem lw_x_25 {p : Program} {l : Launch} {e : Env} {s : State} {m : MethodId} {below : List Frame} {meth : Method} {c : Code} {b L : Nat} {xs : Nat → Int32} {D : va_G} {cG : Nat → ClassId} {tG : Nat → Nat} (CX : LCx p l s m meth c b L xs D cG tG) {h mm o i cells slots : Nat} (hi : i + 6 ≤ L) (hcs : cells + 8 ≤ room_1.cells ∧ slots + 1000 ≤ room_1.slots) (nx : NX p l e s m below meth c b D cG tG h mm o i 1812 (cells + 8) (slots + 1000)) : NX p l e s m below meth c b D cG tG h mm o i 1118 cells slots := by
  intro g Z σ τ A f H locs ls e0 e2 hJ hXX hP hD hS hl
  obtain ⟨F, hF⟩ : ∃ F : Nat, 50000 ≤ F := ⟨50000, Nat.le_refl _⟩
  obtain ⟨⟨hx, hb, hr, hml, hown, hts, hX, hbl, hlocks, hgv⟩, hl0, hL, hKE, hXE⟩ := id CX
  have hts : ∀ w ∈ hU, w.before #[Value.ref b] s = true := fun w hw => hts w (hU_tbl hw)
  have hown : s.vm.findClass RL = some m.cls := hown
  subst e0
  subst e2
  have hK := (hKE g).1
  have hE := (hKE g).2
  have hA : ∀ q : Nat, s.heap.size ≤ q → AA s q := fun _ h => h
  have hbA : ¬ AA s b := Nat.not_le.mpr hbl
  refine lv_aload_n hx hb dL_law_1118 rfl (lv_at hl 2 rfl) ?_
  refine lw_ld (k := 1) (v := (1 : Int32)) hx hb hX hbl hbA hS hl (n0 := 1) (n4 := 0) rfl rfl rfl (by decide) (by omega) hL dL_law_1119 dL_law_1120 dL_law_1122 dL_law_1123 dL_law_1124 ?_
  refine lw_ld (k := 2) (v := (2 : Int32)) hx hb hX hbl hbA hS hl (n0 := 1) (n4 := 0) rfl rfl rfl (by decide) (by omega) hL dL_law_1125 dL_law_1126 dL_law_1128 dL_law_1129 dL_law_1130 ?_
  refine W.widen (k := cells + 8) (n := slots + 1000) (by omega) (by omega) ?_
  obtain ⟨v, σ', τ', h1, h2, hJ'⟩ := q_roots hF hJ (xs (i + 1)) (xs (i + 2))
  refine cl_V (G := (cG, g, tG)) (w := (hW (cG, g, tG) Z (mfix (cG, g, tG) τ ++ oL cG o f) σ)) (w' := (hW (cG, g, tG) Z (mfix (cG, g, tG) τ ++ oL cG o f) σ')) (rv := some (.int v)) (bytes := cX11_roots) (maxL := 4) (ret := (some .int)) (C := RX11) (As := [.int (xs (i + 1)), .int (xs (i + 2))]) (rest := []) (stk := [.int v]) ⟨hx, hb, hml, hown, hts⟩ hK hE hA hP hD hS (c_X11_roots l D (cG, g, tG) Z _ σ F (xs (i + 1)) (xs (i + 2)) (v, σ') h1) (cwV 2 hts (gwV wd_1013 wd_1014 wd_1015 wd_1 wd_1016) rfl rfl rfl hd_X11_roots ⟨Nat.le_of_ble_eq_true rfl, Nat.le_of_ble_eq_true rfl⟩) (hg_0 (cG, g, tG) Z _ σ) rfl rfl rfl hl.1 rfl (Nat.le_of_ble_eq_true rfl) dL_law_1131 hcs rfl (fun H locs hP hD hS => ?_)
  exact lw_m_25 CX hi hcs nx rfl rfl h2 hJ' (hXX) hP hD hS hl
set_option maxRecDepth 100000 in
set_option maxHeartbeats 4000000 in
/-- small -/
theorem lw_x_26 {p : Program} {l : Launch} {e : Env} {s : State} {m : MethodId} {below : List Frame} {meth : Method} {c : Code} {b L : Nat} {xs : Nat → Int32} {D : va_G} {cG : Nat → ClassId} {tG : Nat → Nat} (CX : LCx p l s m meth c b L xs D cG tG) {h mm o i cells slots : Nat} (hi : i + 6 ≤ L) (hcs : cells + 8 ≤ room_1.cells ∧ slots + 1000 ≤ room_1.slots) (nx : NX p l e s m below meth c b D cG tG h mm o i 1812 (cells + 8) (slots + 1000)) : NX p l e s m below meth c b D cG tG h mm o i 1155 cells slots := by
  intro g Z σ τ A f H locs ls e0 e2 hJ hXX hP hD hS hl
  obtain ⟨F, hF⟩ : ∃ F : Nat, 50000 ≤ F := ⟨50000, Nat.le_refl _⟩
  obtain ⟨⟨hx, hb, hr, hml, hown, hts, hX, hbl, hlocks, hgv⟩, hl0, hL, hKE, hXE⟩ := id CX
  have hts : ∀ w ∈ hU, w.before #[Value.ref b] s = true := fun w hw => hts w (hU_tbl hw)
  have hown : s.vm.findClass RL = some m.cls := hown
  subst e0
  subst e2
  have hK := (hKE g).1
  have hE := (hKE g).2
  have hA : ∀ q : Nat, s.heap.size ≤ q → AA s q := fun _ h => h
  have hbA : ¬ AA s b := Nat.not_le.mpr hbl
  refine lv_aload_n hx hb dL_law_1155 rfl (lv_at hl 2 rfl) ?_
  refine lw_ld (k := 1) (v := (1 : Int32)) hx hb hX hbl hbA hS hl (n0 := 1) (n4 := 0) rfl rfl rfl (by decide) (by omega) hL dL_law_1156 dL_law_1157 dL_law_1159 dL_law_1160 dL_law_1161 ?_
  refine lw_ld (k := 2) (v := (2 : Int32)) hx hb hX hbl hbA hS hl (n0 := 1) (n4 := 0) rfl rfl rfl (by decide) (by omega) hL dL_law_1162 dL_law_1163 dL_law_1165 dL_law_1166 dL_law_1167 ?_
  refine lw_ld (k := 3) (v := (3 : Int32)) hx hb hX hbl hbA hS hl (n0 := 1) (n4 := 0) rfl rfl rfl (by decide) (by omega) hL dL_law_1168 dL_law_1169 dL_law_1171 dL_law_1172 dL_law_1173 ?_
  refine W.widen (k := cells + 8) (n := slots + 1000) (by omega) (by omega) ?_
  obtain ⟨v, σ', τ', h1, h2, hJ'⟩ := q_small hF hJ (xs (i + 1)) (xs (i + 2)) (xs (i + 3))
  refine cl_V (G := (cG, g, tG)) (w := (hW (cG, g, tG) Z (mfix (cG, g, tG) τ ++ oL cG o f) σ)) (w' := (hW (cG, g, tG) Z (mfix (cG, g, tG) τ ++ oL cG o f) σ')) (rv := some (.int v)) (bytes := cX11_small) (maxL := 7) (ret := (some .int)) (C := RX11) (As := [.int (xs (i + 1)), .int (xs (i + 2)), .int (xs (i + 3))]) (rest := []) (stk := [.int v]) ⟨hx, hb, hml, hown, hts⟩ hK hE hA hP hD hS (c_X11_small l D (cG, g, tG) Z _ σ F (xs (i + 1)) (xs (i + 2)) (xs (i + 3)) (v, σ') h1) (cwV 3 hts (gwV wd_1018 wd_1019 wd_1020 wd_1 wd_1021) rfl rfl rfl hd_X11_small ⟨Nat.le_of_ble_eq_true rfl, Nat.le_of_ble_eq_true rfl⟩) (hg_0 (cG, g, tG) Z _ σ) rfl rfl rfl hl.1 rfl (Nat.le_of_ble_eq_true rfl) dL_law_1174 hcs rfl (fun H locs hP hD hS => ?_)
  exact lw_m_26 CX hi hcs nx rfl rfl h2 hJ' (hXX) hP hD hS hl
set_option maxRecDepth 100000 in
set_option maxHeartbeats 4000000 in
/-- won -/
theorem lw_x_27 {p : Program} {l : Launch} {e : Env} {s : State} {m : MethodId} {below : List Frame} {meth : Method} {c : Code} {b L : Nat} {xs : Nat → Int32} {D : va_G} {cG : Nat → ClassId} {tG : Nat → Nat} (CX : LCx p l s m meth c b L xs D cG tG) {h mm o i cells slots : Nat} (hi : i + 6 ≤ L) (hcs : cells + 8 ≤ room_1.cells ∧ slots + 1000 ≤ room_1.slots) (nx : NX p l e s m below meth c b D cG tG h mm o i 1812 (cells + 8) (slots + 1000)) : NX p l e s m below meth c b D cG tG h mm o i 1204 cells slots := by
  intro g Z σ τ A f H locs ls e0 e2 hJ hXX hP hD hS hl
  obtain ⟨F, hF⟩ : ∃ F : Nat, 50000 ≤ F := ⟨50000, Nat.le_refl _⟩
  obtain ⟨⟨hx, hb, hr, hml, hown, hts, hX, hbl, hlocks, hgv⟩, hl0, hL, hKE, hXE⟩ := id CX
  have hts : ∀ w ∈ hU, w.before #[Value.ref b] s = true := fun w hw => hts w (hU_tbl hw)
  have hown : s.vm.findClass RL = some m.cls := hown
  subst e0
  subst e2
  have hK := (hKE g).1
  have hE := (hKE g).2
  have hA : ∀ q : Nat, s.heap.size ≤ q → AA s q := fun _ h => h
  have hbA : ¬ AA s b := Nat.not_le.mpr hbl
  refine lv_aload_n hx hb dL_law_1204 rfl (lv_at hl 2 rfl) ?_
  refine lw_ld (k := 1) (v := (1 : Int32)) hx hb hX hbl hbA hS hl (n0 := 1) (n4 := 0) rfl rfl rfl (by decide) (by omega) hL dL_law_1205 dL_law_1206 dL_law_1208 dL_law_1209 dL_law_1210 ?_
  refine lw_ld (k := 2) (v := (2 : Int32)) hx hb hX hbl hbA hS hl (n0 := 1) (n4 := 0) rfl rfl rfl (by decide) (by omega) hL dL_law_1211 dL_law_1212 dL_law_1214 dL_law_1215 dL_law_1216 ?_
  refine W.widen (k := cells + 8) (n := slots + 1000) (by omega) (by omega) ?_
  obtain ⟨v, σ', τ', h1, h2, hJ'⟩ := q_won hF hJ (xs (i + 1)) (xs (i + 2))
  refine cl_V (G := (cG, g, tG)) (w := (hW (cG, g, tG) Z (mfix (cG, g, tG) τ ++ oL cG o f) σ)) (w' := (hW (cG, g, tG) Z (mfix (cG, g, tG) τ ++ oL cG o f) σ')) (rv := some (.int v)) (bytes := cX11_won) (maxL := 4) (ret := (some .int)) (C := RX11) (As := [.int (xs (i + 1)), .int (xs (i + 2))]) (rest := []) (stk := [.int v]) ⟨hx, hb, hml, hown, hts⟩ hK hE hA hP hD hS (c_X11_won l D (cG, g, tG) Z _ σ F (xs (i + 1)) (xs (i + 2)) (v, σ') h1) (cwV 2 hts (gwV wd_1027 wd_1028 wd_1029 wd_1 wd_1030) rfl rfl rfl hd_X11_won ⟨Nat.le_of_ble_eq_true rfl, Nat.le_of_ble_eq_true rfl⟩) (hg_0 (cG, g, tG) Z _ σ) rfl rfl rfl hl.1 rfl (Nat.le_of_ble_eq_true rfl) dL_law_1217 hcs rfl (fun H locs hP hD hS => ?_)
  exact lw_m_27 CX hi hcs nx rfl rfl h2 hJ' (hXX) hP hD hS hl
set_option maxRecDepth 100000 in
set_option maxHeartbeats 4000000 in
/-- game -/
theorem lw_x_28 {p : Program} {l : Launch} {e : Env} {s : State} {m : MethodId} {below : List Frame} {meth : Method} {c : Code} {b L : Nat} {xs : Nat → Int32} {D : va_G} {cG : Nat → ClassId} {tG : Nat → Nat} (CX : LCx p l s m meth c b L xs D cG tG) {h mm o i cells slots : Nat} (hi : i + 6 ≤ L) (hcs : cells + 8 ≤ room_1.cells ∧ slots + 1000 ≤ room_1.slots) (nx : NX p l e s m below meth c b D cG tG h mm o i 1812 (cells + 8) (slots + 1000)) : NX p l e s m below meth c b D cG tG h mm o i 1241 cells slots := by
  intro g Z σ τ A f H locs ls e0 e2 hJ hXX hP hD hS hl
  obtain ⟨F, hF⟩ : ∃ F : Nat, 50000 ≤ F := ⟨50000, Nat.le_refl _⟩
  obtain ⟨⟨hx, hb, hr, hml, hown, hts, hX, hbl, hlocks, hgv⟩, hl0, hL, hKE, hXE⟩ := id CX
  have hts : ∀ w ∈ hU, w.before #[Value.ref b] s = true := fun w hw => hts w (hU_tbl hw)
  have hown : s.vm.findClass RL = some m.cls := hown
  subst e0
  subst e2
  have hK := (hKE g).1
  have hE := (hKE g).2
  have hA : ∀ q : Nat, s.heap.size ≤ q → AA s q := fun _ h => h
  have hbA : ¬ AA s b := Nat.not_le.mpr hbl
  refine lv_aload_n hx hb dL_law_1241 rfl (lv_at hl 2 rfl) ?_
  refine lw_ld (k := 1) (v := (1 : Int32)) hx hb hX hbl hbA hS hl (n0 := 1) (n4 := 0) rfl rfl rfl (by decide) (by omega) hL dL_law_1242 dL_law_1243 dL_law_1245 dL_law_1246 dL_law_1247 ?_
  refine lw_ld (k := 2) (v := (2 : Int32)) hx hb hX hbl hbA hS hl (n0 := 1) (n4 := 0) rfl rfl rfl (by decide) (by omega) hL dL_law_1248 dL_law_1249 dL_law_1251 dL_law_1252 dL_law_1253 ?_
  refine lw_ld (k := 3) (v := (3 : Int32)) hx hb hX hbl hbA hS hl (n0 := 1) (n4 := 0) rfl rfl rfl (by decide) (by omega) hL dL_law_1254 dL_law_1255 dL_law_1257 dL_law_1258 dL_law_1259 ?_
  refine W.widen (k := cells + 8) (n := slots + 1000) (by omega) (by omega) ?_
  obtain ⟨v, σ', τ', h1, h2, hJ'⟩ := q_game hF hJ (xs (i + 1)) (xs (i + 2)) (xs (i + 3))
  refine cl_V (G := (cG, g, tG)) (w := (hW (cG, g, tG) Z (mfix (cG, g, tG) τ ++ oL cG o f) σ)) (w' := (hW (cG, g, tG) Z (mfix (cG, g, tG) τ ++ oL cG o f) σ')) (rv := some (.int v)) (bytes := cX11_game) (maxL := 5) (ret := (some .int)) (C := RX11) (As := [.int (xs (i + 1)), .int (xs (i + 2)), .int (xs (i + 3))]) (rest := []) (stk := [.int v]) ⟨hx, hb, hml, hown, hts⟩ hK hE hA hP hD hS (c_X11_game l D (cG, g, tG) Z _ σ F (xs (i + 1)) (xs (i + 2)) (xs (i + 3)) (v, σ') h1) (cwV 3 hts (gwV wd_1039 wd_1040 wd_1041 wd_1 wd_1042) rfl rfl rfl hd_X11_game ⟨Nat.le_of_ble_eq_true rfl, Nat.le_of_ble_eq_true rfl⟩) (hg_0 (cG, g, tG) Z _ σ) rfl rfl rfl hl.1 rfl (Nat.le_of_ble_eq_true rfl) dL_law_1260 hcs rfl (fun H locs hP hD hS => ?_)
  exact lw_m_28 CX hi hcs nx rfl rfl h2 hJ' (hXX) hP hD hS hl
set_option maxRecDepth 100000 in
set_option maxHeartbeats 4000000 in
/-- steep -/
theorem lw_x_29 {p : Program} {l : Launch} {e : Env} {s : State} {m : MethodId} {below : List Frame} {meth : Method} {c : Code} {b L : Nat} {xs : Nat → Int32} {D : va_G} {cG : Nat → ClassId} {tG : Nat → Nat} (CX : LCx p l s m meth c b L xs D cG tG) {h mm o i cells slots : Nat} (hi : i + 6 ≤ L) (hcs : cells + 8 ≤ room_1.cells ∧ slots + 1000 ≤ room_1.slots) (nx : NX p l e s m below meth c b D cG tG h mm o i 1812 (cells + 8) (slots + 1000)) : NX p l e s m below meth c b D cG tG h mm o i 1290 cells slots := by
  intro g Z σ τ A f H locs ls e0 e2 hJ hXX hP hD hS hl
  obtain ⟨F, hF⟩ : ∃ F : Nat, 50000 ≤ F := ⟨50000, Nat.le_refl _⟩
  obtain ⟨⟨hx, hb, hr, hml, hown, hts, hX, hbl, hlocks, hgv⟩, hl0, hL, hKE, hXE⟩ := id CX
  have hts : ∀ w ∈ hU, w.before #[Value.ref b] s = true := fun w hw => hts w (hU_tbl hw)
  have hown : s.vm.findClass RL = some m.cls := hown
  subst e0
  subst e2
  have hK := (hKE g).1
  have hE := (hKE g).2
  have hA : ∀ q : Nat, s.heap.size ≤ q → AA s q := fun _ h => h
  have hbA : ¬ AA s b := Nat.not_le.mpr hbl
  refine lv_aload_n hx hb dL_law_1290 rfl (lv_at hl 2 rfl) ?_
  refine lw_ld (k := 1) (v := (1 : Int32)) hx hb hX hbl hbA hS hl (n0 := 1) (n4 := 0) rfl rfl rfl (by decide) (by omega) hL dL_law_1291 dL_law_1292 dL_law_1294 dL_law_1295 dL_law_1296 ?_
  refine lw_ld (k := 2) (v := (2 : Int32)) hx hb hX hbl hbA hS hl (n0 := 1) (n4 := 0) rfl rfl rfl (by decide) (by omega) hL dL_law_1297 dL_law_1298 dL_law_1300 dL_law_1301 dL_law_1302 ?_
  refine lw_ld (k := 3) (v := (3 : Int32)) hx hb hX hbl hbA hS hl (n0 := 1) (n4 := 0) rfl rfl rfl (by decide) (by omega) hL dL_law_1303 dL_law_1304 dL_law_1306 dL_law_1307 dL_law_1308 ?_
  refine lw_ld (k := 4) (v := (4 : Int32)) hx hb hX hbl hbA hS hl (n0 := 1) (n4 := 0) rfl rfl rfl (by decide) (by omega) hL dL_law_1309 dL_law_1310 dL_law_1312 dL_law_1313 dL_law_1314 ?_
  refine lw_nz hx hb dL_law_1315 dL_law_1318 dL_law_1319 dL_law_1322 ?_
  refine W.widen (k := cells + 8) (n := slots + 1000) (by omega) (by omega) ?_
  obtain ⟨v, τ', h1, h2, hJ'⟩ := q_steep hF hJ (xs (i + 1)) (xs (i + 2)) (xs (i + 3)) (nz (xs (i + 4)))
  refine cl_V (G := (cG, g, tG)) (w := (hW (cG, g, tG) Z (mfix (cG, g, tG) τ ++ oL cG o f) σ)) (w' := (hW (cG, g, tG) Z (mfix (cG, g, tG) τ ++ oL cG o f) σ)) (rv := some (.int v)) (bytes := cX11_steep) (maxL := 8) (ret := (some .int)) (C := RX11) (As := [.int (xs (i + 1)), .int (xs (i + 2)), .int (xs (i + 3)), .int (nz (xs (i + 4)))]) (rest := []) (stk := [.int v]) ⟨hx, hb, hml, hown, hts⟩ hK hE hA hP hD hS (c_X11_steep l D (cG, g, tG) Z _ σ (xs (i + 1)) (xs (i + 2)) (xs (i + 3)) (nz (xs (i + 4))) v h1) (cwV 4 hts (gwV wd_1044 wd_1045 wd_1046 wd_1 wd_1047) rfl rfl rfl hd_X11_steep ⟨Nat.le_of_ble_eq_true rfl, Nat.le_of_ble_eq_true rfl⟩) (hg_0 (cG, g, tG) Z _ σ) rfl rfl rfl hl.1 rfl (Nat.le_of_ble_eq_true rfl) dL_law_1323 hcs rfl (fun H locs hP hD hS => ?_)
  exact lw_m_29 CX hi hcs nx rfl rfl h2 hJ' (hXX) hP hD hS hl
