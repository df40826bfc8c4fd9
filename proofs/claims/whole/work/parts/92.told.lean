/-! the law's cases, by program (genL.py) -/
theorem lw_r_saying {A : HA} {Z : hZ} {σ τ : hSt} {F : Nat} (hF : 50000 ≤ F) (h : J A Z σ τ) (c : nS_ A = 20 ∨ ¬ sayF (aT A).1 (aT A).2 = none) : ∃ v σ' τ', f_X11_saying F Z σ = some (v, σ') ∧ f_X12_saying F Z τ = some (v, τ') ∧ J A Z σ' τ' := ⟨-1, r_saying hF h c⟩
theorem lw_r_law {A : HA} {Z : hZ} {σ τ : hSt} {F : Nat} (hF : 50000 ≤ F) (h : J A Z σ τ) (c : nL_ A = 12 ∨ ¬ txF (aT A).1 (aT A).2 0 = none) : ∃ v σ' τ', f_X11_law F Z σ = some (v, σ') ∧ f_X12_law F Z τ = some (v, τ') ∧ J A Z σ' τ' := ⟨-1, r_law hF h c⟩
theorem lw_r_giant {A : HA} {Z : hZ} {σ τ : hSt} {F : Nat} (hF : 50000 ≤ F) (h : J A Z σ τ) (c : nG_ A = 12 ∨ ¬ txF (aT A).1 (aT A).2 1 = none) : ∃ v σ' τ', f_X11_giant F Z σ = some (v, σ') ∧ f_X12_giant F Z τ = some (v, τ') ∧ J A Z σ' τ' := ⟨-1, r_giant hF h c⟩
theorem i32_rg (x : Int32) : -2147483648 ≤ x.toInt ∧ x.toInt ≤ 2147483647 := by
  have h1 := Int32.le_toInt x
  have h2 := Int32.toInt_lt x
  omega
theorem lw_r_net {A : HA} {Z : hZ} {σ τ : hSt} {x1 x2 : Int32} (h : J A Z σ τ) (c : nN_ A = 12 ∨ ¬ okN x1.toInt x2.toInt) : ∃ v σ' τ', f_X11_net Z σ x1 x2 = some (v, σ') ∧ f_X12_net Z τ x1 x2 = some (v, τ') ∧ J A Z σ' τ' := by
  have h1 := c_netN h (i32_rg x1) (i32_rg x2) c
  obtain ⟨τ', h2, h3⟩ := (q_mnet h (i32_rg x1) (i32_rg x2)).1 c
  rw [← i32_of, ← i32_of] at h1 h2
  exact ⟨-1, σ, τ', h1, h2, h.1, h.2.1, h.2.2.1, h3, h.2.2.2.2⟩
theorem lw_r_talk {A : HA} {Z : hZ} {σ τ : hSt} {F : Nat} {x1 x2 x3 x4 : Int32} (hF : 50000 ≤ F) (h : J A Z σ τ) (c : nK_ A = 12 ∨ ¬ okK A x1.toInt x2.toInt x3.toInt x4.toInt) : ∃ v σ' τ', f_X11_talk F Z σ x1 x2 x3 x4 = some (v, σ') ∧ f_X12_talk F Z τ x1 x2 x3 x4 = some (v, τ') ∧ J A Z σ' τ' := by
  have h1 := c_talkN hF h (i32_rg x1) (i32_rg x2) (i32_rg x3) (i32_rg x4) c
  obtain ⟨τ', h2, h3⟩ := (q_mtalk hF h (i32_rg x1) (i32_rg x2) (i32_rg x3) (i32_rg x4)).1 c
  rw [← i32_of, ← i32_of, ← i32_of, ← i32_of] at h1 h2
  exact ⟨-1, σ, τ', h1, h2, h.1, h.2.1, h.2.2.1, h3, h.2.2.2.2⟩
theorem lw_reP {D : va_G} {cl : List vw_C} {H : Heap} {cG : Nat → ClassId} {tG g k : Nat → Nat} {Z : hZ} {O : va_W} {σ τ : hSt} (ho : ∀ r, r < 1000 → k r = g r) (hM : RM τ) (hP : va_P D cl (hW (cG, k, tG) Z (mfix (cG, g, tG) τ ++ O) σ) H) : va_P D cl (LW (cG, k, tG) Z O σ τ) H := by
  rw [← mfix_g ho hM] at hP
  exact hP
theorem lw_reD {A : Nat → Prop} {cG : Nat → ClassId} {tG g k : Nat → Nat} {Z : hZ} {O : va_W} {σ τ : hSt} (ho : ∀ r, r < 1000 → k r = g r) (hM : RM τ) (hP : va_D A (hW (cG, k, tG) Z (mfix (cG, g, tG) τ ++ O) σ)) : va_D A (LW (cG, k, tG) Z O σ τ) := by
  rw [← mfix_g ho hM] at hP
  exact hP
/-- it's enough to go on from a state whose references are of things that stand -/
theorem NX_n {p : Program} {l : Launch} {e : Env} {s : State} {m : MethodId} {below : List Frame} {meth : Method} {c : Code} {b : Nat} {D : va_G} {cG : Nat → ClassId} {tG : Nat → Nat} {h mm o i pc cells slots : Nat} (kk : ∀ (g : Nat → Nat) (Z : hZ) (σ τ : hSt) (A : HA) (f : Nat → Int64) (H : Heap) (locs : List Loc) (ls : Array Slot), g 0 = h → g 200 = mm → J A Z σ τ → JX A (cG, g, tG) Z → RF A σ → RM τ → va_P D vwCl (LW (cG, g, tG) Z (oL cG o f) σ τ) H → va_D (AA s) (LW (cG, g, tG) Z (oL cG o f) σ τ) → va_S (AA s) s.heap H locs → lv_has ls 7 [(4, .int (nI i)), (0, .ref b), (1, .ref h), (2, .ref mm), (3, .ref o)] →
    W p l e room_1 s m #[Value.ref b] below meth c H locs cells slots (lw_Z below #[Value.ref b] s) (F0 m pc ls [])) : NX p l e s m below meth c b D cG tG h mm o i pc cells slots := by
  intro g Z σ τ A f H locs ls e0 e2 hJ hXX hP hD hS hl
  have hw : LW (cG, gJ (cG, g, tG) σ τ, tG) Z (oL cG o f) (nJ σ) (mJ τ) = LW (cG, g, tG) Z (oL cG o f) σ τ := nJ_W hJ hXX
  rw [← hw] at hP hD
  have hR := nJ_RF hJ hXX
  exact kk (gJ (cG, g, tG) σ τ) Z (nJ σ) (mJ τ) A f H locs ls ((gJ_o (Or.inl (by decide))).trans e0) ((gJ_o (Or.inl (by decide))).trans e2) (nJ_J hJ) (nJ_X hXX) hR.1 hR.2 hP hD hS hl
set_option maxRecDepth 100000 in
set_option maxHeartbeats 4000000 in
/-- saying -/
theorem lw_x_3 {p : Program} {l : Launch} {e : Env} {s : State} {m : MethodId} {below : List Frame} {meth : Method} {c : Code} {b L : Nat} {xs : Nat → Int32} {D : va_G} {cG : Nat → ClassId} {tG : Nat → Nat} (CX : LCx p l s m meth c b L xs D cG tG) {h mm o i cells slots : Nat} (hi : i + 6 ≤ L) (hcs : cells + 8 ≤ room_1.cells ∧ slots + 1000 ≤ room_1.slots) (nx : NX p l e s m below meth c b D cG tG h mm o i 1812 (cells + 8) (slots + 1000)) : NX p l e s m below meth c b D cG tG h mm o i 335 cells slots := by
  refine NX_n (fun g Z σ τ A f H locs ls e0 e2 hJ hXX hR hM hP hD hS hl => ?_)
  obtain ⟨F, hF⟩ : ∃ F : Nat, 50000 ≤ F := ⟨50000, Nat.le_refl _⟩
  obtain ⟨⟨hx, hb, hr, hml, hown, hts, hX, hbl, hlocks, hgv⟩, hl0, hL, hKE, hXE⟩ := id CX
  have hts : ∀ w ∈ hU, w.before #[Value.ref b] s = true := fun w hw => hts w (hU_tbl hw)
  have hown : s.vm.findClass RL = some m.cls := hown
  subst e0
  subst e2
  have hK := (hKE g).1
  have hE := (hKE g).2
  have hA : ∀ q : Nat, s.heap.size ≤ q → AA s q := fun _ h => h
  have hbA : ¬ AA s b := Nat.not_le.mpr hbl
  refine lv_aload_n hx hb dL_law_335 rfl (lv_at hl 2 rfl) ?_
  by_cases cr : nS_ A = 20 ∨ ¬ sayF (aT A).1 (aT A).2 = none
  · refine W.widen (k := cells + 8) (n := slots + 1000) (by omega) (by omega) ?_
    obtain ⟨v, σ', τ', h1, h2, hJ'⟩ := lw_r_saying hF hJ cr
    refine cl_V (G := (cG, g, tG)) (w := (hW (cG, g, tG) Z (mfix (cG, g, tG) τ ++ oL cG o f) σ)) (w' := (hW (cG, g, tG) Z (mfix (cG, g, tG) τ ++ oL cG o f) σ')) (rv := some (.int v)) (bytes := cX11_saying) (maxL := 2) (ret := (some .int)) (C := RX11) (As := []) (rest := []) (stk := [.int v]) ⟨hx, hb, hml, hown, hts⟩ hK hE hA hP hD hS (c_X11_saying l D (cG, g, tG) Z _ σ F  (v, σ') h1) (cwV 0 hts (gwV wd_519 wd_520 wd_521 wd_1 wd_522) rfl rfl rfl hd_X11_saying ⟨Nat.le_of_ble_eq_true rfl, Nat.le_of_ble_eq_true rfl⟩) (hg_0 (cG, g, tG) Z _ σ) rfl rfl rfl hl.1 rfl (Nat.le_of_ble_eq_true rfl) dL_law_336 hcs rfl (fun H locs hP hD hS => ?_)
    exact lw_m_3 CX hi hcs nx rfl rfl h2 hJ' (hXX) hP hD hS hl
  · have cr := not_or.mp cr
    have hok := hJ.1
    have hs : nS_ A < 20 := by have := hok.1; have := cr.1; omega
    have hd0 := Classical.not_not.mp cr.2
    obtain ⟨C, σ1, σ2, τ', hCE, h2, hJ', hX'⟩ := t_saying l D (cG, g, tG) Z (mfix (cG, g, tG) τ ++ oL cG o f) σ τ A F hF hJ hXX hR hs hd0
    refine cl_VE (G := (cG, g, tG)) (w := hW (cG, g, tG) Z (mfix (cG, g, tG) τ ++ oL cG o f) σ) (C := RX11) (As := []) (rest := []) (stk := fun _ => [.int (i32 (nS_ A : Int))]) ⟨hx, hb, hml, hown, hts⟩ hK hE hA hP hD hS hCE (cwV 0 hts (gwV wd_519 wd_520 wd_521 wd_1 wd_522) rfl rfl rfl hd_X11_saying ⟨Nat.le_of_ble_eq_true rfl, Nat.le_of_ble_eq_true rfl⟩) (hg_0 (cG, g, tG) Z _ σ) rfl rfl rfl hl.1 rfl (Nat.le_of_ble_eq_true rfl) dL_law_336 ⟨by have := hcs.1; omega, by have := hcs.2; omega⟩ (fun _ => rfl) (fun q H locs hP hD hS => ?_)
    have ho : ∀ r, r < 1000 → gS (cG, g, tG) (nS_ A) (q 0) (q 1) (q 2) (q 3) r = g r := fun r hr => by
      unfold gS
      rw [if_neg (by omega), if_neg (by omega), if_neg (by omega), if_neg (by omega)]
    have hP := lw_reP ho hM hP
    have hD := lw_reD ho hM hD
    refine W.widen (k := cells + 8) (n := slots + 1000) (by omega) (by omega) ?_
    exact lw_m_3 CX hi hcs nx (ho 0 (by decide)) (ho 200 (by decide)) h2 hJ' (hX' _ _ _ _) hP hD hS hl
set_option maxRecDepth 100000 in
set_option maxHeartbeats 4000000 in
/-- law -/
theorem lw_x_12 {p : Program} {l : Launch} {e : Env} {s : State} {m : MethodId} {below : List Frame} {meth : Method} {c : Code} {b L : Nat} {xs : Nat → Int32} {D : va_G} {cG : Nat → ClassId} {tG : Nat → Nat} (CX : LCx p l s m meth c b L xs D cG tG) {h mm o i cells slots : Nat} (hi : i + 6 ≤ L) (hcs : cells + 8 ≤ room_1.cells ∧ slots + 1000 ≤ room_1.slots) (nx : NX p l e s m below meth c b D cG tG h mm o i 1812 (cells + 8) (slots + 1000)) : NX p l e s m below meth c b D cG tG h mm o i 596 cells slots := by
  refine NX_n (fun g Z σ τ A f H locs ls e0 e2 hJ hXX hR hM hP hD hS hl => ?_)
  obtain ⟨F, hF⟩ : ∃ F : Nat, 50000 ≤ F := ⟨50000, Nat.le_refl _⟩
  obtain ⟨⟨hx, hb, hr, hml, hown, hts, hX, hbl, hlocks, hgv⟩, hl0, hL, hKE, hXE⟩ := id CX
  have hts : ∀ w ∈ hU, w.before #[Value.ref b] s = true := fun w hw => hts w (hU_tbl hw)
  have hown : s.vm.findClass RL = some m.cls := hown
  subst e0
  subst e2
  have hK := (hKE g).1
  have hE := (hKE g).2
  have hA : ∀ q : Nat, s.heap.size ≤ q → AA s q := fun _ h => h
  have hbA : ¬ AA s b := Nat.not_le.mpr hbl
  refine lv_aload_n hx hb dL_law_596 rfl (lv_at hl 2 rfl) ?_
  by_cases cr : nL_ A = 12 ∨ ¬ txF (aT A).1 (aT A).2 0 = none
  · refine W.widen (k := cells + 8) (n := slots + 1000) (by omega) (by omega) ?_
    obtain ⟨v, σ', τ', h1, h2, hJ'⟩ := lw_r_law hF hJ cr
    refine cl_V (G := (cG, g, tG)) (w := (hW (cG, g, tG) Z (mfix (cG, g, tG) τ ++ oL cG o f) σ)) (w' := (hW (cG, g, tG) Z (mfix (cG, g, tG) τ ++ oL cG o f) σ')) (rv := some (.int v)) (bytes := cX11_law) (maxL := 1) (ret := (some .int)) (C := RX11) (As := []) (rest := []) (stk := [.int v]) ⟨hx, hb, hml, hown, hts⟩ hK hE hA hP hD hS (c_X11_law l D (cG, g, tG) Z _ σ F  (v, σ') h1) (cwV 0 hts (gwV wd_739 wd_740 wd_741 wd_1 wd_742) rfl rfl rfl hd_X11_law ⟨Nat.le_of_ble_eq_true rfl, Nat.le_of_ble_eq_true rfl⟩) (hg_0 (cG, g, tG) Z _ σ) rfl rfl rfl hl.1 rfl (Nat.le_of_ble_eq_true rfl) dL_law_597 hcs rfl (fun H locs hP hD hS => ?_)
    exact lw_m_12 CX hi hcs nx rfl rfl h2 hJ' (hXX) hP hD hS hl
  · have cr := not_or.mp cr
    have hok := hJ.1
    have hs : nL_ A < 12 := by have := hok.2.2.1; have := cr.1; omega
    have hd0 := Classical.not_not.mp cr.2
    obtain ⟨σ1, τ', hCE, h2, hJ', hX'⟩ := t_law l D (cG, g, tG) Z (mfix (cG, g, tG) τ ++ oL cG o f) σ τ A F hF hJ hXX hR hs hd0
    refine cl_VE (G := (cG, g, tG)) (w := hW (cG, g, tG) Z (mfix (cG, g, tG) τ ++ oL cG o f) σ) (C := RX11) (As := []) (rest := []) (stk := fun _ => [.int (i32 (nL_ A : Int))]) ⟨hx, hb, hml, hown, hts⟩ hK hE hA hP hD hS hCE (cwV 0 hts (gwV wd_739 wd_740 wd_741 wd_1 wd_742) rfl rfl rfl hd_X11_law ⟨Nat.le_of_ble_eq_true rfl, Nat.le_of_ble_eq_true rfl⟩) (hg_0 (cG, g, tG) Z _ σ) rfl rfl rfl hl.1 rfl (Nat.le_of_ble_eq_true rfl) dL_law_597 ⟨by have := hcs.1; omega, by have := hcs.2; omega⟩ (fun _ => rfl) (fun q H locs hP hD hS => ?_)
    have ho : ∀ r, r < 1000 → gW (cG, g, tG) (nL_ A) (q 0) (q 1) (q 2) r = g r := fun r hr => by
      unfold gW
      rw [if_neg (by omega), if_neg (by omega), if_neg (by omega)]
    have hP := lw_reP ho hM hP
    have hD := lw_reD ho hM hD
    refine W.widen (k := cells + 8) (n := slots + 1000) (by omega) (by omega) ?_
    exact lw_m_12 CX hi hcs nx (ho 0 (by decide)) (ho 200 (by decide)) h2 hJ' (hX' _ _ _) hP hD hS hl
set_option maxRecDepth 100000 in
set_option maxHeartbeats 4000000 in
/-- giant -/
theorem lw_x_13 {p : Program} {l : Launch} {e : Env} {s : State} {m : MethodId} {below : List Frame} {meth : Method} {c : Code} {b L : Nat} {xs : Nat → Int32} {D : va_G} {cG : Nat → ClassId} {tG : Nat → Nat} (CX : LCx p l s m meth c b L xs D cG tG) {h mm o i cells slots : Nat} (hi : i + 6 ≤ L) (hcs : cells + 8 ≤ room_1.cells ∧ slots + 1000 ≤ room_1.slots) (nx : NX p l e s m below meth c b D cG tG h mm o i 1812 (cells + 8) (slots + 1000)) : NX p l e s m below meth c b D cG tG h mm o i 609 cells slots := by
  refine NX_n (fun g Z σ τ A f H locs ls e0 e2 hJ hXX hR hM hP hD hS hl => ?_)
  obtain ⟨F, hF⟩ : ∃ F : Nat, 50000 ≤ F := ⟨50000, Nat.le_refl _⟩
  obtain ⟨⟨hx, hb, hr, hml, hown, hts, hX, hbl, hlocks, hgv⟩, hl0, hL, hKE, hXE⟩ := id CX
  have hts : ∀ w ∈ hU, w.before #[Value.ref b] s = true := fun w hw => hts w (hU_tbl hw)
  have hown : s.vm.findClass RL = some m.cls := hown
  subst e0
  subst e2
  have hK := (hKE g).1
  have hE := (hKE g).2
  have hA : ∀ q : Nat, s.heap.size ≤ q → AA s q := fun _ h => h
  have hbA : ¬ AA s b := Nat.not_le.mpr hbl
  refine lv_aload_n hx hb dL_law_609 rfl (lv_at hl 2 rfl) ?_
  by_cases cr : nG_ A = 12 ∨ ¬ txF (aT A).1 (aT A).2 1 = none
  · refine W.widen (k := cells + 8) (n := slots + 1000) (by omega) (by omega) ?_
    obtain ⟨v, σ', τ', h1, h2, hJ'⟩ := lw_r_giant hF hJ cr
    refine cl_V (G := (cG, g, tG)) (w := (hW (cG, g, tG) Z (mfix (cG, g, tG) τ ++ oL cG o f) σ)) (w' := (hW (cG, g, tG) Z (mfix (cG, g, tG) τ ++ oL cG o f) σ')) (rv := some (.int v)) (bytes := cX11_giant) (maxL := 1) (ret := (some .int)) (C := RX11) (As := []) (rest := []) (stk := [.int v]) ⟨hx, hb, hml, hown, hts⟩ hK hE hA hP hD hS (c_X11_giant l D (cG, g, tG) Z _ σ F  (v, σ') h1) (cwV 0 hts (gwV wd_758 wd_759 wd_760 wd_1 wd_761) rfl rfl rfl hd_X11_giant ⟨Nat.le_of_ble_eq_true rfl, Nat.le_of_ble_eq_true rfl⟩) (hg_0 (cG, g, tG) Z _ σ) rfl rfl rfl hl.1 rfl (Nat.le_of_ble_eq_true rfl) dL_law_610 hcs rfl (fun H locs hP hD hS => ?_)
    exact lw_m_13 CX hi hcs nx rfl rfl h2 hJ' (hXX) hP hD hS hl
  · have cr := not_or.mp cr
    have hok := hJ.1
    have hs : nG_ A < 12 := by have := hok.2.2.2.2.1; have := cr.1; omega
    have hd0 := Classical.not_not.mp cr.2
    obtain ⟨σ1, τ', hCE, h2, hJ', hX'⟩ := t_giant l D (cG, g, tG) Z (mfix (cG, g, tG) τ ++ oL cG o f) σ τ A F hF hJ hXX hR hs hd0
    refine cl_VE (G := (cG, g, tG)) (w := hW (cG, g, tG) Z (mfix (cG, g, tG) τ ++ oL cG o f) σ) (C := RX11) (As := []) (rest := []) (stk := fun _ => [.int (i32 (nG_ A : Int))]) ⟨hx, hb, hml, hown, hts⟩ hK hE hA hP hD hS hCE (cwV 0 hts (gwV wd_758 wd_759 wd_760 wd_1 wd_761) rfl rfl rfl hd_X11_giant ⟨Nat.le_of_ble_eq_true rfl, Nat.le_of_ble_eq_true rfl⟩) (hg_0 (cG, g, tG) Z _ σ) rfl rfl rfl hl.1 rfl (Nat.le_of_ble_eq_true rfl) dL_law_610 ⟨by have := hcs.1; omega, by have := hcs.2; omega⟩ (fun _ => rfl) (fun q H locs hP hD hS => ?_)
    have ho : ∀ r, r < 1000 → gH (cG, g, tG) (nG_ A) (q 0) (q 1) (q 2) r = g r := fun r hr => by
      unfold gH
      rw [if_neg (by omega), if_neg (by omega), if_neg (by omega)]
    have hP := lw_reP ho hM hP
    have hD := lw_reD ho hM hD
    refine W.widen (k := cells + 8) (n := slots + 1000) (by omega) (by omega) ?_
    exact lw_m_13 CX hi hcs nx (ho 0 (by decide)) (ho 200 (by decide)) h2 hJ' (hX' _ _ _) hP hD hS hl
set_option maxRecDepth 100000 in
set_option maxHeartbeats 4000000 in
/-- talk -/
theorem lw_x_14 {p : Program} {l : Launch} {e : Env} {s : State} {m : MethodId} {below : List Frame} {meth : Method} {c : Code} {b L : Nat} {xs : Nat → Int32} {D : va_G} {cG : Nat → ClassId} {tG : Nat → Nat} (CX : LCx p l s m meth c b L xs D cG tG) {h mm o i cells slots : Nat} (hi : i + 6 ≤ L) (hcs : cells + 8 ≤ room_1.cells ∧ slots + 1000 ≤ room_1.slots) (nx : NX p l e s m below meth c b D cG tG h mm o i 1812 (cells + 8) (slots + 1000)) : NX p l e s m below meth c b D cG tG h mm o i 622 cells slots := by
  refine NX_n (fun g Z σ τ A f H locs ls e0 e2 hJ hXX hR hM hP hD hS hl => ?_)
  obtain ⟨F, hF⟩ : ∃ F : Nat, 50000 ≤ F := ⟨50000, Nat.le_refl _⟩
  obtain ⟨⟨hx, hb, hr, hml, hown, hts, hX, hbl, hlocks, hgv⟩, hl0, hL, hKE, hXE⟩ := id CX
  have hts : ∀ w ∈ hU, w.before #[Value.ref b] s = true := fun w hw => hts w (hU_tbl hw)
  have hown : s.vm.findClass RL = some m.cls := hown
  subst e0
  subst e2
  have hK := (hKE g).1
  have hE := (hKE g).2
  have hA : ∀ q : Nat, s.heap.size ≤ q → AA s q := fun _ h => h
  have hbA : ¬ AA s b := Nat.not_le.mpr hbl
  refine lv_aload_n hx hb dL_law_622 rfl (lv_at hl 2 rfl) ?_
  refine lw_ld (k := 1) (v := (1 : Int32)) hx hb hX hbl hbA hS hl (n0 := 1) (n4 := 0) rfl rfl rfl (by decide) (by omega) hL dL_law_623 dL_law_624 dL_law_626 dL_law_627 dL_law_628 ?_
  refine lw_ld (k := 2) (v := (2 : Int32)) hx hb hX hbl hbA hS hl (n0 := 1) (n4 := 0) rfl rfl rfl (by decide) (by omega) hL dL_law_629 dL_law_630 dL_law_632 dL_law_633 dL_law_634 ?_
  refine lw_ld (k := 3) (v := (3 : Int32)) hx hb hX hbl hbA hS hl (n0 := 1) (n4 := 0) rfl rfl rfl (by decide) (by omega) hL dL_law_635 dL_law_636 dL_law_638 dL_law_639 dL_law_640 ?_
  refine lw_ld (k := 4) (v := (4 : Int32)) hx hb hX hbl hbA hS hl (n0 := 1) (n4 := 0) rfl rfl rfl (by decide) (by omega) hL dL_law_641 dL_law_642 dL_law_644 dL_law_645 dL_law_646 ?_
  by_cases cr : nK_ A = 12 ∨ ¬ okK A (xs (i + 1)).toInt (xs (i + 2)).toInt (xs (i + 3)).toInt (xs (i + 4)).toInt
  · refine W.widen (k := cells + 8) (n := slots + 1000) (by omega) (by omega) ?_
    obtain ⟨v, σ', τ', h1, h2, hJ'⟩ := lw_r_talk hF hJ cr
    refine cl_V (G := (cG, g, tG)) (w := (hW (cG, g, tG) Z (mfix (cG, g, tG) τ ++ oL cG o f) σ)) (w' := (hW (cG, g, tG) Z (mfix (cG, g, tG) τ ++ oL cG o f) σ')) (rv := some (.int v)) (bytes := cX11_talk) (maxL := 8) (ret := (some .int)) (C := RX11) (As := [.int (xs (i + 1)), .int (xs (i + 2)), .int (xs (i + 3)), .int (xs (i + 4))]) (rest := []) (stk := [.int v]) ⟨hx, hb, hml, hown, hts⟩ hK hE hA hP hD hS (c_X11_talk l D (cG, g, tG) Z _ σ F (xs (i + 1)) (xs (i + 2)) (xs (i + 3)) (xs (i + 4)) (v, σ') h1) (cwV 4 hts (gwV wd_762 wd_763 wd_764 wd_1 wd_765) rfl rfl rfl hd_X11_talk ⟨Nat.le_of_ble_eq_true rfl, Nat.le_of_ble_eq_true rfl⟩) (hg_0 (cG, g, tG) Z _ σ) rfl rfl rfl hl.1 rfl (Nat.le_of_ble_eq_true rfl) dL_law_647 hcs rfl (fun H locs hP hD hS => ?_)
    exact lw_m_14 CX hi hcs nx rfl rfl h2 hJ' (hXX) hP hD hS hl
  · have cr := not_or.mp cr
    have hok := hJ.1
    have hs : nK_ A < 12 := by have := hok.2.2.2.2.2.2.1; have := cr.1; omega
    have hk := Classical.not_not.mp cr.2
    obtain ⟨sn, hn⟩ : ∃ n : Nat, (xs (i + 1)).toInt = (n : Int) := ⟨(xs (i + 1)).toInt.toNat, by have := hk.1.1; omega⟩
    obtain ⟨kn, hkn⟩ : ∃ n : Nat, (xs (i + 3)).toInt = (n : Int) := ⟨(xs (i + 3)).toInt.toNat, by have := hk.2.2.1.1; omega⟩
    obtain ⟨gn, hgn⟩ : ∃ n : Nat, (xs (i + 4)).toInt = (n : Int) := ⟨(xs (i + 4)).toInt.toNat, by have := hk.2.2.2.1.1; omega⟩
    obtain ⟨pz, hpz⟩ : ∃ n : Int, (xs (i + 2)).toInt = n := ⟨_, rfl⟩
    have a1 : xs (i + 1) = i32 (sn : Int) := (i32_of _).trans (by rw [hn])
    have a2 : xs (i + 2) = i32 pz := (i32_of _).trans (by rw [hpz])
    have a3 : xs (i + 3) = i32 (kn : Int) := (i32_of _).trans (by rw [hkn])
    have a4 : xs (i + 4) = i32 (gn : Int) := (i32_of _).trans (by rw [hgn])
    rw [hn, hpz, hkn, hgn] at hk
    rw [a1, a2, a3, a4]
    obtain ⟨τ', hCE, h2, hJ', hX'⟩ := t_talk l D (cG, g, tG) Z (mfix (cG, g, tG) τ ++ oL cG o f) σ τ A F hF hJ hXX hR hs sn kn gn pz hk
    rw [← a1, ← a2, ← a3, ← a4] at h2
    refine cl_VE (G := (cG, g, tG)) (w := hW (cG, g, tG) Z (mfix (cG, g, tG) τ ++ oL cG o f) σ) (C := RX11) (As := [.int (i32 (sn : Int)), .int (i32 pz), .int (i32 (kn : Int)), .int (i32 (gn : Int))]) (rest := []) (stk := fun _ => [.int (i32 (nK_ A : Int))]) ⟨hx, hb, hml, hown, hts⟩ hK hE hA hP hD hS hCE (cwV 4 hts (gwV wd_762 wd_763 wd_764 wd_1 wd_765) rfl rfl rfl hd_X11_talk ⟨Nat.le_of_ble_eq_true rfl, Nat.le_of_ble_eq_true rfl⟩) (hg_0 (cG, g, tG) Z _ σ) rfl rfl rfl hl.1 rfl (Nat.le_of_ble_eq_true rfl) dL_law_647 ⟨by have := hcs.1; omega, by have := hcs.2; omega⟩ (fun _ => rfl) (fun q H locs hP hD hS => ?_)
    have ho : ∀ r, r < 1000 → gK (cG, g, tG) (nK_ A) (q 0) (q 1) r = g r := fun r hr => by
      unfold gK
      rw [if_neg (by omega), if_neg (by omega)]
    have hP := lw_reP ho hM hP
    have hD := lw_reD ho hM hD
    refine W.widen (k := cells + 8) (n := slots + 1000) (by omega) (by omega) ?_
    exact lw_m_14 CX hi hcs nx (ho 0 (by decide)) (ho 200 (by decide)) h2 hJ' (hX' _ _) hP hD hS hl
set_option maxRecDepth 100000 in
set_option maxHeartbeats 4000000 in
/-- net -/
theorem lw_x_30 {p : Program} {l : Launch} {e : Env} {s : State} {m : MethodId} {below : List Frame} {meth : Method} {c : Code} {b L : Nat} {xs : Nat → Int32} {D : va_G} {cG : Nat → ClassId} {tG : Nat → Nat} (CX : LCx p l s m meth c b L xs D cG tG) {h mm o i cells slots : Nat} (hi : i + 6 ≤ L) (hcs : cells + 8 ≤ room_1.cells ∧ slots + 1000 ≤ room_1.slots) (nx : NX p l e s m below meth c b D cG tG h mm o i 1812 (cells + 8) (slots + 1000)) : NX p l e s m below meth c b D cG tG h mm o i 1367 cells slots := by
  refine NX_n (fun g Z σ τ A f H locs ls e0 e2 hJ hXX hR hM hP hD hS hl => ?_)
  obtain ⟨F, hF⟩ : ∃ F : Nat, 50000 ≤ F := ⟨50000, Nat.le_refl _⟩
  obtain ⟨⟨hx, hb, hr, hml, hown, hts, hX, hbl, hlocks, hgv⟩, hl0, hL, hKE, hXE⟩ := id CX
  have hts : ∀ w ∈ hU, w.before #[Value.ref b] s = true := fun w hw => hts w (hU_tbl hw)
  have hown : s.vm.findClass RL = some m.cls := hown
  subst e0
  subst e2
  have hK := (hKE g).1
  have hE := (hKE g).2
  have hA : ∀ q : Nat, s.heap.size ≤ q → AA s q := fun _ h => h
  have hbA : ¬ AA s b := Nat.not_le.mpr hbl
  refine lv_aload_n hx hb dL_law_1367 rfl (lv_at hl 2 rfl) ?_
  refine lw_ld (k := 1) (v := (1 : Int32)) hx hb hX hbl hbA hS hl (n0 := 1) (n4 := 0) rfl rfl rfl (by decide) (by omega) hL dL_law_1368 dL_law_1369 dL_law_1371 dL_law_1372 dL_law_1373 ?_
  refine lw_ld (k := 2) (v := (2 : Int32)) hx hb hX hbl hbA hS hl (n0 := 1) (n4 := 0) rfl rfl rfl (by decide) (by omega) hL dL_law_1374 dL_law_1375 dL_law_1377 dL_law_1378 dL_law_1379 ?_
  by_cases cr : nN_ A = 12 ∨ ¬ okN (xs (i + 1)).toInt (xs (i + 2)).toInt
  · refine W.widen (k := cells + 8) (n := slots + 1000) (by omega) (by omega) ?_
    obtain ⟨v, σ', τ', h1, h2, hJ'⟩ := lw_r_net hJ cr
    refine cl_V (G := (cG, g, tG)) (w := (hW (cG, g, tG) Z (mfix (cG, g, tG) τ ++ oL cG o f) σ)) (w' := (hW (cG, g, tG) Z (mfix (cG, g, tG) τ ++ oL cG o f) σ')) (rv := some (.int v)) (bytes := cX11_net) (maxL := 3) (ret := (some .int)) (C := RX11) (As := [.int (xs (i + 1)), .int (xs (i + 2))]) (rest := []) (stk := [.int v]) ⟨hx, hb, hml, hown, hts⟩ hK hE hA hP hD hS (c_X11_net l D (cG, g, tG) Z _ σ (xs (i + 1)) (xs (i + 2)) (v, σ') h1) (cwV 2 hts (gwV wd_1048 wd_1049 wd_1050 wd_1 wd_1051) rfl rfl rfl hd_X11_net ⟨Nat.le_of_ble_eq_true rfl, Nat.le_of_ble_eq_true rfl⟩) (hg_0 (cG, g, tG) Z _ σ) rfl rfl rfl hl.1 rfl (Nat.le_of_ble_eq_true rfl) dL_law_1380 hcs rfl (fun H locs hP hD hS => ?_)
    exact lw_m_30 CX hi hcs nx rfl rfl h2 hJ' (hXX) hP hD hS hl
  · have cr := not_or.mp cr
    have hok := hJ.1
    have hs : nN_ A < 12 := by have := hok.2.2.2.2.2.2.2.2.1; have := cr.1; omega
    have hk := Classical.not_not.mp cr.2
    obtain ⟨n, hn⟩ : ∃ n : Nat, (xs (i + 1)).toInt = (n : Int) := ⟨(xs (i + 1)).toInt.toNat, by have := hk.1.1; omega⟩
    obtain ⟨ed, hed⟩ : ∃ n : Nat, (xs (i + 2)).toInt = (n : Int) := ⟨(xs (i + 2)).toInt.toNat, by have := hk.2.1; omega⟩
    have a1 : xs (i + 1) = i32 (n : Int) := (i32_of _).trans (by rw [hn])
    have a2 : xs (i + 2) = i32 (ed : Int) := (i32_of _).trans (by rw [hed])
    rw [hn, hed] at hk
    rw [a1, a2]
    obtain ⟨τ', hCE, h2, hJ', hX'⟩ := t_net l D (cG, g, tG) Z (mfix (cG, g, tG) τ ++ oL cG o f) σ τ A hJ hXX hR hs n ed hk
    rw [← a1, ← a2] at h2
    refine cl_VE (G := (cG, g, tG)) (w := hW (cG, g, tG) Z (mfix (cG, g, tG) τ ++ oL cG o f) σ) (C := RX11) (As := [.int (i32 (n : Int)), .int (i32 (ed : Int))]) (rest := []) (stk := fun _ => [.int (i32 (nN_ A : Int))]) ⟨hx, hb, hml, hown, hts⟩ hK hE hA hP hD hS hCE (cwV 2 hts (gwV wd_1048 wd_1049 wd_1050 wd_1 wd_1051) rfl rfl rfl hd_X11_net ⟨Nat.le_of_ble_eq_true rfl, Nat.le_of_ble_eq_true rfl⟩) (hg_0 (cG, g, tG) Z _ σ) rfl rfl rfl hl.1 rfl (Nat.le_of_ble_eq_true rfl) dL_law_1380 ⟨by have := hcs.1; omega, by have := hcs.2; omega⟩ (fun _ => rfl) (fun q H locs hP hD hS => ?_)
    have ho : ∀ r, r < 1000 → gN (cG, g, tG) (nN_ A) (q 0) (q 1) r = g r := fun r hr => by
      unfold gN
      rw [if_neg (by omega), if_neg (by omega)]
    have hP := lw_reP ho hM hP
    have hD := lw_reD ho hM hD
    refine W.widen (k := cells + 8) (n := slots + 1000) (by omega) (by omega) ?_
    exact lw_m_30 CX hi hcs nx (ho 0 (by decide)) (ho 200 (by decide)) h2 hJ' (hX' _ _) hP hD hS hl
