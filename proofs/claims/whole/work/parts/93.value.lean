/-! the law's case of value: it may throw, and the law catches it -/
theorem LW_o {G : hG} {Z : hZ} {x : Nat × va_E} {σ τ : hSt} : (LW G Z [x] σ τ).Perm (hW G Z (x :: mfix G τ) σ) := by
  unfold LW hW
  exact ((List.perm_append_singleton _ _).append_left _).append_left _
section CLSX
variable {p : Program} {l : Launch} {e : Env} {R : Room} {s : State} {m : MethodId} {args : Array Value} {below : List Frame} {meth : Method} {c : Code} {H : Heap} {locs : List Loc} {cells slots : Nat} {Q : State → Prop}
variable {pc : Nat} {ls : Array Slot} {rest st0 stk : List Value} {a : Array Value} {A0 A1 : Nat → Prop} {H0 : Heap} {mc ms : Nat} {free : Addr → Prop} {D : va_G} {tys : List (ClassId × FieldType)} {w' : va_W} {rv : Option Value}
theorem cl_SX (hr : vx_Run p l e R s m args below meth c H locs cells slots mc ms (F0 m pc ls st0) rest (Qg rv D tys w' A1 a) (fun _ _ _ => False) free) (hS : va_S A0 H0 H locs) (hA : ∀ q, q < H.size → A1 q → A0 q) (hf : ∀ q, free q → A0 q) (hstk : rv.toList ++ rest = stk)
    (kk : ∀ (H1 : Heap) (locs1 : List Loc), va_P D vwCl w' H1 → va_D A1 w' → va_S A0 H0 H1 locs1 → W p l e R s m args below meth c H1 locs1 (cells + mc) (slots + ms) Q (F0 m (pc + 3) ls stk)) : W p l e R s m args below meth c H locs cells slots Q (F0 m pc ls st0) := by
  intro T hT X
  rcases hr T hT X with ⟨v, st₀, t, T', L, h0, X', hL, e1, e2, ⟨⟨hv, hp, -, hd⟩, hz, hk⟩, st⟩ | ⟨q, st₀, t, T', L, E, ce, h0, X', hL, e1, e2, hq, -⟩
  · cases hv
    subst hstk
    rw [h0] at hz hk
    obtain ⟨t2, a1, b1⟩ := kk T'.heap (locs ++ L) (by rw [e1]; exact hp) hd
      ⟨Nat.le_trans hS.1 (by rw [e1]; exact hz), fun q h1 h2 => by rw [e1, hk q (Nat.lt_of_lt_of_le h1 hS.1) (fun z => h2 (hA q (Nat.lt_of_lt_of_le h1 hS.1) z))]; exact hS.2.1 q h1 h2, fun q hq => by
        rcases List.mem_append.mp hq with h | h
        · exact hS.2.2 q h
        · exact hf _ (hL q h)⟩ T' rfl X'
    exact ⟨t2, st t2 a1, b1⟩
  · exact hq.elim
end CLSX
set_option maxRecDepth 100000 in
theorem gL_value : GoodIn lw_tbl (va_wsS RL 99 yL_value wL) := by
  intro w hw
  rcases List.mem_append.mp hw with h | h
  · simp only [List.mem_cons, List.not_mem_nil, or_false] at h
    rcases h with rfl | rfl | rfl
    · exact ⟨hU_tbl wd_1162, hU_good wd_1162⟩
    · exact ⟨hU_tbl wd_1163, hU_good wd_1163⟩
    · exact ⟨hU_tbl wd_0, hU_good wd_0⟩
  · rcases List.mem_cons.mp h with rfl | h
    · exact ⟨by decide +kernel, Or.inl (by decide +kernel)⟩
    · exact ⟨hU_tbl h, hU_good h⟩
set_option maxRecDepth 100000 in
set_option maxHeartbeats 4000000 in
/-- value -/
theorem lw_x_18 {p : Program} {l : Launch} {e : Env} {s : State} {m : MethodId} {below : List Frame} {meth : Method} {c : Code} {b L : Nat} {xs : Nat → Int32} {D : va_G} {cG : Nat → ClassId} {tG : Nat → Nat} (CX : LCx p l s m meth c b L xs D cG tG) {h mm o i cells slots : Nat} (hi : i + 6 ≤ L) (hcs : cells + 8 ≤ room_1.cells ∧ slots + 1000 ≤ room_1.slots) (nx : NX p l e s m below meth c b D cG tG h mm o i 1812 (cells + 8) (slots + 1000)) : NX p l e s m below meth c b D cG tG h mm o i 826 cells slots := by
  intro g Z σ τ A f H locs ls e0 e2 hJ hXX hP hD hS hl
  obtain ⟨⟨hx, hb, hr, hml, hown, hts, hX, hbl, hlocks, hgv⟩, hl0, hL, hKE, hXE⟩ := id CX
  have hts0 := hts
  have hts : ∀ w ∈ hU, w.before #[Value.ref b] s = true := fun w hw => hts w (hU_tbl hw)
  have hown : s.vm.findClass RL = some m.cls := hown
  subst e0
  subst e2
  have hK := (hKE g).1
  have hE := (hKE g).2
  have hA : ∀ q : Nat, s.heap.size ≤ q → AA s q := fun _ h => h
  have hbA : ¬ AA s b := Nat.not_le.mpr hbl
  refine lv_aload_n hx hb dL_law_826 rfl (lv_at hl 2 rfl) ?_
  refine lw_ld (k := 1) (v := (1 : Int32)) hx hb hX hbl hbA hS hl (n0 := 1) (n4 := 0) rfl rfl rfl (by decide) (by omega) hL dL_law_827 dL_law_828 dL_law_830 dL_law_831 dL_law_832 ?_
  refine lw_ld (k := 2) (v := (2 : Int32)) hx hb hX hbl hbA hS hl (n0 := 1) (n4 := 0) rfl rfl rfl (by decide) (by omega) hL dL_law_833 dL_law_834 dL_law_836 dL_law_837 dL_law_838 ?_
  refine lv_aload_n hx hb dL_law_839 rfl (lv_at hl 4 rfl) ?_
  obtain ⟨τ', hq, hJ'⟩ := q_value hJ (xs (i + 1)) (xs (i + 2))
  have hP := pperm LW_o hP
  have hD := dperm LW_o hD
  have hin := cl_in hD hS hA
  have hf : cells + 1 ≤ room_1.cells ∧ slots + 6 ≤ room_1.slots := ⟨by have := hcs.1; omega, by have := hcs.2; omega⟩
  have cw : vx_CSW room_1 s #[Value.ref b] RL 99 yL_value cL_value 5 (some .int) [(0, 10, 13, 13)] wL rm_Lv 1 6 4 := vx_cwSW 4 hts0 gL_value rfl rfl rfl hd_L_value.2 ⟨Nat.le_of_ble_eq_true rfl, Nat.le_of_ble_eq_true rfl⟩
  have hpre : PreS s H (PgX [.ref (g 0), .int (xs (i + 1)), .int (xs (i + 2)), .ref o] D (cG, g, tG) (hW (cG, g, tG) Z ((o, oE (cG, g, tG) f) :: mfix (cG, g, tG) τ) σ) H.size) [.ref (g 0), .int (xs (i + 1)), .int (xs (i + 2)), .ref o] := ⟨PgX.blind, fun U hU hW => ⟨rfl, by rw [hU], by rw [hU]; exact hP, va_K.moved hW.alike hK, hD.weaken (fun _ _ _ _ => trivial), by rw [hU]; exact sE.warm hW ((hE.kept hS.2.1).narrow hin), by rw [hU]; exact xE.warm hW ((hXE.kept hS.2.1).narrow hin)⟩⟩
  rcases hq with ⟨hq1, w, hq2, hq3, hq4⟩ | ⟨hq1, hq3, hq4⟩
  · have hval : f_X11_value Z σ (xs (i + 1)) (xs (i + 2)) = some (w.toInt32, σ) := by
      unfold f_X11_value
      rw [hq1]
      show (if (1 : Int32) = 0 then none else _) = _
      rw [if_neg (by decide), hq2]
      rfl
    refine cl_SX (stk := [.int 0]) (vx_runSX (As := [.ref (g 0), .int (xs (i + 1)), .int (xs (i + 2)), .ref o]) (rest := []) (nL := 7) ⟨hx, hb, hml, hown, hts⟩ (c_L_value l D (cG, g, tG) Z (mfix (cG, g, tG) τ) σ o f (xs (i + 1)) (xs (i + 2)) w.toInt32 hval H.size) cw hpre rfl rfl hl.1 rfl (Nat.le_of_ble_eq_true rfl) dL_law_840 hf) hS (fun q _ h => hin q h) hin rfl (fun H locs hP hD hS => ?_)
    generalize w.toInt32 = v at hq3 hP hD ⊢
    refine W.widen (k := cells + 8) (n := slots + 1000) (by omega) (by omega) ?_
    have hP := pperm LW_o.symm hP
    have hD := dperm LW_o.symm (hD.weaken (fun _ q _ h => hin q.1 h))
    have hP : va_P D vwCl (LW (cG, g, tG) Z (oL cG o (vp_updL f 0 v.toInt64)) σ τ) H := hP
    have hD : va_D (AA s) (LW (cG, g, tG) Z (oL cG o (vp_updL f 0 v.toInt64)) σ τ) := hD
    refine lv_istore (lv' := [(5, .int (0 : Int32)), (4, .int (nI i)), (0, .ref b), (1, .ref (g 0)), (2, .ref (g 200)), (3, .ref o)]) hx hb dL_law_843 hl (by decide) rfl (fun ls hl => ?_)
    refine lv_aload_n hx hb dL_law_845 rfl (lv_at hl 4 rfl) ?_
    refine lw_ld (k := 1) (v := (1 : Int32)) hx hb hX hbl hbA hS hl (n0 := 2) (n4 := 1) rfl rfl rfl (by decide) (by omega) hL dL_law_846 dL_law_847 dL_law_849 dL_law_850 dL_law_851 ?_
    refine lw_ld (k := 2) (v := (2 : Int32)) hx hb hX hbl hbA hS hl (n0 := 2) (n4 := 1) rfl rfl rfl (by decide) (by omega) hL dL_law_852 dL_law_853 dL_law_855 dL_law_856 dL_law_857 ?_
    have hP := pperm (LW_m (cG, g, tG) Z (oL cG o (vp_updL f 0 v.toInt64)) σ τ) hP
    have hD := dperm (LW_m (cG, g, tG) Z (oL cG o (vp_updL f 0 v.toInt64)) σ τ) hD
    refine cl_V (G := (cG, g, tG)) (w := (mW (cG, g, tG) Z (hW (cG, g, tG) Z (oL cG o (vp_updL f 0 v.toInt64)) σ) τ)) (w' := (mW (cG, g, tG) Z (hW (cG, g, tG) Z (oL cG o (vp_updL f 0 v.toInt64)) σ) τ')) (rv := some (.int v)) (bytes := cX12_value) (maxL := 3) (ret := (some .int)) (C := RX12) (As := [.int (xs (i + 1)), .int (xs (i + 2))]) (rest := []) (stk := [.int v]) ⟨hx, hb, hml, hown, hts⟩ hK hE hA hP hD hS (c_X12_value l D (cG, g, tG) Z _ τ (xs (i + 1)) (xs (i + 2)) (v, τ') hq3) (cwV 2 hts (gwV wd_1728 wd_1729 wd_1730 wd_11 wd_1731) rfl rfl rfl hd_X12_value ⟨Nat.le_of_ble_eq_true rfl, Nat.le_of_ble_eq_true rfl⟩) (mg_200 (cG, g, tG) Z _ τ) rfl rfl rfl hl.1 rfl (Nat.le_of_ble_eq_true rfl) dL_law_858 hcs rfl (fun H locs hP hD hS => ?_)
    refine lv_istore (lv' := [(6, .int v), (5, .int (0 : Int32)), (4, .int (nI i)), (0, .ref b), (1, .ref (g 0)), (2, .ref (g 200)), (3, .ref o)]) hx hb dL_law_861 hl (by decide) rfl (fun ls hl => ?_)
    refine lv_aload_n hx hb dL_law_863 rfl (lv_at hl 5 rfl) ?_
    refine cl_V (G := (cG, g, tG)) (w := (mW (cG, g, tG) Z (hW (cG, g, tG) Z (oL cG o (vp_updL f 0 v.toInt64)) σ) τ')) (w' := (mW (cG, g, tG) Z (hW (cG, g, tG) Z (oL cG o (vp_updL f 0 v.toInt64)) σ) τ')) (rv := some (.int (τ'.1 200 0))) (bytes := cX12_thrown) (maxL := 1) (ret := (some .int)) (C := RX12) (As := []) (rest := []) (stk := [.int (τ'.1 200 0)]) ⟨hx, hb, hml, hown, hts⟩ hK hE hA hP hD hS (c_X12_thrown l D (cG, g, tG) Z _ τ' _ rfl) (cwV 0 hts (gwV wd_1425 wd_1426 wd_1427 wd_11 wd_1428) rfl rfl rfl hd_X12_thrown ⟨Nat.le_of_ble_eq_true rfl, Nat.le_of_ble_eq_true rfl⟩) (mg_200 (cG, g, tG) Z _ τ') rfl rfl rfl hl.1 rfl (Nat.le_of_ble_eq_true rfl) dL_law_864 hcs rfl (fun H locs hP hD hS => ?_)
    have hP := pperm (LW_m (cG, g, tG) Z (oL cG o (vp_updL f 0 v.toInt64)) σ τ').symm hP
    have hD := dperm (LW_m (cG, g, tG) Z (oL cG o (vp_updL f 0 v.toInt64)) σ τ').symm hD
    refine lv_iload hx hb dL_law_867 (lv_at hl 1 rfl) ?_
    refine lv_icmp_eq (tgt := 874) hx hb dL_law_869 (by decide) (fun _ => ?_) (fun c1 => absurd hq4 c1)
    refine lv_iload hx hb dL_law_874 (lv_at hl 1 rfl) ?_
    refine lv_if_ne (tgt := 891) hx hb dL_law_876 (by decide) (fun c1 => absurd rfl c1) (fun _ => ?_)
    refine lv_aload_n hx hb dL_law_879 rfl (lv_at hl 6 rfl) ?_
    refine lv_iconst (v := (0 : Int32)) hx hb dL_law_880 (by decide) ?_
    have hP0 := pperm yin.symm (pperm LW_o hP)
    refine va_laldE hx hb hK hP0 0 1 rfl rfl (show vp_in (0 : Int32) 1 by unfold vp_in; decide) dL_law_881 (v := (v).toInt64) rfl ?_
    refine lv_iload hx hb dL_law_882 (lv_at hl 0 rfl) ?_
    refine lv_i2l (v := (v).toInt64) hx hb dL_law_884 rfl ?_
    refine W.lcmp hx hb dL_law_885 ?_
    refine lv_if_eq (tgt := 891) hx hb dL_law_886 (by decide) (fun _ => ?_) (fun c1 => absurd ((lg_cmp_eq _ _).mpr rfl) c1)
    refine lv_goto (tgt := 1812) hx hb dL_law_891 (by decide) ?_
    exact nx g Z σ τ' A (vp_updL f 0 v.toInt64) H locs ls rfl rfl hJ' hXX hP hD hS (lv_sub hl [2, 3, 4, 5, 6] rfl)
  · refine cl_SX (stk := [.int 1]) (vx_runSX (As := [.ref (g 0), .int (xs (i + 1)), .int (xs (i + 2)), .ref o]) (rest := []) (nL := 7) ⟨hx, hb, hml, hown, hts⟩ (x_L_value l hl0 D (cG, g, tG) Z (mfix (cG, g, tG) τ) σ o f (xs (i + 1)) (xs (i + 2)) hq1 H.size) cw hpre rfl rfl hl.1 rfl (Nat.le_of_ble_eq_true rfl) dL_law_840 hf) hS (fun q _ h => hin q h) hin rfl (fun H locs hP hD hS => ?_)
    refine W.widen (k := cells + 8) (n := slots + 1000) (by omega) (by omega) ?_
    have hP := pperm LW_o.symm hP
    have hD := dperm LW_o.symm (hD.weaken (fun _ q _ h => hin q.1 h))
    have hP : va_P D vwCl (LW (cG, g, tG) Z (oL cG o f) σ τ) H := hP
    have hD : va_D (AA s) (LW (cG, g, tG) Z (oL cG o f) σ τ) := hD
    refine lv_istore (lv' := [(5, .int (1 : Int32)), (4, .int (nI i)), (0, .ref b), (1, .ref (g 0)), (2, .ref (g 200)), (3, .ref o)]) hx hb dL_law_843 hl (by decide) rfl (fun ls hl => ?_)
    refine lv_aload_n hx hb dL_law_845 rfl (lv_at hl 4 rfl) ?_
    refine lw_ld (k := 1) (v := (1 : Int32)) hx hb hX hbl hbA hS hl (n0 := 2) (n4 := 1) rfl rfl rfl (by decide) (by omega) hL dL_law_846 dL_law_847 dL_law_849 dL_law_850 dL_law_851 ?_
    refine lw_ld (k := 2) (v := (2 : Int32)) hx hb hX hbl hbA hS hl (n0 := 2) (n4 := 1) rfl rfl rfl (by decide) (by omega) hL dL_law_852 dL_law_853 dL_law_855 dL_law_856 dL_law_857 ?_
    have hP := pperm (LW_m (cG, g, tG) Z (oL cG o f) σ τ) hP
    have hD := dperm (LW_m (cG, g, tG) Z (oL cG o f) σ τ) hD
    refine cl_V (G := (cG, g, tG)) (w := (mW (cG, g, tG) Z (hW (cG, g, tG) Z (oL cG o f) σ) τ)) (w' := (mW (cG, g, tG) Z (hW (cG, g, tG) Z (oL cG o f) σ) τ')) (rv := some (.int (0 : Int32))) (bytes := cX12_value) (maxL := 3) (ret := (some .int)) (C := RX12) (As := [.int (xs (i + 1)), .int (xs (i + 2))]) (rest := []) (stk := [.int (0 : Int32)]) ⟨hx, hb, hml, hown, hts⟩ hK hE hA hP hD hS (c_X12_value l D (cG, g, tG) Z _ τ (xs (i + 1)) (xs (i + 2)) ((0 : Int32), τ') hq3) (cwV 2 hts (gwV wd_1728 wd_1729 wd_1730 wd_11 wd_1731) rfl rfl rfl hd_X12_value ⟨Nat.le_of_ble_eq_true rfl, Nat.le_of_ble_eq_true rfl⟩) (mg_200 (cG, g, tG) Z _ τ) rfl rfl rfl hl.1 rfl (Nat.le_of_ble_eq_true rfl) dL_law_858 hcs rfl (fun H locs hP hD hS => ?_)
    refine lv_istore (lv' := [(6, .int (0 : Int32)), (5, .int (1 : Int32)), (4, .int (nI i)), (0, .ref b), (1, .ref (g 0)), (2, .ref (g 200)), (3, .ref o)]) hx hb dL_law_861 hl (by decide) rfl (fun ls hl => ?_)
    refine lv_aload_n hx hb dL_law_863 rfl (lv_at hl 5 rfl) ?_
    refine cl_V (G := (cG, g, tG)) (w := (mW (cG, g, tG) Z (hW (cG, g, tG) Z (oL cG o f) σ) τ')) (w' := (mW (cG, g, tG) Z (hW (cG, g, tG) Z (oL cG o f) σ) τ')) (rv := some (.int (τ'.1 200 0))) (bytes := cX12_thrown) (maxL := 1) (ret := (some .int)) (C := RX12) (As := []) (rest := []) (stk := [.int (τ'.1 200 0)]) ⟨hx, hb, hml, hown, hts⟩ hK hE hA hP hD hS (c_X12_thrown l D (cG, g, tG) Z _ τ' _ rfl) (cwV 0 hts (gwV wd_1425 wd_1426 wd_1427 wd_11 wd_1428) rfl rfl rfl hd_X12_thrown ⟨Nat.le_of_ble_eq_true rfl, Nat.le_of_ble_eq_true rfl⟩) (mg_200 (cG, g, tG) Z _ τ') rfl rfl rfl hl.1 rfl (Nat.le_of_ble_eq_true rfl) dL_law_864 hcs rfl (fun H locs hP hD hS => ?_)
    have hP := pperm (LW_m (cG, g, tG) Z (oL cG o f) σ τ').symm hP
    have hD := dperm (LW_m (cG, g, tG) Z (oL cG o f) σ τ').symm hD
    refine lv_iload hx hb dL_law_867 (lv_at hl 1 rfl) ?_
    refine lv_icmp_eq (tgt := 874) hx hb dL_law_869 (by decide) (fun _ => ?_) (fun c1 => absurd hq4 c1)
    refine lv_iload hx hb dL_law_874 (lv_at hl 1 rfl) ?_
    refine lv_if_ne (tgt := 891) hx hb dL_law_876 (by decide) (fun _ => ?_) (fun c1 => absurd c1 (by decide))
    refine lv_goto (tgt := 1812) hx hb dL_law_891 (by decide) ?_
    exact nx g Z σ τ' A f H locs ls rfl rfl hJ' hXX hP hD hS (lv_sub hl [2, 3, 4, 5, 6] rfl)
