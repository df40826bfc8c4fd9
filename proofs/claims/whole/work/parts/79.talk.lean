/-! LiarHall.talk, where one is told -/
def gK (G : hG) (k a e : Nat) : Nat → Nat := fun r => if r = 8000 + k then a else if r = 10003 then e else G.2.1 r
theorem gK_n {A : HA} {G : hG} {a e : Nat} (hA : okA A) (hs : nK_ A < 12) : nwG A G (gK G (nK_ A) a e) (nwK (nK_ A)) 10003 := ⟨nwK_nt hA hs, fun r h1 h2 => by
  have h3 : r ≠ 8000 + nK_ A := by
    simpa only [nwK, List.mem_cons, List.not_mem_nil, or_false] using h1
  unfold gK
  rw [if_neg h3, if_neg h2]⟩
theorem gK_0 {G : hG} {k a e : Nat} (hs : k < 12) : gK G k a e (8000 + k) = a ∧ gK G k a e 10003 = e := by
  unfold gK
  refine ⟨if_pos rfl, ?_⟩
  rw [if_neg (by omega), if_pos rfl]
abbrev rm_X11talk : Room := { frames := 14, cells := 2, slots := 60, locals := 500 }
set_option maxRecDepth 100000 in
set_option maxHeartbeats 8000000 in
theorem e_X11_talk (l : Launch) (D : va_G) (G : hG) (Z : hZ) (Y : va_W) (σ τ : hSt) (A : HA) (F : Nat) (hF : 50000 ≤ F) (hJ : J A Z σ τ) (hX : JX A G Z) (hR : RF A σ) (hs : nK_ A < 12) (s k gg : Nat) (p : Int) (h1 : s < nS_ A) (h3 : k < nL_ A) (h4 : gg < nG_ A) (hp : 3 ≤ p ∧ p ≤ 1000000007) (hpp : nPr p.toNat) (hcn : ∀ j, j < 6 → (cnL j (fS A s) : Int) < p) :
    CE l yX11_talk cX11_talk 8 (some .int) rm_X11talk D G 2 60 [.ref (G.2.1 0), .int (i32 (s : Int)), .int (i32 p), .int (i32 (k : Int)), .int (i32 (gg : Int))] (hW G Z Y σ) (fun q => hW (wG G (gK G (nK_ A) (q 0) (q 1))) (zK2 Z (nK_ A) (s, p, k, gg) (capN (Z.2.1 10003) (nK_ A))) Y σ) (fun _ => some (.int (i32 (nK_ A : Int)))) := by
  have c11 := hJ.1.1
  have c12 := hJ.1.2.2.1
  have c13 := hJ.1.2.2.2.2.1
  have hC := hJ.1.2.1 s h1
  obtain ⟨⟨y1, y2⟩, ⟨y3, y4⟩, ⟨y5, y6⟩, -, -⟩ := hJ.2.1
  have z1 := y2 s h1
  have z3 := y4 k h3
  have z4 := y6 gg h4
  have hsa : f_X11_sayingAt Z σ (i32 (s : Int)) = some (some (1000 + s)) := p_sayAt y1 (by omega) h1 z1.1
  have hta : f_X11_textAt Z σ 39 (i32 (k : Int)) = some (some (4000 + k)) := p_textAt y3 (by omega) h3 z3.1
  have htb : f_X11_textAt Z σ 40 (i32 (gg : Int)) = some (some (5000 + gg)) := p_textAt y5 (by omega) h4 z4.1
  have hmo : f_X11_isModulus F (i32 p) = some 1 := by
    rw [p_isMod (by omega) (by omega)]
    have e : prM p = 1 := by
      unfold prM
      rw [if_pos hp]
      exact pri_t hpp
    rw [e]
  obtain ⟨hms, -, -⟩ := p_mostSteep (F := F) (σ := σ) (s := 1000 + s) (sp := fun j => (cnL j (fS A s) : Int)) (by omega) z1.2.2.2.2.2.1 (fun j hj => ⟨z1.2.2.2.2.2.2 j hj, by omega, by have := cn_100 hj hC.2; omega⟩)
  have hmx : mxI (fun j => (cnL j (fS A s) : Int)) 6 0 0 < p := by
    rcases (mxI_all (sp := fun j => (cnL j (fS A s) : Int)) 6 0 0).2.2 with e | ⟨j, -, hj, e⟩
    · rw [e]; omega
    · rw [e]; exact hcn j (by omega)
  have hm0 := (mxI_all (sp := fun j => (cnL j (fS A s) : Int)) 6 0 0).1
  have hli := hX.li (41, 10003, 8000, nK_ A) (by simp [liL])
  have hsz : f_Jx4a65c_size_8abf5 Z σ 41 = some (i32 (nK_ A : Int)) := congrArg some hli.1
  refine CE.mk (cc := cX11_talk) (maxL := 8) (ret := some .int) (own := RX11) (plainFor_of_name (by decide)) rfl (Nat.le_of_ble_eq_true rfl) ?_
  intro p_ e s_ m args below meth c A0 ls C0 _ hA hP hD hl
  obtain ⟨hx, hb, hr, hml, hown, hts, hlocks, hK, hE⟩ := id C0
  have hS : va_S A0 s_.heap s_.heap [] := va_S.rf
  have hl : lv_has ls 8 [(0, .ref (G.2.1 0)), (1, .int (i32 (s : Int))), (2, .int (i32 p)), (3, .int (i32 (k : Int))), (4, .int (i32 (gg : Int)))] := hl
  refine lv_aload_n hx hb dX11_talk_0 rfl (lv_at hl 0 rfl) ?_
  refine lv_iload_n hx hb dX11_talk_1 rfl (lv_at hl 1 rfl) ?_
  refine cl_V (G := G) (w := (hW G Z Y σ)) (w' := (hW G Z Y σ)) (rv := some (.ref (G.2.1 (1000 + s)))) (bytes := cX11_sayingAt) (maxL := 2) (ret := (some (.object "LiarHall$Saying"))) (C := RX11) (As := [.int (i32 (s : Int))]) (rest := []) (stk := [.ref (G.2.1 (1000 + s))]) ⟨hx, hb, hml, hown, hts⟩ hK hE hA hP hD hS (c_X11_sayingAt l D G Z Y σ _ _ hsa) (cwV 1 hts (gwV wd_657 wd_659 wp_19 wd_1 wd_660) rfl rfl rfl hd_X11_sayingAt ⟨Nat.le_of_ble_eq_true rfl, Nat.le_of_ble_eq_true rfl⟩) (hg_0 G Z Y σ) rfl rfl rfl hl.1 rfl (Nat.le_of_ble_eq_true rfl) dX11_talk_2 ⟨Nat.le_of_ble_eq_true rfl, Nat.le_of_ble_eq_true rfl⟩ rfl (fun H locs hP hD hS => ?_)
  refine lv_astore (lv' := [(5, .ref (G.2.1 (1000 + s))), (0, .ref (G.2.1 0)), (1, .int (i32 (s : Int))), (2, .int (i32 p)), (3, .int (i32 (k : Int))), (4, .int (i32 (gg : Int)))]) hx hb dX11_talk_5 hl (by decide) rfl (fun ls hl => ?_)
  refine lv_aload_n hx hb dX11_talk_7 rfl (lv_at hl 1 rfl) ?_
  refine va_get (D := D) (ci := 11) (v := .ref (G.2.1 39)) (C := RX11) (T := TX11) (N := 16) hx hb hts inU_X11 hown hK hP _ (hg_0 G Z Y σ) rfl 9 (by decide) (hts _ wd_244) (fun _ h9 => h9) rfl dX11_talk_8 ?_
  refine lv_iload_n hx hb dX11_talk_11 rfl (lv_at hl 4 rfl) ?_
  refine cl_S (w := (hW G Z Y σ)) (w' := (hW G Z Y σ)) (rv := some (.ref (G.2.1 (4000 + k)))) (bytes := cX11_textAt) (maxL := 2) (ret := (some (.object "LiarHall$Text"))) (As := [.ref (G.2.1 39), .int (i32 (k : Int))]) (rest := []) (stk := [.ref (G.2.1 (4000 + k))]) ⟨hx, hb, hml, hown, hts⟩ hK hE hA hP hD hS (c_X11_textAt l D G Z Y σ 39 (rfl : isLi 39 = true) _ _ hta) (mkS hts wd_766 wd_767 wd_1 wd_768 rfl rfl hd_X11_textAt ⟨Nat.le_of_ble_eq_true rfl, Nat.le_of_ble_eq_true rfl⟩) rfl hl.1 rfl (Nat.le_of_ble_eq_true rfl) dX11_talk_12 ⟨Nat.le_of_ble_eq_true rfl, Nat.le_of_ble_eq_true rfl⟩ rfl (fun H locs hP hD hS => ?_)
  refine lv_astore (lv' := [(6, .ref (G.2.1 (4000 + k))), (5, .ref (G.2.1 (1000 + s))), (0, .ref (G.2.1 0)), (1, .int (i32 (s : Int))), (2, .int (i32 p)), (3, .int (i32 (k : Int))), (4, .int (i32 (gg : Int)))]) hx hb dX11_talk_15 hl (by decide) rfl (fun ls hl => ?_)
  refine lv_aload_n hx hb dX11_talk_17 rfl (lv_at hl 2 rfl) ?_
  refine va_get (D := D) (ci := 11) (v := .ref (G.2.1 40)) (C := RX11) (T := TX11) (N := 16) hx hb hts inU_X11 hown hK hP _ (hg_0 G Z Y σ) rfl 10 (by decide) (hts _ wd_245) (fun _ h9 => h9) rfl dX11_talk_18 ?_
  refine lv_iload hx hb dX11_talk_21 (lv_at hl 6 rfl) ?_
  refine cl_S (w := (hW G Z Y σ)) (w' := (hW G Z Y σ)) (rv := some (.ref (G.2.1 (5000 + gg)))) (bytes := cX11_textAt) (maxL := 2) (ret := (some (.object "LiarHall$Text"))) (As := [.ref (G.2.1 40), .int (i32 (gg : Int))]) (rest := []) (stk := [.ref (G.2.1 (5000 + gg))]) ⟨hx, hb, hml, hown, hts⟩ hK hE hA hP hD hS (c_X11_textAt l D G Z Y σ 40 (rfl : isLi 40 = true) _ _ htb) (mkS hts wd_766 wd_767 wd_1 wd_768 rfl rfl hd_X11_textAt ⟨Nat.le_of_ble_eq_true rfl, Nat.le_of_ble_eq_true rfl⟩) rfl hl.1 rfl (Nat.le_of_ble_eq_true rfl) dX11_talk_23 ⟨Nat.le_of_ble_eq_true rfl, Nat.le_of_ble_eq_true rfl⟩ rfl (fun H locs hP hD hS => ?_)
  refine lv_astore (lv' := [(7, .ref (G.2.1 (5000 + gg))), (6, .ref (G.2.1 (4000 + k))), (5, .ref (G.2.1 (1000 + s))), (0, .ref (G.2.1 0)), (1, .int (i32 (s : Int))), (2, .int (i32 p)), (3, .int (i32 (k : Int))), (4, .int (i32 (gg : Int)))]) hx hb dX11_talk_26 hl (by decide) rfl (fun ls hl => ?_)
  refine lv_aload hx hb dX11_talk_28 (lv_at hl 2 rfl) ?_
  refine lv_ifnull hx hb dX11_talk_30 ?_
  refine lv_aload hx hb dX11_talk_33 (lv_at hl 1 rfl) ?_
  refine lv_ifnull hx hb dX11_talk_35 ?_
  refine lv_aload hx hb dX11_talk_38 (lv_at hl 0 rfl) ?_
  refine lv_ifnull hx hb dX11_talk_40 ?_
  refine lv_aload_n hx hb dX11_talk_43 rfl (lv_at hl 3 rfl) ?_
  refine va_get (D := D) (ci := 11) (v := .ref (G.2.1 41)) (C := RX11) (T := TX11) (N := 16) hx hb hts inU_X11 hown hK hP _ (hg_0 G Z Y σ) rfl 11 (by decide) (hts _ wd_246) (fun _ h9 => h9) rfl dX11_talk_44 ?_
  refine cl_V (G := G) (w := (hW G Z Y σ)) (w' := (hW G Z Y σ)) (rv := some (.int (i32 (nK_ A : Int)))) (bytes := cJx4a65c_size_8abf5) (maxL := 1) (ret := (some .int)) (C := RJx4a65c) (As := []) (rest := []) (stk := [.int (i32 (nK_ A : Int))]) ⟨hx, hb, hml, hown, hts⟩ hK hE hA hP hD hS (c_Jx4a65c_size_8abf5 l D G Z Y σ 41 (rfl : isLi 41 = true) _ hsz) (cwV 0 hts (gwV wd_523 wd_524 wd_525 wd_10 wd_526) rfl rfl rfl hd_Jx4a65c_size_8abf5 ⟨Nat.le_of_ble_eq_true rfl, Nat.le_of_ble_eq_true rfl⟩) (hg_41 G Z Y σ) rfl rfl rfl hl.1 rfl (Nat.le_of_ble_eq_true rfl) dX11_talk_47 ⟨Nat.le_of_ble_eq_true rfl, Nat.le_of_ble_eq_true rfl⟩ rfl (fun H locs hP hD hS => ?_)
  refine lv_bipush (v := 12) hx hb dX11_talk_50 (by decide) ?_
  refine lv_icmp_lt (tgt := 57) hx hb dX11_talk_52 (by decide) (fun _ => ?_) (fun c1 => absurd ((ltI (b := 12) (by omega)).mpr (by omega)) c1)
  refine lv_iload_n hx hb dX11_talk_57 rfl (lv_at hl 5 rfl) ?_
  refine cl_S (w := (hW G Z Y σ)) (w' := (hW G Z Y σ)) (rv := some (.int 1)) (bytes := cX11_isModulus) (maxL := 1) (ret := (some .boolean)) (As := [.int (i32 p)]) (rest := []) (stk := [.int 1]) ⟨hx, hb, hml, hown, hts⟩ hK hE hA hP hD hS (c_X11_isModulus l D G _ F _ _ hmo) (mkS hts wd_697 wd_698 wd_1 wd_699 rfl rfl hd_X11_isModulus ⟨Nat.le_of_ble_eq_true rfl, Nat.le_of_ble_eq_true rfl⟩) rfl hl.1 rfl (Nat.le_of_ble_eq_true rfl) dX11_talk_58 ⟨Nat.le_of_ble_eq_true rfl, Nat.le_of_ble_eq_true rfl⟩ rfl (fun H locs hP hD hS => ?_)
  refine lv_if_eq (tgt := 73) hx hb dX11_talk_61 (by decide) (fun c1 => absurd c1 (by decide)) (fun _ => ?_)
  refine lv_iload_n hx hb dX11_talk_64 rfl (lv_at hl 5 rfl) ?_
  refine lv_aload hx hb dX11_talk_65 (lv_at hl 2 rfl) ?_
  obtain ⟨js, hjs⟩ : ∃ j : Nat, (hW G Z Y σ)[j]? = some (G.2.1 (1000 + s), .inr (5, [.ref (G.2.1 (1000 + s + 1000)), .ref (G.2.1 (1000 + s + 2000)), .int (Z.2.2.1 (1000 + s) 2), .int (Z.2.2.1 (1000 + s) 3), .int (Z.2.2.1 (1000 + s) 4)])) := by
    rw [← hd_sa (G := G) (Z := Z) (r := 1000 + s) (by omega)]
    exact List.getElem?_of_mem (List.mem_append_right _ (List.mem_append_left _ (List.mem_map.mpr ⟨1000 + s, (sa_iff.mp z1.1).1, rfl⟩)))
  refine cl_V (G := G) (w := (hW G Z Y σ)) (w' := (hW G Z Y σ)) (rv := some (.int (i32 (mxI (fun j => (cnL j (fS A s) : Int)) 6 0 0)))) (bytes := cX4_mostSteep) (maxL := 6) (ret := (some .int)) (C := RX4) (As := []) (rest := [.int (i32 p)]) (stk := [.int (i32 (mxI (fun j => (cnL j (fS A s) : Int)) 6 0 0)), .int (i32 p)]) ⟨hx, hb, hml, hown, hts⟩ hK hE hA hP hD hS (c_X4_mostSteep l D G Z Y σ F (1000 + s) z1.1 _ hms) (cwV 0 hts (gwV wd_769 wd_770 wd_771 wd_18 wd_772) rfl rfl rfl hd_X4_mostSteep ⟨Nat.le_of_ble_eq_true rfl, Nat.le_of_ble_eq_true rfl⟩) hjs rfl rfl rfl hl.1 rfl (Nat.le_of_ble_eq_true rfl) dX11_talk_67 ⟨Nat.le_of_ble_eq_true rfl, Nat.le_of_ble_eq_true rfl⟩ rfl (fun H locs hP hD hS => ?_)
  refine lv_icmp_gt (tgt := 75) hx hb dX11_talk_70 (by decide) (fun _ => ?_) (fun c1 => absurd ((ltI (by omega)).mpr hmx) c1)
  refine lv_aload_n hx hb dX11_talk_75 rfl (lv_at hl 3 rfl) ?_
  refine va_get (D := D) (ci := 11) (v := .ref (G.2.1 41)) (C := RX11) (T := TX11) (N := 16) hx hb hts inU_X11 hown hK hP _ (hg_0 G Z Y σ) rfl 11 (by decide) (hts _ wd_246) (fun _ h9 => h9) rfl dX11_talk_76 ?_
  refine va_new (ci := 7) (fs := [.null, .int (0 : Int32), .null, .null]) (C := RX7) (T := TX7) (N := 4) hx hb hts inU_X7 tyX7 tyX7_ok hown (hts _ wd_773) (hts _ wd_774) (hts _ wd_24) hK hP hD hS hA rfl (fun j hj => by rcases (show j = 0 ∨ j = 1 ∨ j = 2 ∨ j = 3 by omega) with rfl | rfl | rfl | rfl <;> rfl) (Nat.le_of_ble_eq_true rfl) (Nat.le_of_ble_eq_true rfl) dX11_talk_79 (fun q1 H hP hD hS => ?_)
  have hP := pfront hP
  have hD := dfront hD
  refine lv_dup hx hb dX11_talk_82 rfl ?_
  refine lv_aload hx hb dX11_talk_83 (lv_at hl 2 rfl) ?_
  refine lv_iload_n hx hb dX11_talk_85 rfl (lv_at hl 5 rfl) ?_
  refine lv_aload hx hb dX11_talk_86 (lv_at hl 1 rfl) ?_
  refine lv_aload hx hb dX11_talk_88 (lv_at hl 0 rfl) ?_
  refine cl_IE (w := (q1, .inr (7, [.null, .int (0 : Int32), .null, .null])) :: hW G Z Y σ) (rv := fun _ => none) (bytes := cX7_init) (maxL := 5) (As := [.ref (G.2.1 (1000 + s)), .int (i32 p), .ref (G.2.1 (4000 + k)), .ref (G.2.1 (5000 + gg))]) (rest := [.ref q1, .ref (G.2.1 41)]) (stk := fun _ => [.ref q1, .ref (G.2.1 41)]) ⟨hx, hb, hml, hown, hts⟩ hK hE hA hP hD hS (e_X7_init l D G (hW G Z Y σ) q1 (G.2.1 (1000 + s)) (i32 p) (G.2.1 (4000 + k)) (G.2.1 (5000 + gg))) (mkI hts wd_775 wd_776 wd_24 wd_777 rfl rfl rfl hd_X7_init ⟨Nat.le_of_ble_eq_true rfl, Nat.le_of_ble_eq_true rfl⟩) rfl hl.1 rfl (Nat.le_of_ble_eq_true rfl) dX11_talk_90 ⟨Nat.le_of_ble_eq_true rfl, Nat.le_of_ble_eq_true rfl⟩ (fun _ => rfl) (fun qq H locs hP hD hS => ?_)
  have hP : va_P D vwCl ([(q1, .inr (7, [.ref (G.2.1 (1000 + s)), .int (i32 p), .ref (G.2.1 (4000 + k)), .ref (G.2.1 (5000 + gg))]))] ++ hW G Z Y σ) H := hP
  have hD : va_D A0 ([(q1, .inr (7, [.ref (G.2.1 (1000 + s)), .int (i32 p), .ref (G.2.1 (4000 + k)), .ref (G.2.1 (5000 + gg))]))] ++ hW G Z Y σ) := hD
  refine cl_add (Nw := [(q1, .inr (7, [.ref (G.2.1 (1000 + s)), .int (i32 p), .ref (G.2.1 (4000 + k)), .ref (G.2.1 (5000 + gg))]))]) (lr := 41) (er := 10003) (base := 8000) (c := nK_ A) (qv := q1) (ci := 7) (cj := 3) (kv := 0) ⟨hx, hb, hml, hown, hts⟩ hts hK hE hA hP hD hS (by decide) (by decide) hli (by omega) rfl rfl (fun i hi => ?_) rfl hl.1 (Nat.le_of_ble_eq_true rfl) dX11_talk_93 ⟨Nat.le_of_ble_eq_true rfl, Nat.le_of_ble_eq_true rfl⟩ ⟨Nat.le_of_ble_eq_true rfl, Nat.le_of_ble_eq_true rfl⟩ (fun E' H locs hP hD hS => ?_)
  · obtain ⟨a1, -⟩ := hJ.2.1.2.2.2.1.2 i hi
    have a1 := ta_iff.mp a1
    exact ⟨a1.1, by omega, _, hd_ta (by omega)⟩
  have hn2 := gK_n (G := G) (a := q1) (e := E') hJ.1 hs
  have hN2 : [(q1, .inr (7, [.ref (G.2.1 (1000 + s)), .int (i32 p), .ref (G.2.1 (4000 + k)), .ref (G.2.1 (5000 + gg))]))] = (nwK (nK_ A)).map (fun r => (gK G (nK_ A) q1 E' r, hd (wG G (gK G (nK_ A) q1 E')) (zK2 Z (nK_ A) (s, p, k, gg) (capN (Z.2.1 10003) (nK_ A))) r)) := by
    have d0 : hd (wG G (gK G (nK_ A) q1 E')) (zK2 Z (nK_ A) (s, p, k, gg) (capN (Z.2.1 10003) (nK_ A))) (8000 + nK_ A) = .inr (7, [.ref (G.2.1 (1000 + s)), .int (i32 p), .ref (G.2.1 (4000 + k)), .ref (G.2.1 (5000 + gg))]) := by
      rw [hd_ta (by omega)]
      have k0 : (zK2 Z (nK_ A) (s, p, k, gg) (capN (Z.2.1 10003) (nK_ A))).2.2.2 (8000 + nK_ A) 0 = some (1000 + s) := by
        show (if 8000 + nK_ A = 41 then _ else if 8000 + nK_ A = 10003 then _ else if 8000 + nK_ A = 8000 + nK_ A then (if 0 = 0 then _ else _) else _) = _
        rw [if_neg (by omega), if_neg (by omega), if_pos rfl, if_pos rfl]
      have k2 : (zK2 Z (nK_ A) (s, p, k, gg) (capN (Z.2.1 10003) (nK_ A))).2.2.2 (8000 + nK_ A) 2 = some (4000 + k) := by
        show (if 8000 + nK_ A = 41 then _ else if 8000 + nK_ A = 10003 then _ else if 8000 + nK_ A = 8000 + nK_ A then (if 2 = 0 then _ else if 2 = 2 then _ else _) else _) = _
        rw [if_neg (by omega), if_neg (by omega), if_pos rfl, if_neg (by decide), if_pos rfl]
      have k3 : (zK2 Z (nK_ A) (s, p, k, gg) (capN (Z.2.1 10003) (nK_ A))).2.2.2 (8000 + nK_ A) 3 = some (5000 + gg) := by
        show (if 8000 + nK_ A = 41 then _ else if 8000 + nK_ A = 10003 then _ else if 8000 + nK_ A = 8000 + nK_ A then (if 3 = 0 then _ else if 3 = 2 then _ else if 3 = 3 then _ else _) else _) = _
        rw [if_neg (by omega), if_neg (by omega), if_pos rfl, if_neg (by decide), if_neg (by decide), if_pos rfl]
      have k1 : (zK2 Z (nK_ A) (s, p, k, gg) (capN (Z.2.1 10003) (nK_ A))).2.2.1 (8000 + nK_ A) 1 = i32 p := by
        show (if 8000 + nK_ A = 41 then _ else if 8000 + nK_ A = 8000 + nK_ A then (if 1 = 1 then _ else _) else _) = _
        rw [if_neg (by omega), if_pos rfl, if_pos rfl]
      rw [k0, k1, k2, k3]
      have g1 : gK G (nK_ A) q1 E' (1000 + s) = G.2.1 (1000 + s) := hn2.told (by decide) (Or.inl ⟨s, h1, Or.inl rfl⟩) (by omega)
      have g4 : gK G (nK_ A) q1 E' (4000 + k) = G.2.1 (4000 + k) := hn2.told (by decide) (Or.inr (Or.inl ⟨k, h3, Or.inl rfl⟩)) (by omega)
      have g5 : gK G (nK_ A) q1 E' (5000 + gg) = G.2.1 (5000 + gg) := hn2.told (by decide) (Or.inr (Or.inr (Or.inl ⟨gg, h4, Or.inl rfl⟩))) (by omega)
      show (Sum.inr (7, [.ref (gK G (nK_ A) q1 E' (1000 + s)), .int (i32 p), .ref (gK G (nK_ A) q1 E' (4000 + k)), .ref (gK G (nK_ A) q1 E' (5000 + gg))]) : va_E) = _
      rw [g1, g4, g5]
    show _ = [(gK G (nK_ A) q1 E' (8000 + nK_ A), hd (wG G (gK G (nK_ A) q1 E')) (zK2 Z (nK_ A) (s, p, k, gg) (capN (Z.2.1 10003) (nK_ A))) (8000 + nK_ A))]
    rw [(gK_0 hs).1, d0]
  have hj := T_join (Y := Y) (41, 10003, 8000, nK_ A) (by simp [liL]) hJ.1 hJ.2.1 hX hn2 hR (zK_off Z (nK_ A) (s, p, k, gg)) (n' := capN (Z.2.1 10003) (nK_ A)) hN2 (gK_0 hs).2.symm (gK_0 hs).1.symm
  have hP : va_P D vwCl (hW (wG G (gK G (nK_ A) q1 E')) (zK2 Z (nK_ A) (s, p, k, gg) (capN (Z.2.1 10003) (nK_ A))) Y σ) H := pperm hj hP
  have hD : va_D A0 (hW (wG G (gK G (nK_ A) q1 E')) (zK2 Z (nK_ A) (s, p, k, gg) (capN (Z.2.1 10003) (nK_ A))) Y σ) := dperm hj hD
  refine lv_pop hx hb dX11_talk_96 rfl ?_
  refine lv_aload_n hx hb dX11_talk_97 rfl (lv_at hl 3 rfl) ?_
  have g00 : (wG G (gK G (nK_ A) q1 E')).2.1 0 = G.2.1 0 := hn2.low (by decide) (by decide)
  have h0 := hg_0 (wG G (gK G (nK_ A) q1 E')) (zK2 Z (nK_ A) (s, p, k, gg) (capN (Z.2.1 10003) (nK_ A))) Y σ
  rw [g00] at h0
  refine va_get (D := D) (ci := 11) (v := .ref ((wG G (gK G (nK_ A) q1 E')).2.1 41)) (C := RX11) (T := TX11) (N := 16) hx hb hts inU_X11 hown hK hP _ h0 rfl 11 (by decide) (hts _ wd_246) (fun _ h9 => h9) rfl dX11_talk_98 ?_
  have hsz2 : f_Jx4a65c_size_8abf5 (zK2 Z (nK_ A) (s, p, k, gg) (capN (Z.2.1 10003) (nK_ A))) σ 41 = some (i32 ((nK_ A + 1 : Nat) : Int)) := congrArg some zT_sz
  refine cl_V (G := wG G (gK G (nK_ A) q1 E')) (w := (hW (wG G (gK G (nK_ A) q1 E')) (zK2 Z (nK_ A) (s, p, k, gg) (capN (Z.2.1 10003) (nK_ A))) Y σ)) (w' := (hW (wG G (gK G (nK_ A) q1 E')) (zK2 Z (nK_ A) (s, p, k, gg) (capN (Z.2.1 10003) (nK_ A))) Y σ)) (rv := some (.int (i32 ((nK_ A + 1 : Nat) : Int)))) (bytes := cJx4a65c_size_8abf5) (maxL := 1) (ret := (some .int)) (C := RJx4a65c) (As := []) (rest := []) (stk := [.int (i32 ((nK_ A + 1 : Nat) : Int))]) ⟨hx, hb, hml, hown, hts⟩ hK hE hA hP hD hS (c_Jx4a65c_size_8abf5 l D (wG G (gK G (nK_ A) q1 E')) (zK2 Z (nK_ A) (s, p, k, gg) (capN (Z.2.1 10003) (nK_ A))) Y σ 41 (rfl : isLi 41 = true) _ hsz2) (cwV 0 hts (gwV wd_523 wd_524 wd_525 wd_10 wd_526) rfl rfl rfl hd_Jx4a65c_size_8abf5 ⟨Nat.le_of_ble_eq_true rfl, Nat.le_of_ble_eq_true rfl⟩) (hg_41 (wG G (gK G (nK_ A) q1 E')) (zK2 Z (nK_ A) (s, p, k, gg) (capN (Z.2.1 10003) (nK_ A))) Y σ) rfl rfl rfl hl.1 rfl (Nat.le_of_ble_eq_true rfl) dX11_talk_101 ⟨Nat.le_of_ble_eq_true rfl, Nat.le_of_ble_eq_true rfl⟩ rfl (fun H locs hP hD hS => ?_)
  refine lv_iconst (v := (1 : Int32)) hx hb dX11_talk_104 (by decide) ?_
  refine lv_isub hx hb dX11_talk_105 ?_
  have ev : i32 ((nK_ A + 1 : Nat) : Int) - 1 = i32 (nK_ A : Int) := by rw [show (1 : Int32) = i32 1 from rfl, i32_sub]; congr 1; omega
  rw [ev]
  refine W.widen (k := 2) (n := 60) (Nat.le_of_ble_eq_true rfl) (Nat.le_of_ble_eq_true rfl) ?_
  exact W.iret (v := i32 (nK_ A : Int)) hx hb hr (q_endE (W' := fun q => hW (wG G (gK G (nK_ A) (q 0) (q 1))) (zK2 Z (nK_ A) (s, p, k, gg) (capN (Z.2.1 10003) (nK_ A))) Y σ) (rv := fun _ => some (.int (i32 (nK_ A : Int)))) (fun k => [q1, E'].getD k 0) hK hP hD hS) hS.2.2 dX11_talk_106
