/-! LiarHall.law, where one is told -/
def gW (G : hG) (k a b e : Nat) : Nat → Nat := fun r => if r = 4000 + k then a else if r = 6000 + k then b else if r = 10001 then e else G.2.1 r
theorem gW_n {A : HA} {G : hG} {a b e : Nat} (hA : okA A) (hs : nL_ A < 12) : nwG A G (gW G (nL_ A) a b e) (nwW (nL_ A)) 10001 := ⟨nwW_nt hA hs, fun r h1 h2 => by
  have h3 : r ≠ 4000 + nL_ A ∧ r ≠ 6000 + nL_ A := by
    simpa only [nwW, List.mem_cons, List.not_mem_nil, or_false, not_or] using h1
  unfold gW
  rw [if_neg h3.1, if_neg h3.2, if_neg h2]⟩
theorem gW_0 {G : hG} {k a b e : Nat} (hs : k < 12) : gW G k a b e (4000 + k) = a ∧ gW G k a b e (6000 + k) = b ∧ gW G k a b e 10001 = e := by
  unfold gW
  refine ⟨if_pos rfl, ?_, ?_⟩
  · rw [if_neg (by omega), if_pos rfl]
  · rw [if_neg (by omega), if_neg (by omega), if_pos rfl]
theorem nw_W {G : hG} {Z : hZ} {k len a b e : Nat} {f : Nat → Int32} {Z' : hZ} (hs : k < 12) (h1 : ∀ r ∈ nwW k, Z'.2.1 r = zWl Z k len r ∧ Z'.2.2.1 r = zWi Z k f r) : ([(a, .inr (9, [.ref b])), (b, .inl (G.1 0, len, .inl f))] : va_W) = (nwW k).map (fun r => (gW G k a b e r, hd (wG G (gW G k a b e)) Z' r)) := by
  obtain ⟨g0, g1, -⟩ := gW_0 (G := G) (a := a) (b := b) (e := e) hs
  have k1 := h1 (6000 + k) (by simp [nwW])
  have l1 : zWl Z k len (6000 + k) = len := by unfold zWl; rw [if_pos rfl]
  have i1 : zWi Z k f (6000 + k) = f := by
    funext j; unfold zWi; rw [if_pos rfl]
  have d0 : hd (wG G (gW G k a b e)) Z' (4000 + k) = .inr (9, [.ref b]) := by
    rw [hd_te (by omega)]
    show (Sum.inr (9, [.ref (gW G k a b e (4000 + k + 2000))]) : va_E) = _
    rw [show 4000 + k + 2000 = 6000 + k by omega, g1]
  have d1 : hd (wG G (gW G k a b e)) Z' (6000 + k) = .inl (G.1 0, len, .inl f) := by
    rw [hd_co (by omega), k1.1, k1.2, i1, l1]
  show _ = [(gW G k a b e (4000 + k), hd (wG G (gW G k a b e)) Z' (4000 + k)), (gW G k a b e (6000 + k), hd (wG G (gW G k a b e)) Z' (6000 + k))]
  rw [g0, g1, d0, d1]
abbrev rm_Wk : Room := { frames := 90, cells := 3, slots := 600, locals := 2000 }
set_option maxRecDepth 100000 in
set_option maxHeartbeats 8000000 in
theorem e_keepW (l : Launch) (D : va_G) (G : hG) (Z : hZ) (Y : va_W) (σ τ : hSt) (A : HA) (F : Nat) (hF : 50000 ≤ F) (hJ : J A Z σ τ) (hX : JX A G Z) (hR : RF A σ) (hs : nL_ A < 12) (hd0 : txF (aT A).1 (aT A).2 0 = none) : ∃ (σ1 : hSt), (∀ j, j < (flat (tZc (aT A).1 (aT A).2 0)).length → σ1.1 3 j = i32 ((flat (tZc (aT A).1 (aT A).2 0)).getD j 0)) ∧ fr WT σ σ1 ∧
    CE l yX11_keepText cX11_keepText 3 (some .int) rm_Wk D G 3 600 [.ref (G.2.1 0), .ref (G.2.1 39), .ref (G.2.1 5)] (hW G Z Y σ) (fun q => hW (wG G (gW G (nL_ A) (q 0) (q 1) (q 2))) (zW2 Z (nL_ A) (flat (tZc (aT A).1 (aT A).2 0)).length (cpI 400 (flat (tZc (aT A).1 (aT A).2 0)).length (σ1.1 3)) (capN (Z.2.1 10001) (nL_ A))) Y (sI σ1 1 2 0)) (fun _ => some (.int (i32 (nL_ A : Int)))) := by
  obtain ⟨σ1, hread, hlen, hwr, hcode, hf1⟩ := p_cW hF hJ hd0
  refine ⟨σ1, hcode, hf1, ?_⟩
  have hR1 : RF A σ1 := RF_f hR hf1 (by decide)
  have hli := hX.li (39, 10001, 4000, nL_ A) (by simp [liL])
  have hsz : f_Jx4a65c_size_8abf5 Z σ 39 = some (i32 (nL_ A : Int)) := congrArg some hli.1
  refine CE.mk (cc := cX11_keepText) (maxL := 3) (ret := some .int) (own := RX11) (plainFor_of_name (by decide)) rfl (Nat.le_of_ble_eq_true rfl) ?_
  intro p e s m args below meth c A0 ls C0 _ hA hP hD hl
  obtain ⟨hx, hb, hr, hml, hown, hts, hlocks, hK, hE⟩ := id C0
  have hS : va_S A0 s.heap s.heap [] := va_S.rf
  have hl : lv_has ls 3 [(0, .ref (G.2.1 0)), (1, .ref (G.2.1 39)), (2, .ref (G.2.1 5))] := hl
  refine lv_aload_n hx hb dX11_keepText_0 rfl (lv_at hl 1 rfl) ?_
  refine cl_V (G := G) (w := (hW G Z Y σ)) (w' := (hW G Z Y σ)) (rv := some (.int (i32 (nL_ A : Int)))) (bytes := cJx4a65c_size_8abf5) (maxL := 1) (ret := (some .int)) (C := RJx4a65c) (As := []) (rest := []) (stk := [.int (i32 (nL_ A : Int))]) ⟨hx, hb, hml, hown, hts⟩ hK hE hA hP hD hS (c_Jx4a65c_size_8abf5 l D G Z Y σ 39 (rfl : isLi 39 = true) _ hsz) (cwV 0 hts (gwV wd_523 wd_524 wd_525 wd_10 wd_526) rfl rfl rfl hd_Jx4a65c_size_8abf5 ⟨Nat.le_of_ble_eq_true rfl, Nat.le_of_ble_eq_true rfl⟩) (hg_39 G Z Y σ) rfl rfl rfl hl.1 rfl (Nat.le_of_ble_eq_true rfl) dX11_keepText_1 ⟨Nat.le_of_ble_eq_true rfl, Nat.le_of_ble_eq_true rfl⟩ rfl (fun H locs hP hD hS => ?_)
  refine lv_bipush (v := 12) hx hb dX11_keepText_4 (by decide) ?_
  refine lv_icmp_ge (tgt := 17) hx hb dX11_keepText_6 (by decide) (fun c1 => absurd c1 (fun h => by have := (leI (a := 12) (by omega)).mp h; omega)) (fun _ => ?_)
  refine lv_aload_n hx hb dX11_keepText_9 rfl (lv_at hl 2 rfl) ?_
  refine cl_V (G := G) (w := (hW G Z Y σ)) (w' := (hW G Z Y σ1)) (rv := some (.int (-1))) (bytes := cX10_read) (maxL := 3) (ret := (some .int)) (C := RX10) (As := []) (rest := []) (stk := [.int (-1)]) ⟨hx, hb, hml, hown, hts⟩ hK hE hA hP hD hS (c_X10_read l D G Z Y σ F 5 (rfl : isRd 5 = true) _ hread) (cwV 0 hts (gwV wd_360 wd_361 wd_362 wd_4 wd_363) rfl rfl rfl hd_X10_read ⟨Nat.le_of_ble_eq_true rfl, Nat.le_of_ble_eq_true rfl⟩) (hg_5 G Z Y σ) rfl rfl rfl hl.1 rfl (Nat.le_of_ble_eq_true rfl) dX11_keepText_10 ⟨Nat.le_of_ble_eq_true rfl, Nat.le_of_ble_eq_true rfl⟩ rfl (fun H locs hP hD hS => ?_)
  refine lv_iconst (v := (-1 : Int32)) hx hb dX11_keepText_13 (by decide) ?_
  refine lv_icmp_eq (tgt := 19) hx hb dX11_keepText_14 (by decide) (fun _ => ?_) (fun c1 => absurd rfl c1)
  refine lv_aload_n hx hb dX11_keepText_19 rfl (lv_at hl 1 rfl) ?_
  refine va_new (ci := 9) (fs := [.null]) (C := RX9) (T := TX9) (N := 1) hx hb hts inU_X9 tyX9 tyX9_ok hown (hts _ wd_747) (hts _ wd_748) (hts _ wd_23) hK hP hD hS hA rfl (fun j hj => by rcases (show j = 0 by omega) with rfl; rfl) (Nat.le_of_ble_eq_true rfl) (Nat.le_of_ble_eq_true rfl) dX11_keepText_20 (fun q1 H hP hD hS => ?_)
  have hP := pperm yin (pfront hP)
  have hD := dperm yin (dfront hD)
  refine lv_dup hx hb dX11_keepText_23 rfl ?_
  refine lv_aload_n hx hb dX11_keepText_24 rfl (lv_at hl 0 rfl) ?_
  refine va_get (D := D) (ci := 11) (v := .ref (G.2.1 1)) (C := RX11) (T := TX11) (N := 16) hx hb hts inU_X11 hown hK hP _ (hg_0 G Z _ σ1) rfl 0 (by decide) (hts _ wd_235) (fun _ h9 => h9) rfl dX11_keepText_25 ?_
  refine cl_VE (C := RX8) (w := hW G Z ((q1, .inr (9, [.null])) :: Y) σ1) (As := []) (rest := [.ref q1, .ref q1, .ref (G.2.1 39)]) (stk := fun q => [.ref (q 0), .ref q1, .ref q1, .ref (G.2.1 39)]) ⟨hx, hb, hml, hown, hts⟩ hK hE hA hP hD hS (e_X8_writtenCode l D G Z _ σ1 (flat (tZc (aT A).1 (aT A).2 0)).length hlen hwr) (cwV 0 hts (gwV wd_529 wd_530 wd_531 wd_2 wd_532) rfl rfl rfl hd_X8_writtenCode ⟨Nat.le_of_ble_eq_true rfl, Nat.le_of_ble_eq_true rfl⟩) (hg_1 G Z _ σ1) rfl rfl rfl hl.1 rfl (Nat.le_of_ble_eq_true rfl) dX11_keepText_28 ⟨Nat.le_of_ble_eq_true rfl, Nat.le_of_ble_eq_true rfl⟩ (fun _ => rfl) (fun qq H locs hP hD hS => ?_)
  generalize qq 0 = q2 at hP hD
  have hpa := (yin (G := G) (Z := Z) (Y := Y) (σ := σ1) (x := (q1, .inr (9, [.null])))).symm.cons (q2, .inl (G.1 0, (flat (tZc (aT A).1 (aT A).2 0)).length, .inl (cpI 400 (flat (tZc (aT A).1 (aT A).2 0)).length (σ1.1 3))))
  have hP := pperm (hpa.trans (List.Perm.swap _ _ _)) hP
  have hD := dperm (hpa.trans (List.Perm.swap _ _ _)) hD
  refine cl_IE (w := (q1, .inr (9, [.null])) :: (q2, .inl (G.1 0, (flat (tZc (aT A).1 (aT A).2 0)).length, .inl (cpI 400 (flat (tZc (aT A).1 (aT A).2 0)).length (σ1.1 3)))) :: hW G Z Y σ1) (rv := fun _ => none) (bytes := cX9_init) (maxL := 2) (As := [.ref q2]) (rest := [.ref q1, .ref (G.2.1 39)]) (stk := fun _ => [.ref q1, .ref (G.2.1 39)]) ⟨hx, hb, hml, hown, hts⟩ hK hE hA hP hD hS (e_X9_init l D G ((q2, .inl (G.1 0, (flat (tZc (aT A).1 (aT A).2 0)).length, .inl (cpI 400 (flat (tZc (aT A).1 (aT A).2 0)).length (σ1.1 3)))) :: hW G Z Y σ1) q1 q2) (mkI hts wd_749 wd_750 wd_23 wd_751 rfl rfl rfl hd_X9_init ⟨Nat.le_of_ble_eq_true rfl, Nat.le_of_ble_eq_true rfl⟩) rfl hl.1 rfl (Nat.le_of_ble_eq_true rfl) dX11_keepText_31 ⟨Nat.le_of_ble_eq_true rfl, Nat.le_of_ble_eq_true rfl⟩ (fun _ => rfl) (fun qq H locs hP hD hS => ?_)
  have hP : va_P D vwCl ([(q1, .inr (9, [.ref q2])), (q2, .inl (G.1 0, (flat (tZc (aT A).1 (aT A).2 0)).length, .inl (cpI 400 (flat (tZc (aT A).1 (aT A).2 0)).length (σ1.1 3))))] ++ hW G Z Y σ1) H := hP
  have hD : va_D A0 ([(q1, .inr (9, [.ref q2])), (q2, .inl (G.1 0, (flat (tZc (aT A).1 (aT A).2 0)).length, .inl (cpI 400 (flat (tZc (aT A).1 (aT A).2 0)).length (σ1.1 3))))] ++ hW G Z Y σ1) := hD
  refine cl_add (Nw := [(q1, .inr (9, [.ref q2])), (q2, .inl (G.1 0, (flat (tZc (aT A).1 (aT A).2 0)).length, .inl (cpI 400 (flat (tZc (aT A).1 (aT A).2 0)).length (σ1.1 3))))]) (lr := 39) (er := 10001) (base := 4000) (c := nL_ A) (qv := q1) (ci := 9) (cj := 2) (kv := 0) ⟨hx, hb, hml, hown, hts⟩ hts hK hE hA hP hD hS (by decide) (by decide) hli (by omega) rfl rfl (fun i hi => ?_) rfl hl.1 (Nat.le_of_ble_eq_true rfl) dX11_keepText_34 ⟨Nat.le_of_ble_eq_true rfl, Nat.le_of_ble_eq_true rfl⟩ ⟨Nat.le_of_ble_eq_true rfl, Nat.le_of_ble_eq_true rfl⟩ (fun E' H locs hP hD hS => ?_)
  · obtain ⟨a1, -⟩ := hJ.2.1.2.1.2 i hi
    have a1 := te_iff.mp a1
    exact ⟨a1.1, by omega, _, hd_te (by omega)⟩
  have hn2 := gW_n (G := G) (a := q1) (b := q2) (e := E') hJ.1 hs
  have hN2 := nw_W (G := G) (Z := Z) (Z' := (zW2 Z (nL_ A) (flat (tZc (aT A).1 (aT A).2 0)).length (cpI 400 (flat (tZc (aT A).1 (aT A).2 0)).length (σ1.1 3)) (capN (Z.2.1 10001) (nL_ A)))) (a := q1) (b := q2) (e := E') (len := (flat (tZc (aT A).1 (aT A).2 0)).length) (f := (cpI 400 (flat (tZc (aT A).1 (aT A).2 0)).length (σ1.1 3))) hs (fun r hr => by
    have h3 := nwW_nt hJ.1 hs r hr
    refine ⟨?_, ?_⟩
    · show (if r = 10001 then _ else _) = _
      rw [if_neg (by omega)]
    · funext j
      show (if r = 39 then _ else _) = _
      rw [if_neg (by omega)])
  have hoff2 := zW_off Z (nL_ A) (flat (tZc (aT A).1 (aT A).2 0)).length (cpI 400 (flat (tZc (aT A).1 (aT A).2 0)).length (σ1.1 3))
  have hj := T_join (Y := Y) (39, 10001, 4000, nL_ A) (by simp [liL]) hJ.1 hJ.2.1 hX hn2 hR1 hoff2 (n' := capN (Z.2.1 10001) (nL_ A)) hN2 (gW_0 hs).2.2.symm (gW_0 hs).1.symm
  have hP : va_P D vwCl (hW (wG G (gW G (nL_ A) q1 q2 E')) (zW2 Z (nL_ A) (flat (tZc (aT A).1 (aT A).2 0)).length (cpI 400 (flat (tZc (aT A).1 (aT A).2 0)).length (σ1.1 3)) (capN (Z.2.1 10001) (nL_ A))) Y σ1) H := pperm hj hP
  have hD : va_D A0 (hW (wG G (gW G (nL_ A) q1 q2 E')) (zW2 Z (nL_ A) (flat (tZc (aT A).1 (aT A).2 0)).length (cpI 400 (flat (tZc (aT A).1 (aT A).2 0)).length (σ1.1 3)) (capN (Z.2.1 10001) (nL_ A))) Y σ1) := dperm hj hD
  refine lv_pop hx hb dX11_keepText_37 rfl ?_
  refine lv_aload_n hx hb dX11_keepText_38 rfl (lv_at hl 0 rfl) ?_
  have g00 : (wG G (gW G (nL_ A) q1 q2 E')).2.1 0 = G.2.1 0 := hn2.low (by decide) (by decide)
  have g0l : (wG G (gW G (nL_ A) q1 q2 E')).2.1 39 = G.2.1 39 := hn2.low (by decide) (by decide)
  have h0 := hg_0 (wG G (gW G (nL_ A) q1 q2 E')) (zW2 Z (nL_ A) (flat (tZc (aT A).1 (aT A).2 0)).length (cpI 400 (flat (tZc (aT A).1 (aT A).2 0)).length (σ1.1 3)) (capN (Z.2.1 10001) (nL_ A))) Y σ1
  rw [g00] at h0
  refine va_get (D := D) (ci := 11) (v := .ref ((wG G (gW G (nL_ A) q1 q2 E')).2.1 1)) (C := RX11) (T := TX11) (N := 16) hx hb hts inU_X11 hown hK hP _ h0 rfl 0 (by decide) (hts _ wd_235) (fun _ h9 => h9) rfl dX11_keepText_39 ?_
  refine lv_iconst (v := (0 : Int32)) hx hb dX11_keepText_42 (by decide) ?_
  refine va_putN (D := D) (ci := 8) (v := .int 0) (ty := .int) (C := RX8) (T := TX8) (N := 6) hx hb hts inU_X8 tyX8 tyX8_ok nmX8 hown hK hP hD hS _ (hg_1 (wG G (gW G (nL_ A) q1 q2 E')) (zW2 Z (nL_ A) (flat (tZc (aT A).1 (aT A).2 0)).length (cpI 400 (flat (tZc (aT A).1 (aT A).2 0)).length (σ1.1 3)) (capN (Z.2.1 10001) (nL_ A))) Y σ1) rfl 2 (by decide) (nF_use 0 hE rfl) (fun _ h9 => h9) rfl (by decide +kernel) rfl rfl (Nat.le_of_ble_eq_true rfl) dX11_keepText_43 (fun H locs hP hD hS => ?_)
  have hP : va_P D vwCl (hW (wG G (gW G (nL_ A) q1 q2 E')) (zW2 Z (nL_ A) (flat (tZc (aT A).1 (aT A).2 0)).length (cpI 400 (flat (tZc (aT A).1 (aT A).2 0)).length (σ1.1 3)) (capN (Z.2.1 10001) (nL_ A))) Y (sI σ1 1 2 0)) H := hP
  have hD : va_D A0 (hW (wG G (gW G (nL_ A) q1 q2 E')) (zW2 Z (nL_ A) (flat (tZc (aT A).1 (aT A).2 0)).length (cpI 400 (flat (tZc (aT A).1 (aT A).2 0)).length (σ1.1 3)) (capN (Z.2.1 10001) (nL_ A))) Y (sI σ1 1 2 0)) := hD
  refine lv_aload_n hx hb dX11_keepText_46 rfl (lv_at hl 1 rfl) ?_
  have hsz2 : f_Jx4a65c_size_8abf5 (zW2 Z (nL_ A) (flat (tZc (aT A).1 (aT A).2 0)).length (cpI 400 (flat (tZc (aT A).1 (aT A).2 0)).length (σ1.1 3)) (capN (Z.2.1 10001) (nL_ A))) (sI σ1 1 2 0) 39 = some (i32 ((nL_ A + 1 : Nat) : Int)) := congrArg some zT_sz
  have hcon := c_Jx4a65c_size_8abf5 l D (wG G (gW G (nL_ A) q1 q2 E')) (zW2 Z (nL_ A) (flat (tZc (aT A).1 (aT A).2 0)).length (cpI 400 (flat (tZc (aT A).1 (aT A).2 0)).length (σ1.1 3)) (capN (Z.2.1 10001) (nL_ A))) Y (sI σ1 1 2 0) 39 (rfl : isLi 39 = true) _ hsz2
  have hgl := hg_39 (wG G (gW G (nL_ A) q1 q2 E')) (zW2 Z (nL_ A) (flat (tZc (aT A).1 (aT A).2 0)).length (cpI 400 (flat (tZc (aT A).1 (aT A).2 0)).length (σ1.1 3)) (capN (Z.2.1 10001) (nL_ A))) Y (sI σ1 1 2 0)
  rw [g0l] at hcon hgl
  refine cl_V (G := wG G (gW G (nL_ A) q1 q2 E')) (w := (hW (wG G (gW G (nL_ A) q1 q2 E')) (zW2 Z (nL_ A) (flat (tZc (aT A).1 (aT A).2 0)).length (cpI 400 (flat (tZc (aT A).1 (aT A).2 0)).length (σ1.1 3)) (capN (Z.2.1 10001) (nL_ A))) Y (sI σ1 1 2 0))) (w' := (hW (wG G (gW G (nL_ A) q1 q2 E')) (zW2 Z (nL_ A) (flat (tZc (aT A).1 (aT A).2 0)).length (cpI 400 (flat (tZc (aT A).1 (aT A).2 0)).length (σ1.1 3)) (capN (Z.2.1 10001) (nL_ A))) Y (sI σ1 1 2 0))) (rv := some (.int (i32 ((nL_ A + 1 : Nat) : Int)))) (bytes := cJx4a65c_size_8abf5) (maxL := 1) (ret := (some .int)) (C := RJx4a65c) (As := []) (rest := []) (stk := [.int (i32 ((nL_ A + 1 : Nat) : Int))]) ⟨hx, hb, hml, hown, hts⟩ hK hE hA hP hD hS hcon (cwV 0 hts (gwV wd_523 wd_524 wd_525 wd_10 wd_526) rfl rfl rfl hd_Jx4a65c_size_8abf5 ⟨Nat.le_of_ble_eq_true rfl, Nat.le_of_ble_eq_true rfl⟩) hgl rfl rfl rfl hl.1 rfl (Nat.le_of_ble_eq_true rfl) dX11_keepText_47 ⟨Nat.le_of_ble_eq_true rfl, Nat.le_of_ble_eq_true rfl⟩ rfl (fun H locs hP hD hS => ?_)
  refine lv_iconst (v := (1 : Int32)) hx hb dX11_keepText_50 (by decide) ?_
  refine lv_isub hx hb dX11_keepText_51 ?_
  have ev : i32 ((nL_ A + 1 : Nat) : Int) - 1 = i32 (nL_ A : Int) := by rw [show (1 : Int32) = i32 1 from rfl, i32_sub]; congr 1; omega
  rw [ev]
  refine W.widen (k := 3) (n := 600) (Nat.le_of_ble_eq_true rfl) (Nat.le_of_ble_eq_true rfl) ?_
  exact W.iret (v := i32 (nL_ A : Int)) hx hb hr (q_endE (W' := fun q => hW (wG G (gW G (nL_ A) (q 0) (q 1) (q 2))) (zW2 Z (nL_ A) (flat (tZc (aT A).1 (aT A).2 0)).length (cpI 400 (flat (tZc (aT A).1 (aT A).2 0)).length (σ1.1 3)) (capN (Z.2.1 10001) (nL_ A))) Y (sI σ1 1 2 0)) (rv := fun _ => some (.int (i32 (nL_ A : Int)))) (fun k => [q1, q2, E'].getD k 0) hK hP hD hS) hS.2.2 dX11_keepText_52
abbrev rm_X11law : Room := { frames := 91, cells := 3, slots := 600, locals := 2100 }
set_option maxRecDepth 100000 in
set_option maxHeartbeats 8000000 in
theorem e_X11_law (l : Launch) (D : va_G) (G : hG) (Z : hZ) (Y : va_W) (σ τ : hSt) (A : HA) (F : Nat) (hF : 50000 ≤ F) (hJ : J A Z σ τ) (hX : JX A G Z) (hR : RF A σ) (hs : nL_ A < 12) (hd0 : txF (aT A).1 (aT A).2 0 = none) : ∃ (σ1 : hSt), (∀ j, j < (flat (tZc (aT A).1 (aT A).2 0)).length → σ1.1 3 j = i32 ((flat (tZc (aT A).1 (aT A).2 0)).getD j 0)) ∧ fr WT σ σ1 ∧
    CE l yX11_law cX11_law 1 (some .int) rm_X11law D G 3 600 [.ref (G.2.1 0)] (hW G Z Y σ) (fun q => hW (wG G (gW G (nL_ A) (q 0) (q 1) (q 2))) (zW2 Z (nL_ A) (flat (tZc (aT A).1 (aT A).2 0)).length (cpI 400 (flat (tZc (aT A).1 (aT A).2 0)).length (σ1.1 3)) (capN (Z.2.1 10001) (nL_ A))) Y (sI σ1 1 2 0)) (fun _ => some (.int (i32 (nL_ A : Int)))) := by
  obtain ⟨σ1, h1, h2, hk⟩ := e_keepW l D G Z Y σ τ A F hF hJ hX hR hs hd0
  refine ⟨σ1, h1, h2, ?_⟩
  refine CE.mk (cc := cX11_law) (maxL := 1) (ret := some .int) (own := RX11) (plainFor_of_name (by decide)) rfl (Nat.le_of_ble_eq_true rfl) ?_
  intro p e s m args below meth c A0 ls C0 _ hA hP hD hl
  obtain ⟨hx, hb, hr, hml, hown, hts, hlocks, hK, hE⟩ := id C0
  have hS : va_S A0 s.heap s.heap [] := va_S.rf
  have hl : lv_has ls 1 [(0, .ref (G.2.1 0))] := hl
  refine lv_aload_n hx hb dX11_law_0 rfl (lv_at hl 0 rfl) ?_
  refine lv_aload_n hx hb dX11_law_1 rfl (lv_at hl 0 rfl) ?_
  refine va_get (D := D) (ci := 11) (v := .ref (G.2.1 39)) (C := RX11) (T := TX11) (N := 16) hx hb hts inU_X11 hown hK hP _ (hg_0 G Z Y σ) rfl 9 (by decide) (hts _ wd_244) (fun _ h9 => h9) rfl dX11_law_2 ?_
  refine lv_aload_n hx hb dX11_law_5 rfl (lv_at hl 0 rfl) ?_
  refine va_get (D := D) (ci := 11) (v := .ref (G.2.1 5)) (C := RX11) (T := TX11) (N := 16) hx hb hts inU_X11 hown hK hP _ (hg_0 G Z Y σ) rfl 2 (by decide) (hts _ wd_237) (fun _ h9 => h9) rfl dX11_law_6 ?_
  refine cl_VE (C := RX11) (w := hW G Z Y σ) (As := [.ref (G.2.1 39), .ref (G.2.1 5)]) (rest := []) (stk := fun _ => [.int (i32 (nL_ A : Int))]) ⟨hx, hb, hml, hown, hts⟩ hK hE hA hP hD hS hk (cwV 2 hts (gwV wd_743 wd_745 wp_22 wd_1 wd_746) rfl rfl rfl hd_X11_keepText ⟨Nat.le_of_ble_eq_true rfl, Nat.le_of_ble_eq_true rfl⟩) (hg_0 G Z Y σ) rfl rfl rfl hl.1 rfl (Nat.le_of_ble_eq_true rfl) dX11_law_9 ⟨Nat.le_of_ble_eq_true rfl, Nat.le_of_ble_eq_true rfl⟩ (fun _ => rfl) (fun q H locs hP hD hS => ?_)
  exact W.iret (v := i32 (nL_ A : Int)) hx hb hr (q_endE (W' := fun q => hW (wG G (gW G (nL_ A) (q 0) (q 1) (q 2))) (zW2 Z (nL_ A) (flat (tZc (aT A).1 (aT A).2 0)).length (cpI 400 (flat (tZc (aT A).1 (aT A).2 0)).length (σ1.1 3)) (capN (Z.2.1 10001) (nL_ A))) Y (sI σ1 1 2 0)) (rv := fun _ => some (.int (i32 (nL_ A : Int)))) q hK hP hD hS) hS.2.2 dX11_law_12
/-! LiarHall.giant, where one is told -/
def gH (G : hG) (k a b e : Nat) : Nat → Nat := fun r => if r = 5000 + k then a else if r = 7000 + k then b else if r = 10002 then e else G.2.1 r
theorem gH_n {A : HA} {G : hG} {a b e : Nat} (hA : okA A) (hs : nG_ A < 12) : nwG A G (gH G (nG_ A) a b e) (nwH (nG_ A)) 10002 := ⟨nwH_nt hA hs, fun r h1 h2 => by
  have h3 : r ≠ 5000 + nG_ A ∧ r ≠ 7000 + nG_ A := by
    simpa only [nwH, List.mem_cons, List.not_mem_nil, or_false, not_or] using h1
  unfold gH
  rw [if_neg h3.1, if_neg h3.2, if_neg h2]⟩
theorem gH_0 {G : hG} {k a b e : Nat} (hs : k < 12) : gH G k a b e (5000 + k) = a ∧ gH G k a b e (7000 + k) = b ∧ gH G k a b e 10002 = e := by
  unfold gH
  refine ⟨if_pos rfl, ?_, ?_⟩
  · rw [if_neg (by omega), if_pos rfl]
  · rw [if_neg (by omega), if_neg (by omega), if_pos rfl]
theorem nw_H {G : hG} {Z : hZ} {k len a b e : Nat} {f : Nat → Int32} {Z' : hZ} (hs : k < 12) (h1 : ∀ r ∈ nwH k, Z'.2.1 r = zHl Z k len r ∧ Z'.2.2.1 r = zHi Z k f r) : ([(a, .inr (9, [.ref b])), (b, .inl (G.1 0, len, .inl f))] : va_W) = (nwH k).map (fun r => (gH G k a b e r, hd (wG G (gH G k a b e)) Z' r)) := by
  obtain ⟨g0, g1, -⟩ := gH_0 (G := G) (a := a) (b := b) (e := e) hs
  have k1 := h1 (7000 + k) (by simp [nwH])
  have l1 : zHl Z k len (7000 + k) = len := by unfold zHl; rw [if_pos rfl]
  have i1 : zHi Z k f (7000 + k) = f := by
    funext j; unfold zHi; rw [if_pos rfl]
  have d0 : hd (wG G (gH G k a b e)) Z' (5000 + k) = .inr (9, [.ref b]) := by
    rw [hd_te (by omega)]
    show (Sum.inr (9, [.ref (gH G k a b e (5000 + k + 2000))]) : va_E) = _
    rw [show 5000 + k + 2000 = 7000 + k by omega, g1]
  have d1 : hd (wG G (gH G k a b e)) Z' (7000 + k) = .inl (G.1 0, len, .inl f) := by
    rw [hd_co (by omega), k1.1, k1.2, i1, l1]
  show _ = [(gH G k a b e (5000 + k), hd (wG G (gH G k a b e)) Z' (5000 + k)), (gH G k a b e (7000 + k), hd (wG G (gH G k a b e)) Z' (7000 + k))]
  rw [g0, g1, d0, d1]
abbrev rm_Hk : Room := { frames := 90, cells := 3, slots := 600, locals := 2000 }
set_option maxRecDepth 100000 in
set_option maxHeartbeats 8000000 in
theorem e_keepH (l : Launch) (D : va_G) (G : hG) (Z : hZ) (Y : va_W) (σ τ : hSt) (A : HA) (F : Nat) (hF : 50000 ≤ F) (hJ : J A Z σ τ) (hX : JX A G Z) (hR : RF A σ) (hs : nG_ A < 12) (hd0 : txF (aT A).1 (aT A).2 1 = none) : ∃ (σ1 : hSt), (∀ j, j < (flat (tZc (aT A).1 (aT A).2 1)).length → σ1.1 3 j = i32 ((flat (tZc (aT A).1 (aT A).2 1)).getD j 0)) ∧ fr WT σ σ1 ∧
    CE l yX11_keepText cX11_keepText 3 (some .int) rm_Hk D G 3 600 [.ref (G.2.1 0), .ref (G.2.1 40), .ref (G.2.1 6)] (hW G Z Y σ) (fun q => hW (wG G (gH G (nG_ A) (q 0) (q 1) (q 2))) (zH2 Z (nG_ A) (flat (tZc (aT A).1 (aT A).2 1)).length (cpI 400 (flat (tZc (aT A).1 (aT A).2 1)).length (σ1.1 3)) (capN (Z.2.1 10002) (nG_ A))) Y (sI σ1 1 2 0)) (fun _ => some (.int (i32 (nG_ A : Int)))) := by
  obtain ⟨σ1, hread, hlen, hwr, hcode, hf1⟩ := p_cH hF hJ hd0
  refine ⟨σ1, hcode, hf1, ?_⟩
  have hR1 : RF A σ1 := RF_f hR hf1 (by decide)
  have hli := hX.li (40, 10002, 5000, nG_ A) (by simp [liL])
  have hsz : f_Jx4a65c_size_8abf5 Z σ 40 = some (i32 (nG_ A : Int)) := congrArg some hli.1
  refine CE.mk (cc := cX11_keepText) (maxL := 3) (ret := some .int) (own := RX11) (plainFor_of_name (by decide)) rfl (Nat.le_of_ble_eq_true rfl) ?_
  intro p e s m args below meth c A0 ls C0 _ hA hP hD hl
  obtain ⟨hx, hb, hr, hml, hown, hts, hlocks, hK, hE⟩ := id C0
  have hS : va_S A0 s.heap s.heap [] := va_S.rf
  have hl : lv_has ls 3 [(0, .ref (G.2.1 0)), (1, .ref (G.2.1 40)), (2, .ref (G.2.1 6))] := hl
  refine lv_aload_n hx hb dX11_keepText_0 rfl (lv_at hl 1 rfl) ?_
  refine cl_V (G := G) (w := (hW G Z Y σ)) (w' := (hW G Z Y σ)) (rv := some (.int (i32 (nG_ A : Int)))) (bytes := cJx4a65c_size_8abf5) (maxL := 1) (ret := (some .int)) (C := RJx4a65c) (As := []) (rest := []) (stk := [.int (i32 (nG_ A : Int))]) ⟨hx, hb, hml, hown, hts⟩ hK hE hA hP hD hS (c_Jx4a65c_size_8abf5 l D G Z Y σ 40 (rfl : isLi 40 = true) _ hsz) (cwV 0 hts (gwV wd_523 wd_524 wd_525 wd_10 wd_526) rfl rfl rfl hd_Jx4a65c_size_8abf5 ⟨Nat.le_of_ble_eq_true rfl, Nat.le_of_ble_eq_true rfl⟩) (hg_40 G Z Y σ) rfl rfl rfl hl.1 rfl (Nat.le_of_ble_eq_true rfl) dX11_keepText_1 ⟨Nat.le_of_ble_eq_true rfl, Nat.le_of_ble_eq_true rfl⟩ rfl (fun H locs hP hD hS => ?_)
  refine lv_bipush (v := 12) hx hb dX11_keepText_4 (by decide) ?_
  refine lv_icmp_ge (tgt := 17) hx hb dX11_keepText_6 (by decide) (fun c1 => absurd c1 (fun h => by have := (leI (a := 12) (by omega)).mp h; omega)) (fun _ => ?_)
  refine lv_aload_n hx hb dX11_keepText_9 rfl (lv_at hl 2 rfl) ?_
  refine cl_V (G := G) (w := (hW G Z Y σ)) (w' := (hW G Z Y σ1)) (rv := some (.int (-1))) (bytes := cX10_read) (maxL := 3) (ret := (some .int)) (C := RX10) (As := []) (rest := []) (stk := [.int (-1)]) ⟨hx, hb, hml, hown, hts⟩ hK hE hA hP hD hS (c_X10_read l D G Z Y σ F 6 (rfl : isRd 6 = true) _ hread) (cwV 0 hts (gwV wd_360 wd_361 wd_362 wd_4 wd_363) rfl rfl rfl hd_X10_read ⟨Nat.le_of_ble_eq_true rfl, Nat.le_of_ble_eq_true rfl⟩) (hg_6 G Z Y σ) rfl rfl rfl hl.1 rfl (Nat.le_of_ble_eq_true rfl) dX11_keepText_10 ⟨Nat.le_of_ble_eq_true rfl, Nat.le_of_ble_eq_true rfl⟩ rfl (fun H locs hP hD hS => ?_)
  refine lv_iconst (v := (-1 : Int32)) hx hb dX11_keepText_13 (by decide) ?_
  refine lv_icmp_eq (tgt := 19) hx hb dX11_keepText_14 (by decide) (fun _ => ?_) (fun c1 => absurd rfl c1)
  refine lv_aload_n hx hb dX11_keepText_19 rfl (lv_at hl 1 rfl) ?_
  refine va_new (ci := 9) (fs := [.null]) (C := RX9) (T := TX9) (N := 1) hx hb hts inU_X9 tyX9 tyX9_ok hown (hts _ wd_747) (hts _ wd_748) (hts _ wd_23) hK hP hD hS hA rfl (fun j hj => by rcases (show j = 0 by omega) with rfl; rfl) (Nat.le_of_ble_eq_true rfl) (Nat.le_of_ble_eq_true rfl) dX11_keepText_20 (fun q1 H hP hD hS => ?_)
  have hP := pperm yin (pfront hP)
  have hD := dperm yin (dfront hD)
  refine lv_dup hx hb dX11_keepText_23 rfl ?_
  refine lv_aload_n hx hb dX11_keepText_24 rfl (lv_at hl 0 rfl) ?_
  refine va_get (D := D) (ci := 11) (v := .ref (G.2.1 1)) (C := RX11) (T := TX11) (N := 16) hx hb hts inU_X11 hown hK hP _ (hg_0 G Z _ σ1) rfl 0 (by decide) (hts _ wd_235) (fun _ h9 => h9) rfl dX11_keepText_25 ?_
  refine cl_VE (C := RX8) (w := hW G Z ((q1, .inr (9, [.null])) :: Y) σ1) (As := []) (rest := [.ref q1, .ref q1, .ref (G.2.1 40)]) (stk := fun q => [.ref (q 0), .ref q1, .ref q1, .ref (G.2.1 40)]) ⟨hx, hb, hml, hown, hts⟩ hK hE hA hP hD hS (e_X8_writtenCode l D G Z _ σ1 (flat (tZc (aT A).1 (aT A).2 1)).length hlen hwr) (cwV 0 hts (gwV wd_529 wd_530 wd_531 wd_2 wd_532) rfl rfl rfl hd_X8_writtenCode ⟨Nat.le_of_ble_eq_true rfl, Nat.le_of_ble_eq_true rfl⟩) (hg_1 G Z _ σ1) rfl rfl rfl hl.1 rfl (Nat.le_of_ble_eq_true rfl) dX11_keepText_28 ⟨Nat.le_of_ble_eq_true rfl, Nat.le_of_ble_eq_true rfl⟩ (fun _ => rfl) (fun qq H locs hP hD hS => ?_)
  generalize qq 0 = q2 at hP hD
  have hpa := (yin (G := G) (Z := Z) (Y := Y) (σ := σ1) (x := (q1, .inr (9, [.null])))).symm.cons (q2, .inl (G.1 0, (flat (tZc (aT A).1 (aT A).2 1)).length, .inl (cpI 400 (flat (tZc (aT A).1 (aT A).2 1)).length (σ1.1 3))))
  have hP := pperm (hpa.trans (List.Perm.swap _ _ _)) hP
  have hD := dperm (hpa.trans (List.Perm.swap _ _ _)) hD
  refine cl_IE (w := (q1, .inr (9, [.null])) :: (q2, .inl (G.1 0, (flat (tZc (aT A).1 (aT A).2 1)).length, .inl (cpI 400 (flat (tZc (aT A).1 (aT A).2 1)).length (σ1.1 3)))) :: hW G Z Y σ1) (rv := fun _ => none) (bytes := cX9_init) (maxL := 2) (As := [.ref q2]) (rest := [.ref q1, .ref (G.2.1 40)]) (stk := fun _ => [.ref q1, .ref (G.2.1 40)]) ⟨hx, hb, hml, hown, hts⟩ hK hE hA hP hD hS (e_X9_init l D G ((q2, .inl (G.1 0, (flat (tZc (aT A).1 (aT A).2 1)).length, .inl (cpI 400 (flat (tZc (aT A).1 (aT A).2 1)).length (σ1.1 3)))) :: hW G Z Y σ1) q1 q2) (mkI hts wd_749 wd_750 wd_23 wd_751 rfl rfl rfl hd_X9_init ⟨Nat.le_of_ble_eq_true rfl, Nat.le_of_ble_eq_true rfl⟩) rfl hl.1 rfl (Nat.le_of_ble_eq_true rfl) dX11_keepText_31 ⟨Nat.le_of_ble_eq_true rfl, Nat.le_of_ble_eq_true rfl⟩ (fun _ => rfl) (fun qq H locs hP hD hS => ?_)
  have hP : va_P D vwCl ([(q1, .inr (9, [.ref q2])), (q2, .inl (G.1 0, (flat (tZc (aT A).1 (aT A).2 1)).length, .inl (cpI 400 (flat (tZc (aT A).1 (aT A).2 1)).length (σ1.1 3))))] ++ hW G Z Y σ1) H := hP
  have hD : va_D A0 ([(q1, .inr (9, [.ref q2])), (q2, .inl (G.1 0, (flat (tZc (aT A).1 (aT A).2 1)).length, .inl (cpI 400 (flat (tZc (aT A).1 (aT A).2 1)).length (σ1.1 3))))] ++ hW G Z Y σ1) := hD
  refine cl_add (Nw := [(q1, .inr (9, [.ref q2])), (q2, .inl (G.1 0, (flat (tZc (aT A).1 (aT A).2 1)).length, .inl (cpI 400 (flat (tZc (aT A).1 (aT A).2 1)).length (σ1.1 3))))]) (lr := 40) (er := 10002) (base := 5000) (c := nG_ A) (qv := q1) (ci := 9) (cj := 2) (kv := 0) ⟨hx, hb, hml, hown, hts⟩ hts hK hE hA hP hD hS (by decide) (by decide) hli (by omega) rfl rfl (fun i hi => ?_) rfl hl.1 (Nat.le_of_ble_eq_true rfl) dX11_keepText_34 ⟨Nat.le_of_ble_eq_true rfl, Nat.le_of_ble_eq_true rfl⟩ ⟨Nat.le_of_ble_eq_true rfl, Nat.le_of_ble_eq_true rfl⟩ (fun E' H locs hP hD hS => ?_)
  · obtain ⟨a1, -⟩ := hJ.2.1.2.2.1.2 i hi
    have a1 := te_iff.mp a1
    exact ⟨a1.1, by omega, _, hd_te (by omega)⟩
  have hn2 := gH_n (G := G) (a := q1) (b := q2) (e := E') hJ.1 hs
  have hN2 := nw_H (G := G) (Z := Z) (Z' := (zH2 Z (nG_ A) (flat (tZc (aT A).1 (aT A).2 1)).length (cpI 400 (flat (tZc (aT A).1 (aT A).2 1)).length (σ1.1 3)) (capN (Z.2.1 10002) (nG_ A)))) (a := q1) (b := q2) (e := E') (len := (flat (tZc (aT A).1 (aT A).2 1)).length) (f := (cpI 400 (flat (tZc (aT A).1 (aT A).2 1)).length (σ1.1 3))) hs (fun r hr => by
    have h3 := nwH_nt hJ.1 hs r hr
    refine ⟨?_, ?_⟩
    · show (if r = 10002 then _ else _) = _
      rw [if_neg (by omega)]
    · funext j
      show (if r = 40 then _ else _) = _
      rw [if_neg (by omega)])
  have hoff2 := zH_off Z (nG_ A) (flat (tZc (aT A).1 (aT A).2 1)).length (cpI 400 (flat (tZc (aT A).1 (aT A).2 1)).length (σ1.1 3))
  have hj := T_join (Y := Y) (40, 10002, 5000, nG_ A) (by simp [liL]) hJ.1 hJ.2.1 hX hn2 hR1 hoff2 (n' := capN (Z.2.1 10002) (nG_ A)) hN2 (gH_0 hs).2.2.symm (gH_0 hs).1.symm
  have hP : va_P D vwCl (hW (wG G (gH G (nG_ A) q1 q2 E')) (zH2 Z (nG_ A) (flat (tZc (aT A).1 (aT A).2 1)).length (cpI 400 (flat (tZc (aT A).1 (aT A).2 1)).length (σ1.1 3)) (capN (Z.2.1 10002) (nG_ A))) Y σ1) H := pperm hj hP
  have hD : va_D A0 (hW (wG G (gH G (nG_ A) q1 q2 E')) (zH2 Z (nG_ A) (flat (tZc (aT A).1 (aT A).2 1)).length (cpI 400 (flat (tZc (aT A).1 (aT A).2 1)).length (σ1.1 3)) (capN (Z.2.1 10002) (nG_ A))) Y σ1) := dperm hj hD
  refine lv_pop hx hb dX11_keepText_37 rfl ?_
  refine lv_aload_n hx hb dX11_keepText_38 rfl (lv_at hl 0 rfl) ?_
  have g00 : (wG G (gH G (nG_ A) q1 q2 E')).2.1 0 = G.2.1 0 := hn2.low (by decide) (by decide)
  have g0l : (wG G (gH G (nG_ A) q1 q2 E')).2.1 40 = G.2.1 40 := hn2.low (by decide) (by decide)
  have h0 := hg_0 (wG G (gH G (nG_ A) q1 q2 E')) (zH2 Z (nG_ A) (flat (tZc (aT A).1 (aT A).2 1)).length (cpI 400 (flat (tZc (aT A).1 (aT A).2 1)).length (σ1.1 3)) (capN (Z.2.1 10002) (nG_ A))) Y σ1
  rw [g00] at h0
  refine va_get (D := D) (ci := 11) (v := .ref ((wG G (gH G (nG_ A) q1 q2 E')).2.1 1)) (C := RX11) (T := TX11) (N := 16) hx hb hts inU_X11 hown hK hP _ h0 rfl 0 (by decide) (hts _ wd_235) (fun _ h9 => h9) rfl dX11_keepText_39 ?_
  refine lv_iconst (v := (0 : Int32)) hx hb dX11_keepText_42 (by decide) ?_
  refine va_putN (D := D) (ci := 8) (v := .int 0) (ty := .int) (C := RX8) (T := TX8) (N := 6) hx hb hts inU_X8 tyX8 tyX8_ok nmX8 hown hK hP hD hS _ (hg_1 (wG G (gH G (nG_ A) q1 q2 E')) (zH2 Z (nG_ A) (flat (tZc (aT A).1 (aT A).2 1)).length (cpI 400 (flat (tZc (aT A).1 (aT A).2 1)).length (σ1.1 3)) (capN (Z.2.1 10002) (nG_ A))) Y σ1) rfl 2 (by decide) (nF_use 0 hE rfl) (fun _ h9 => h9) rfl (by decide +kernel) rfl rfl (Nat.le_of_ble_eq_true rfl) dX11_keepText_43 (fun H locs hP hD hS => ?_)
  have hP : va_P D vwCl (hW (wG G (gH G (nG_ A) q1 q2 E')) (zH2 Z (nG_ A) (flat (tZc (aT A).1 (aT A).2 1)).length (cpI 400 (flat (tZc (aT A).1 (aT A).2 1)).length (σ1.1 3)) (capN (Z.2.1 10002) (nG_ A))) Y (sI σ1 1 2 0)) H := hP
  have hD : va_D A0 (hW (wG G (gH G (nG_ A) q1 q2 E')) (zH2 Z (nG_ A) (flat (tZc (aT A).1 (aT A).2 1)).length (cpI 400 (flat (tZc (aT A).1 (aT A).2 1)).length (σ1.1 3)) (capN (Z.2.1 10002) (nG_ A))) Y (sI σ1 1 2 0)) := hD
  refine lv_aload_n hx hb dX11_keepText_46 rfl (lv_at hl 1 rfl) ?_
  have hsz2 : f_Jx4a65c_size_8abf5 (zH2 Z (nG_ A) (flat (tZc (aT A).1 (aT A).2 1)).length (cpI 400 (flat (tZc (aT A).1 (aT A).2 1)).length (σ1.1 3)) (capN (Z.2.1 10002) (nG_ A))) (sI σ1 1 2 0) 40 = some (i32 ((nG_ A + 1 : Nat) : Int)) := congrArg some zT_sz
  have hcon := c_Jx4a65c_size_8abf5 l D (wG G (gH G (nG_ A) q1 q2 E')) (zH2 Z (nG_ A) (flat (tZc (aT A).1 (aT A).2 1)).length (cpI 400 (flat (tZc (aT A).1 (aT A).2 1)).length (σ1.1 3)) (capN (Z.2.1 10002) (nG_ A))) Y (sI σ1 1 2 0) 40 (rfl : isLi 40 = true) _ hsz2
  have hgl := hg_40 (wG G (gH G (nG_ A) q1 q2 E')) (zH2 Z (nG_ A) (flat (tZc (aT A).1 (aT A).2 1)).length (cpI 400 (flat (tZc (aT A).1 (aT A).2 1)).length (σ1.1 3)) (capN (Z.2.1 10002) (nG_ A))) Y (sI σ1 1 2 0)
  rw [g0l] at hcon hgl
  refine cl_V (G := wG G (gH G (nG_ A) q1 q2 E')) (w := (hW (wG G (gH G (nG_ A) q1 q2 E')) (zH2 Z (nG_ A) (flat (tZc (aT A).1 (aT A).2 1)).length (cpI 400 (flat (tZc (aT A).1 (aT A).2 1)).length (σ1.1 3)) (capN (Z.2.1 10002) (nG_ A))) Y (sI σ1 1 2 0))) (w' := (hW (wG G (gH G (nG_ A) q1 q2 E')) (zH2 Z (nG_ A) (flat (tZc (aT A).1 (aT A).2 1)).length (cpI 400 (flat (tZc (aT A).1 (aT A).2 1)).length (σ1.1 3)) (capN (Z.2.1 10002) (nG_ A))) Y (sI σ1 1 2 0))) (rv := some (.int (i32 ((nG_ A + 1 : Nat) : Int)))) (bytes := cJx4a65c_size_8abf5) (maxL := 1) (ret := (some .int)) (C := RJx4a65c) (As := []) (rest := []) (stk := [.int (i32 ((nG_ A + 1 : Nat) : Int))]) ⟨hx, hb, hml, hown, hts⟩ hK hE hA hP hD hS hcon (cwV 0 hts (gwV wd_523 wd_524 wd_525 wd_10 wd_526) rfl rfl rfl hd_Jx4a65c_size_8abf5 ⟨Nat.le_of_ble_eq_true rfl, Nat.le_of_ble_eq_true rfl⟩) hgl rfl rfl rfl hl.1 rfl (Nat.le_of_ble_eq_true rfl) dX11_keepText_47 ⟨Nat.le_of_ble_eq_true rfl, Nat.le_of_ble_eq_true rfl⟩ rfl (fun H locs hP hD hS => ?_)
  refine lv_iconst (v := (1 : Int32)) hx hb dX11_keepText_50 (by decide) ?_
  refine lv_isub hx hb dX11_keepText_51 ?_
  have ev : i32 ((nG_ A + 1 : Nat) : Int) - 1 = i32 (nG_ A : Int) := by rw [show (1 : Int32) = i32 1 from rfl, i32_sub]; congr 1; omega
  rw [ev]
  refine W.widen (k := 3) (n := 600) (Nat.le_of_ble_eq_true rfl) (Nat.le_of_ble_eq_true rfl) ?_
  exact W.iret (v := i32 (nG_ A : Int)) hx hb hr (q_endE (W' := fun q => hW (wG G (gH G (nG_ A) (q 0) (q 1) (q 2))) (zH2 Z (nG_ A) (flat (tZc (aT A).1 (aT A).2 1)).length (cpI 400 (flat (tZc (aT A).1 (aT A).2 1)).length (σ1.1 3)) (capN (Z.2.1 10002) (nG_ A))) Y (sI σ1 1 2 0)) (rv := fun _ => some (.int (i32 (nG_ A : Int)))) (fun k => [q1, q2, E'].getD k 0) hK hP hD hS) hS.2.2 dX11_keepText_52
abbrev rm_X11giant : Room := { frames := 91, cells := 3, slots := 600, locals := 2100 }
set_option maxRecDepth 100000 in
set_option maxHeartbeats 8000000 in
theorem e_X11_giant (l : Launch) (D : va_G) (G : hG) (Z : hZ) (Y : va_W) (σ τ : hSt) (A : HA) (F : Nat) (hF : 50000 ≤ F) (hJ : J A Z σ τ) (hX : JX A G Z) (hR : RF A σ) (hs : nG_ A < 12) (hd0 : txF (aT A).1 (aT A).2 1 = none) : ∃ (σ1 : hSt), (∀ j, j < (flat (tZc (aT A).1 (aT A).2 1)).length → σ1.1 3 j = i32 ((flat (tZc (aT A).1 (aT A).2 1)).getD j 0)) ∧ fr WT σ σ1 ∧
    CE l yX11_giant cX11_giant 1 (some .int) rm_X11giant D G 3 600 [.ref (G.2.1 0)] (hW G Z Y σ) (fun q => hW (wG G (gH G (nG_ A) (q 0) (q 1) (q 2))) (zH2 Z (nG_ A) (flat (tZc (aT A).1 (aT A).2 1)).length (cpI 400 (flat (tZc (aT A).1 (aT A).2 1)).length (σ1.1 3)) (capN (Z.2.1 10002) (nG_ A))) Y (sI σ1 1 2 0)) (fun _ => some (.int (i32 (nG_ A : Int)))) := by
  obtain ⟨σ1, h1, h2, hk⟩ := e_keepH l D G Z Y σ τ A F hF hJ hX hR hs hd0
  refine ⟨σ1, h1, h2, ?_⟩
  refine CE.mk (cc := cX11_giant) (maxL := 1) (ret := some .int) (own := RX11) (plainFor_of_name (by decide)) rfl (Nat.le_of_ble_eq_true rfl) ?_
  intro p e s m args below meth c A0 ls C0 _ hA hP hD hl
  obtain ⟨hx, hb, hr, hml, hown, hts, hlocks, hK, hE⟩ := id C0
  have hS : va_S A0 s.heap s.heap [] := va_S.rf
  have hl : lv_has ls 1 [(0, .ref (G.2.1 0))] := hl
  refine lv_aload_n hx hb dX11_giant_0 rfl (lv_at hl 0 rfl) ?_
  refine lv_aload_n hx hb dX11_giant_1 rfl (lv_at hl 0 rfl) ?_
  refine va_get (D := D) (ci := 11) (v := .ref (G.2.1 40)) (C := RX11) (T := TX11) (N := 16) hx hb hts inU_X11 hown hK hP _ (hg_0 G Z Y σ) rfl 10 (by decide) (hts _ wd_245) (fun _ h9 => h9) rfl dX11_giant_2 ?_
  refine lv_aload_n hx hb dX11_giant_5 rfl (lv_at hl 0 rfl) ?_
  refine va_get (D := D) (ci := 11) (v := .ref (G.2.1 6)) (C := RX11) (T := TX11) (N := 16) hx hb hts inU_X11 hown hK hP _ (hg_0 G Z Y σ) rfl 3 (by decide) (hts _ wd_238) (fun _ h9 => h9) rfl dX11_giant_6 ?_
  refine cl_VE (C := RX11) (w := hW G Z Y σ) (As := [.ref (G.2.1 40), .ref (G.2.1 6)]) (rest := []) (stk := fun _ => [.int (i32 (nG_ A : Int))]) ⟨hx, hb, hml, hown, hts⟩ hK hE hA hP hD hS hk (cwV 2 hts (gwV wd_743 wd_745 wp_22 wd_1 wd_746) rfl rfl rfl hd_X11_keepText ⟨Nat.le_of_ble_eq_true rfl, Nat.le_of_ble_eq_true rfl⟩) (hg_0 G Z Y σ) rfl rfl rfl hl.1 rfl (Nat.le_of_ble_eq_true rfl) dX11_giant_9 ⟨Nat.le_of_ble_eq_true rfl, Nat.le_of_ble_eq_true rfl⟩ (fun _ => rfl) (fun q H locs hP hD hS => ?_)
  exact W.iret (v := i32 (nG_ A : Int)) hx hb hr (q_endE (W' := fun q => hW (wG G (gH G (nG_ A) (q 0) (q 1) (q 2))) (zH2 Z (nG_ A) (flat (tZc (aT A).1 (aT A).2 1)).length (cpI 400 (flat (tZc (aT A).1 (aT A).2 1)).length (σ1.1 3)) (capN (Z.2.1 10002) (nG_ A))) Y (sI σ1 1 2 0)) (rv := fun _ => some (.int (i32 (nG_ A : Int)))) q hK hP hD hS) hS.2.2 dX11_giant_12
