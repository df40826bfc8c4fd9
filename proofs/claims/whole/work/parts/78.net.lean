/-! LiarHall.net, where one is told -/
def gN (G : hG) (k a e : Nat) : Nat → Nat := fun r => if r = 9000 + k then a else if r = 10004 then e else G.2.1 r
theorem gN_n {A : HA} {G : hG} {a e : Nat} (hA : okA A) (hs : nN_ A < 12) : nwG A G (gN G (nN_ A) a e) (nwN (nN_ A)) 10004 := ⟨nwN_nt hA hs, fun r h1 h2 => by
  have h3 : r ≠ 9000 + nN_ A := by
    simpa only [nwN, List.mem_cons, List.not_mem_nil, or_false] using h1
  unfold gN
  rw [if_neg h3, if_neg h2]⟩
theorem gN_0 {G : hG} {k a e : Nat} (hs : k < 12) : gN G k a e (9000 + k) = a ∧ gN G k a e 10004 = e := by
  unfold gN
  refine ⟨if_pos rfl, ?_⟩
  rw [if_neg (by omega), if_pos rfl]
abbrev rm_X11net : Room := { frames := 12, cells := 2, slots := 60, locals := 400 }
set_option maxRecDepth 100000 in
set_option maxHeartbeats 8000000 in
theorem e_X11_net (l : Launch) (D : va_G) (G : hG) (Z : hZ) (Y : va_W) (σ τ : hSt) (A : HA) (hJ : J A Z σ τ) (hX : JX A G Z) (hR : RF A σ) (hs : nN_ A < 12) (n ed : Nat) (h2 : 2 ≤ n) (h6 : n ≤ 6) (hed : (ed : Int) < ((2 ^ ((n : Int) * ((n : Int) - 1) / 2).toNat : Nat) : Int)) :
    CE l yX11_net cX11_net 3 (some .int) rm_X11net D G 2 60 [.ref (G.2.1 0), .int (i32 (n : Int)), .int (i32 (ed : Int))] (hW G Z Y σ) (fun q => hW (wG G (gN G (nN_ A) (q 0) (q 1))) (zN2 Z (nN_ A) (n, ed) (capN (Z.2.1 10004) (nN_ A))) Y σ) (fun _ => some (.int (i32 (nN_ A : Int)))) := by
  obtain ⟨npw, npb⟩ := nt_pw n (by omega) h2
  have hli := hX.li (42, 10004, 9000, nN_ A) (by simp [liL])
  have hsz : f_Jx4a65c_size_8abf5 Z σ 42 = some (i32 (nN_ A : Int)) := congrArg some hli.1
  refine CE.mk (cc := cX11_net) (maxL := 3) (ret := some .int) (own := RX11) (plainFor_of_name (by decide)) rfl (Nat.le_of_ble_eq_true rfl) ?_
  intro p e s m args below meth c A0 ls C0 _ hA hP hD hl
  obtain ⟨hx, hb, hr, hml, hown, hts, hlocks, hK, hE⟩ := id C0
  have hS : va_S A0 s.heap s.heap [] := va_S.rf
  have hl : lv_has ls 3 [(0, .ref (G.2.1 0)), (1, .int (i32 (n : Int))), (2, .int (i32 (ed : Int)))] := hl
  refine lv_aload_n hx hb dX11_net_0 rfl (lv_at hl 0 rfl) ?_
  refine va_get (D := D) (ci := 11) (v := .ref (G.2.1 42)) (C := RX11) (T := TX11) (N := 16) hx hb hts inU_X11 hown hK hP _ (hg_0 G Z Y σ) rfl 12 (by decide) (hts _ wd_247) (fun _ h9 => h9) rfl dX11_net_1 ?_
  refine cl_V (G := G) (w := (hW G Z Y σ)) (w' := (hW G Z Y σ)) (rv := some (.int (i32 (nN_ A : Int)))) (bytes := cJx4a65c_size_8abf5) (maxL := 1) (ret := (some .int)) (C := RJx4a65c) (As := []) (rest := []) (stk := [.int (i32 (nN_ A : Int))]) ⟨hx, hb, hml, hown, hts⟩ hK hE hA hP hD hS (c_Jx4a65c_size_8abf5 l D G Z Y σ 42 (rfl : isLi 42 = true) _ hsz) (cwV 0 hts (gwV wd_523 wd_524 wd_525 wd_10 wd_526) rfl rfl rfl hd_Jx4a65c_size_8abf5 ⟨Nat.le_of_ble_eq_true rfl, Nat.le_of_ble_eq_true rfl⟩) (hg_42 G Z Y σ) rfl rfl rfl hl.1 rfl (Nat.le_of_ble_eq_true rfl) dX11_net_4 ⟨Nat.le_of_ble_eq_true rfl, Nat.le_of_ble_eq_true rfl⟩ rfl (fun H locs hP hD hS => ?_)
  refine lv_bipush (v := 12) hx hb dX11_net_7 (by decide) ?_
  refine lv_icmp_ge (tgt := 23) hx hb dX11_net_9 (by decide) (fun c1 => absurd c1 (fun h => by have := (leI (a := 12) (by omega)).mp h; omega)) (fun _ => ?_)
  refine lv_iload_n hx hb dX11_net_12 rfl (lv_at hl 1 rfl) ?_
  refine lv_iconst (v := (2 : Int32)) hx hb dX11_net_13 (by decide) ?_
  refine lv_icmp_lt (tgt := 23) hx hb dX11_net_14 (by decide) (fun c1 => absurd c1 (fun h => by have := (ltI (b := 2) (by omega)).mp h; omega)) (fun _ => ?_)
  refine lv_iload_n hx hb dX11_net_17 rfl (lv_at hl 1 rfl) ?_
  refine lv_bipush (v := 6) hx hb dX11_net_18 (by decide) ?_
  refine lv_icmp_le (tgt := 25) hx hb dX11_net_20 (by decide) (fun _ => ?_) (fun c1 => absurd ((leI (b := 6) (by omega)).mpr (by omega)) c1)
  refine lv_iload_n hx hb dX11_net_25 rfl (lv_at hl 2 rfl) ?_
  refine lv_if_lt (tgt := 42) hx hb dX11_net_26 (by decide) (fun c1 => absurd c1 (fun h => by have := (ltI (b := 0) (by omega)).mp h; omega)) (fun _ => ?_)
  refine lv_iload_n hx hb dX11_net_29 rfl (lv_at hl 2 rfl) ?_
  refine lv_iconst (v := (1 : Int32)) hx hb dX11_net_30 (by decide) ?_
  refine lv_iload_n hx hb dX11_net_31 rfl (lv_at hl 1 rfl) ?_
  refine lv_iload_n hx hb dX11_net_32 rfl (lv_at hl 1 rfl) ?_
  refine lv_iconst (v := (1 : Int32)) hx hb dX11_net_33 (by decide) ?_
  refine lv_isub hx hb dX11_net_34 ?_
  refine lv_imul hx hb dX11_net_35 ?_
  refine lv_iconst (v := (2 : Int32)) hx hb dX11_net_36 (by decide) ?_
  refine lv_idiv hx hb dX11_net_37 (by decide) ?_
  refine lv_ishl hx hb dX11_net_38 ?_
  rw [npw]
  refine lv_icmp_lt (tgt := 44) hx hb dX11_net_39 (by decide) (fun _ => ?_) (fun c1 => absurd ((ltI (by omega)).mpr hed) c1)
  refine lv_aload_n hx hb dX11_net_44 rfl (lv_at hl 0 rfl) ?_
  refine va_get (D := D) (ci := 11) (v := .ref (G.2.1 42)) (C := RX11) (T := TX11) (N := 16) hx hb hts inU_X11 hown hK hP _ (hg_0 G Z Y σ) rfl 12 (by decide) (hts _ wd_247) (fun _ h9 => h9) rfl dX11_net_45 ?_
  refine va_new (ci := 3) (fs := [.int (0 : Int32), .int (0 : Int32)]) (C := RX2) (T := TX2) (N := 2) hx hb hts inU_X2 tyX2 tyX2_ok hown (hts _ wd_1052) (hts _ wd_1053) (hts _ wd_29) hK hP hD hS hA rfl (fun j hj => by rcases (show j = 0 ∨ j = 1 by omega) with rfl | rfl <;> rfl) (Nat.le_of_ble_eq_true rfl) (Nat.le_of_ble_eq_true rfl) dX11_net_48 (fun q1 H hP hD hS => ?_)
  have hP := pfront hP
  have hD := dfront hD
  refine lv_dup hx hb dX11_net_51 rfl ?_
  refine lv_iload_n hx hb dX11_net_52 rfl (lv_at hl 1 rfl) ?_
  refine lv_iload_n hx hb dX11_net_53 rfl (lv_at hl 2 rfl) ?_
  refine cl_IE (w := (q1, .inr (3, [.int (0 : Int32), .int (0 : Int32)])) :: hW G Z Y σ) (rv := fun _ => none) (bytes := cX2_init) (maxL := 3) (As := [.int (i32 (n : Int)), .int (i32 (ed : Int))]) (rest := [.ref q1, .ref (G.2.1 42)]) (stk := fun _ => [.ref q1, .ref (G.2.1 42)]) ⟨hx, hb, hml, hown, hts⟩ hK hE hA hP hD hS (e_X2_init l D G (hW G Z Y σ) q1 (i32 (n : Int)) (i32 (ed : Int))) (mkI hts wd_1054 wd_1055 wd_29 wd_1056 rfl rfl rfl hd_X2_init ⟨Nat.le_of_ble_eq_true rfl, Nat.le_of_ble_eq_true rfl⟩) rfl hl.1 rfl (Nat.le_of_ble_eq_true rfl) dX11_net_54 ⟨Nat.le_of_ble_eq_true rfl, Nat.le_of_ble_eq_true rfl⟩ (fun _ => rfl) (fun qq H locs hP hD hS => ?_)
  have hP : va_P D vwCl ([(q1, .inr (3, [.int (i32 (n : Int)), .int (i32 (ed : Int))]))] ++ hW G Z Y σ) H := hP
  have hD : va_D A0 ([(q1, .inr (3, [.int (i32 (n : Int)), .int (i32 (ed : Int))]))] ++ hW G Z Y σ) := hD
  refine cl_add (Nw := [(q1, .inr (3, [.int (i32 (n : Int)), .int (i32 (ed : Int))]))]) (lr := 42) (er := 10004) (base := 9000) (c := nN_ A) (qv := q1) (ci := 3) (cj := 4) (kv := 0) ⟨hx, hb, hml, hown, hts⟩ hts hK hE hA hP hD hS (by decide) (by decide) hli (by omega) rfl rfl (fun i hi => ?_) rfl hl.1 (Nat.le_of_ble_eq_true rfl) dX11_net_57 ⟨Nat.le_of_ble_eq_true rfl, Nat.le_of_ble_eq_true rfl⟩ ⟨Nat.le_of_ble_eq_true rfl, Nat.le_of_ble_eq_true rfl⟩ (fun E' H locs hP hD hS => ?_)
  · obtain ⟨a1, -⟩ := hJ.2.1.2.2.2.2.2 i hi
    have a1 := ne_iff.mp a1
    exact ⟨a1.1, by omega, _, hd_ne (by omega)⟩
  have hn2 := gN_n (G := G) (a := q1) (e := E') hJ.1 hs
  have hN2 : [(q1, .inr (3, [.int (i32 (n : Int)), .int (i32 (ed : Int))]))] = (nwN (nN_ A)).map (fun r => (gN G (nN_ A) q1 E' r, hd (wG G (gN G (nN_ A) q1 E')) (zN2 Z (nN_ A) (n, ed) (capN (Z.2.1 10004) (nN_ A))) r)) := by
    have d0 : hd (wG G (gN G (nN_ A) q1 E')) (zN2 Z (nN_ A) (n, ed) (capN (Z.2.1 10004) (nN_ A))) (9000 + nN_ A) = .inr (3, [.int (i32 (n : Int)), .int (i32 (ed : Int))]) := by
      rw [hd_ne (by omega)]
      have k0 : (zN2 Z (nN_ A) (n, ed) (capN (Z.2.1 10004) (nN_ A))).2.2.1 (9000 + nN_ A) 0 = i32 (n : Int) := by
        show (if 9000 + nN_ A = 42 then _ else if 9000 + nN_ A = 9000 + nN_ A then (if 0 = 0 then _ else _) else _) = _
        rw [if_neg (by omega), if_pos rfl, if_pos rfl]
      have k1 : (zN2 Z (nN_ A) (n, ed) (capN (Z.2.1 10004) (nN_ A))).2.2.1 (9000 + nN_ A) 1 = i32 (ed : Int) := by
        show (if 9000 + nN_ A = 42 then _ else if 9000 + nN_ A = 9000 + nN_ A then (if 1 = 0 then _ else if 1 = 1 then _ else _) else _) = _
        rw [if_neg (by omega), if_pos rfl, if_neg (by decide), if_pos rfl]
      rw [k0, k1]
    show _ = [(gN G (nN_ A) q1 E' (9000 + nN_ A), hd (wG G (gN G (nN_ A) q1 E')) (zN2 Z (nN_ A) (n, ed) (capN (Z.2.1 10004) (nN_ A))) (9000 + nN_ A))]
    rw [(gN_0 hs).1, d0]
  have hj := T_join (Y := Y) (42, 10004, 9000, nN_ A) (by simp [liL]) hJ.1 hJ.2.1 hX hn2 hR (zN_off Z (nN_ A) (n, ed)) (n' := capN (Z.2.1 10004) (nN_ A)) hN2 (gN_0 hs).2.symm (gN_0 hs).1.symm
  have hP : va_P D vwCl (hW (wG G (gN G (nN_ A) q1 E')) (zN2 Z (nN_ A) (n, ed) (capN (Z.2.1 10004) (nN_ A))) Y σ) H := pperm hj hP
  have hD : va_D A0 (hW (wG G (gN G (nN_ A) q1 E')) (zN2 Z (nN_ A) (n, ed) (capN (Z.2.1 10004) (nN_ A))) Y σ) := dperm hj hD
  refine lv_pop hx hb dX11_net_60 rfl ?_
  refine lv_aload_n hx hb dX11_net_61 rfl (lv_at hl 0 rfl) ?_
  have g00 : (wG G (gN G (nN_ A) q1 E')).2.1 0 = G.2.1 0 := hn2.low (by decide) (by decide)
  have h0 := hg_0 (wG G (gN G (nN_ A) q1 E')) (zN2 Z (nN_ A) (n, ed) (capN (Z.2.1 10004) (nN_ A))) Y σ
  rw [g00] at h0
  refine va_get (D := D) (ci := 11) (v := .ref ((wG G (gN G (nN_ A) q1 E')).2.1 42)) (C := RX11) (T := TX11) (N := 16) hx hb hts inU_X11 hown hK hP _ h0 rfl 12 (by decide) (hts _ wd_247) (fun _ h9 => h9) rfl dX11_net_62 ?_
  have hsz2 : f_Jx4a65c_size_8abf5 (zN2 Z (nN_ A) (n, ed) (capN (Z.2.1 10004) (nN_ A))) σ 42 = some (i32 ((nN_ A + 1 : Nat) : Int)) := congrArg some zT_sz
  refine cl_V (G := wG G (gN G (nN_ A) q1 E')) (w := (hW (wG G (gN G (nN_ A) q1 E')) (zN2 Z (nN_ A) (n, ed) (capN (Z.2.1 10004) (nN_ A))) Y σ)) (w' := (hW (wG G (gN G (nN_ A) q1 E')) (zN2 Z (nN_ A) (n, ed) (capN (Z.2.1 10004) (nN_ A))) Y σ)) (rv := some (.int (i32 ((nN_ A + 1 : Nat) : Int)))) (bytes := cJx4a65c_size_8abf5) (maxL := 1) (ret := (some .int)) (C := RJx4a65c) (As := []) (rest := []) (stk := [.int (i32 ((nN_ A + 1 : Nat) : Int))]) ⟨hx, hb, hml, hown, hts⟩ hK hE hA hP hD hS (c_Jx4a65c_size_8abf5 l D (wG G (gN G (nN_ A) q1 E')) (zN2 Z (nN_ A) (n, ed) (capN (Z.2.1 10004) (nN_ A))) Y σ 42 (rfl : isLi 42 = true) _ hsz2) (cwV 0 hts (gwV wd_523 wd_524 wd_525 wd_10 wd_526) rfl rfl rfl hd_Jx4a65c_size_8abf5 ⟨Nat.le_of_ble_eq_true rfl, Nat.le_of_ble_eq_true rfl⟩) (hg_42 (wG G (gN G (nN_ A) q1 E')) (zN2 Z (nN_ A) (n, ed) (capN (Z.2.1 10004) (nN_ A))) Y σ) rfl rfl rfl hl.1 rfl (Nat.le_of_ble_eq_true rfl) dX11_net_65 ⟨Nat.le_of_ble_eq_true rfl, Nat.le_of_ble_eq_true rfl⟩ rfl (fun H locs hP hD hS => ?_)
  refine lv_iconst (v := (1 : Int32)) hx hb dX11_net_68 (by decide) ?_
  refine lv_isub hx hb dX11_net_69 ?_
  have ev : i32 ((nN_ A + 1 : Nat) : Int) - 1 = i32 (nN_ A : Int) := by rw [show (1 : Int32) = i32 1 from rfl, i32_sub]; congr 1; omega
  rw [ev]
  refine W.widen (k := 2) (n := 60) (Nat.le_of_ble_eq_true rfl) (Nat.le_of_ble_eq_true rfl) ?_
  exact W.iret (v := i32 (nN_ A : Int)) hx hb hr (q_endE (W' := fun q => hW (wG G (gN G (nN_ A) (q 0) (q 1))) (zN2 Z (nN_ A) (n, ed) (capN (Z.2.1 10004) (nN_ A))) Y σ) (rv := fun _ => some (.int (i32 (nN_ A : Int)))) (fun k => [q1, E'].getD k 0) hK hP hD hS) hS.2.2 dX11_net_70
