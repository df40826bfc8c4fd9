def rmG_Ma (d : Nat) : Room := { frames := 8 + d, cells := 0, slots := 0, locals := 189 + d * 25 }
set_option maxRecDepth 100000 in
set_option maxHeartbeats 8000000 in
theorem W_X12_reckon_L5 {p : Program} {e : Env} {s : State} {m : MethodId} {args : Array Value} {below : List Frame} {meth : Method} {c : Code} {A : Nat → Prop} (l : Launch) (D : va_G) (G : hG) (Z : hZ) (Y : va_W) (F : Nat) (d : Nat) (u_X12_term : (hSt → Option (Int64 × hSt))) (hu_X12_term : ∀ (σ0 : hSt) (res : (Int64 × hSt)), u_X12_term σ0  = some res → CT l yX12_term cX12_term 6 (some .long) (rmG_Ma d) D G 0 0 [.ref (G.2.1 200)] (mW G Z Y σ0) (mW G Z Y res.2) (some (.long res.1))) (σ0 : hSt) (res : (Int64 × hSt)) (C0 : Cx p s m args meth c cX12_reckon (some .long) RX12 6 D G A) (hA : ∀ q : Nat, s.heap.size ≤ q → A q) : ∀ (n : Nat) (σ1 : hSt) (z1 : Int64), f_X12_reckon_L5 F Z u_X12_term n σ1 z1 = some res → ∀ (H : Heap) (locs : List Loc) (ls : Array Slot), va_P D vwCl (mW G Z Y σ1) H → va_D A (mW G Z Y σ1) → va_S A s.heap H locs → lv_has ls 6 [(0, .ref (G.2.1 200)), (1, .long z1)] → W p l e (rmG_Ma (d + 1)) s m args below meth c H locs 0 0 (MQ below (Qg (some (.long res.1)) D (tysG G) (mW G Z Y res.2) A) args s 0 0 A) (F0 m 5 ls []) := by
  obtain ⟨hx, hb, hr, hml, hown, hts, hlocks, hK, hE⟩ := id C0
  intro n
  induction n with
  | zero =>
    intro σ1 z1 h
    cases h
  | succ n ih =>
    intro σ1 z1 h H locs ls hP hD hS hl
    rw [f_X12_reckon_L5] at h
    refine lv_aload_n hx hb dX12_reckon_5 rfl (lv_at hl 0 rfl) ?_
    refine va_get (D := D) (ci := 12) (v := .int (σ1.1 200 7)) (C := RX12) (T := TX12) (N := 59) hx hb hts inU_X12 hown hK hP _ (mg_200 G Z Y σ1) rfl 7 (by decide) (hts _ wd_1255) (fun _ h9 => h9) rfl dX12_reckon_6 ?_
    refine lv_iconst (v := (-1)) hx hb dX12_reckon_9 (by decide) ?_
    refine lv_icmp_ne (tgt := 84) hx hb dX12_reckon_10 (by decide) (fun c2 => ?_) (fun c2 => ?_)
    · skip
      have h := f_f c2 h
      refine lv_lload_n hx hb dX12_reckon_84 rfl (lv_at hl 1 rfl) ?_
      obtain rfl := Option.some.inj h
      exact W.lret (v := z1) hx hb hr (q_end hK hP hD hS) hS.2.2 dX12_reckon_85
    · skip
      have h := f_t c2 h
      refine lv_aload_n hx hb dX12_reckon_13 rfl (lv_at hl 0 rfl) ?_
      obtain ⟨q3, hq3, h⟩ := f_b h
      refine cl_V (w := (mW G Z Y σ1)) (w' := (mW G Z Y q3.2)) (rv := some (.int q3.1)) (bytes := cX12_look) (maxL := 1) (ret := (some .int)) (C := RX12) (As := []) (rest := []) (stk := [.int q3.1]) ⟨hx, hb, hml, hown, hts⟩ hK hE hA hP hD hS (c_X12_look l D G Z Y σ1 F q3 hq3) (cwV 0 hts (gwV wd_1468 wd_1470 wp_52 wd_11 wd_1471) rfl rfl rfl hd_X12_look ⟨by show 0 + 1 ≤ 8 + (d + 1); omega, by show 8 + (1 + 11) + 0 ≤ 189 + (d + 1) * 25; omega⟩) (mg_200 G Z Y σ1) rfl rfl rfl hl.1 rfl (Nat.le_of_ble_eq_true rfl) dX12_reckon_14 ⟨Nat.zero_le _, Nat.zero_le _⟩ rfl (fun H locs hP hD hS => ?_)
      refine lv_bipush (v := 43) hx hb dX12_reckon_17 (by decide) ?_
      refine lv_icmp_eq (tgt := 31) hx hb dX12_reckon_19 (by decide) (fun c4 => ?_) (fun c4 => ?_)
      · skip
        have h := f_t c4 h
        refine lv_aload_n hx hb dX12_reckon_31 rfl (lv_at hl 0 rfl) ?_
        obtain ⟨q5, hq5, h⟩ := f_b h
        refine cl_V (w := (mW G Z Y q3.2)) (w' := (mW G Z Y q5.2)) (rv := some (.int q5.1)) (bytes := cX12_look) (maxL := 1) (ret := (some .int)) (C := RX12) (As := []) (rest := []) (stk := [.int q5.1]) ⟨hx, hb, hml, hown, hts⟩ hK hE hA hP hD hS (c_X12_look l D G Z Y q3.2 F q5 hq5) (cwV 0 hts (gwV wd_1468 wd_1470 wp_52 wd_11 wd_1471) rfl rfl rfl hd_X12_look ⟨by show 0 + 1 ≤ 8 + (d + 1); omega, by show 8 + (1 + 11) + 0 ≤ 189 + (d + 1) * 25; omega⟩) (mg_200 G Z Y q3.2) rfl rfl rfl hl.1 rfl (Nat.le_of_ble_eq_true rfl) dX12_reckon_32 ⟨Nat.zero_le _, Nat.zero_le _⟩ rfl (fun H locs hP hD hS => ?_)
        refine lv_bipush (v := 43) hx hb dX12_reckon_35 (by decide) ?_
        refine lv_icmp_ne (tgt := 44) hx hb dX12_reckon_37 (by decide) (fun c6 => ?_) (fun c6 => ?_)
        · skip
          have h := f_f c6 h
          refine lv_iconst (v := 0) hx hb dX12_reckon_44 (by decide) ?_
          refine lv_istore_n (lv' := [(3, .int (0 : Int32)), (0, .ref (G.2.1 200)), (1, .long z1)]) hx hb dX12_reckon_45 rfl hl (by decide) rfl (fun ls hl => ?_)
          refine lv_aload_n hx hb dX12_reckon_46 rfl (lv_at hl 1 rfl) ?_
          refine lv_dup hx hb dX12_reckon_47 rfl ?_
          refine va_get (D := D) (ci := 12) (v := .int (q5.2.1 200 6)) (C := RX12) (T := TX12) (N := 59) hx hb hts inU_X12 hown hK hP _ (mg_200 G Z Y q5.2) rfl 6 (by decide) (hts _ wd_1254) (fun _ h9 => h9) rfl dX12_reckon_48 ?_
          refine lv_iconst (v := 1) hx hb dX12_reckon_51 (by decide) ?_
          refine lv_iadd hx hb dX12_reckon_52 ?_
          refine va_put (D := D) (ci := 12) (v := .int ((q5.2.1 200 6) + (1 : Int32))) (ty := .int) (C := RX12) (T := TX12) (N := 59) hx hb hts inU_X12 tyX12 tyX12_ok nmX12 hown hK hP hD hS _ (mg_200 G Z Y q5.2) rfl 6 (by decide) (hts _ wd_1254) (fun _ h9 => h9) rfl (by decide +kernel) rfl rfl (Nat.le_of_ble_eq_true rfl) dX12_reckon_53 (fun H locs hP hD hS => ?_)
          have hP := wrP (mp_200_6 G Z Y q5.2 ((q5.2.1 200 6) + (1 : Int32))) hP
          have hD := wrD (mp_200_6 G Z Y q5.2 ((q5.2.1 200 6) + (1 : Int32))) hD
          refine lv_aload_n hx hb dX12_reckon_56 rfl (lv_at hl 1 rfl) ?_
          obtain ⟨q7, hq7, h⟩ := f_b h
          refine cl_V (w := (mW G Z Y (sI q5.2 200 6 ((q5.2.1 200 6) + (1 : Int32))))) (w' := (mW G Z Y q7.2)) (rv := some (.long q7.1)) (bytes := cX12_term) (maxL := 6) (ret := (some .long)) (C := RX12) (As := []) (rest := []) (stk := [.long q7.1]) ⟨hx, hb, hml, hown, hts⟩ hK hE hA hP hD hS (hu_X12_term (sI q5.2 200 6 ((q5.2.1 200 6) + (1 : Int32))) q7 hq7) (cwV 0 hts (gwV wd_1600 wd_1602 wp_70 wd_11 wd_1603) rfl rfl rfl hd_X12_term ⟨by show 8 + d + 1 ≤ 8 + (d + 1); omega, by show 8 + (6 + 11) + (189 + d * 25) ≤ 189 + (d + 1) * 25; omega⟩) (mg_200 G Z Y (sI q5.2 200 6 ((q5.2.1 200 6) + (1 : Int32)))) rfl rfl rfl hl.1 rfl (Nat.le_of_ble_eq_true rfl) dX12_reckon_57 ⟨Nat.zero_le _, Nat.zero_le _⟩ rfl (fun H locs hP hD hS => ?_)
          refine lv_lstore (lv' := [(4, .long q7.1), (3, .int (0 : Int32)), (0, .ref (G.2.1 200)), (1, .long z1)]) hx hb dX12_reckon_60 hl (by decide) rfl (fun ls hl => ?_)
          refine lv_iload_n hx hb dX12_reckon_62 rfl (lv_at hl 1 rfl) ?_
          refine lv_if_eq (tgt := 73) hx hb dX12_reckon_63 (by decide) (fun c8 => ?_) (fun c8 => ?_)
          · skip
            have h := f_t c8 h
            refine lv_lload_n hx hb dX12_reckon_73 rfl (lv_at hl 3 rfl) ?_
            refine lv_lload hx hb dX12_reckon_74 (lv_at hl 0 rfl) ?_
            refine lv_lsub hx hb dX12_reckon_76 ?_
            obtain ⟨q9, hq9, h⟩ := f_b h
            refine cl_S (w := (mW G Z Y q7.2)) (w' := (mW G Z Y q7.2)) (rv := some (.long q9)) (bytes := cX12_within) (maxL := 2) (ret := (some .long)) (As := [.long (z1 - q7.1)]) (rest := []) (stk := [.long q9]) ⟨hx, hb, hml, hown, hts⟩ hK hE hA hP hD hS (c_X12_within l D G (mW G Z Y q7.2) (z1 - q7.1) q9 hq9) (mkS hts wd_1614 wd_1615 wd_11 wd_1616 rfl rfl hd_X12_within ⟨by show 1 + 1 ≤ 8 + (d + 1); omega, by show 8 + (2 + 11) + 30 ≤ 189 + (d + 1) * 25; omega⟩) rfl hl.1 rfl (Nat.le_of_ble_eq_true rfl) dX12_reckon_77 ⟨Nat.zero_le _, Nat.zero_le _⟩ rfl (fun H locs hP hD hS => ?_)
            refine lv_lstore_n (lv' := [(1, .long q9), (4, .long q7.1), (3, .int (0 : Int32)), (0, .ref (G.2.1 200))]) hx hb dX12_reckon_80 rfl hl (by decide) rfl (fun ls hl => ?_)
            refine lv_goto (tgt := 5) hx hb dX12_reckon_81 (by decide) ?_
            exact ih q7.2 q9 h _ _ _ hP hD hS (lv_sub hl [3, 0] rfl)
          · skip
            have h := f_f c8 h
            refine lv_lload_n hx hb dX12_reckon_66 rfl (lv_at hl 3 rfl) ?_
            refine lv_lload hx hb dX12_reckon_67 (lv_at hl 0 rfl) ?_
            refine lv_ladd hx hb dX12_reckon_69 ?_
            refine lv_goto (tgt := 77) hx hb dX12_reckon_70 (by decide) ?_
            obtain ⟨q10, hq10, h⟩ := f_b h
            refine cl_S (w := (mW G Z Y q7.2)) (w' := (mW G Z Y q7.2)) (rv := some (.long q10)) (bytes := cX12_within) (maxL := 2) (ret := (some .long)) (As := [.long (z1 + q7.1)]) (rest := []) (stk := [.long q10]) ⟨hx, hb, hml, hown, hts⟩ hK hE hA hP hD hS (c_X12_within l D G (mW G Z Y q7.2) (z1 + q7.1) q10 hq10) (mkS hts wd_1614 wd_1615 wd_11 wd_1616 rfl rfl hd_X12_within ⟨by show 1 + 1 ≤ 8 + (d + 1); omega, by show 8 + (2 + 11) + 30 ≤ 189 + (d + 1) * 25; omega⟩) rfl hl.1 rfl (Nat.le_of_ble_eq_true rfl) dX12_reckon_77 ⟨Nat.zero_le _, Nat.zero_le _⟩ rfl (fun H locs hP hD hS => ?_)
            refine lv_lstore_n (lv' := [(1, .long q10), (4, .long q7.1), (3, .int (0 : Int32)), (0, .ref (G.2.1 200))]) hx hb dX12_reckon_80 rfl hl (by decide) rfl (fun ls hl => ?_)
            refine lv_goto (tgt := 5) hx hb dX12_reckon_81 (by decide) ?_
            exact ih q7.2 q10 h _ _ _ hP hD hS (lv_sub hl [3, 0] rfl)
        · skip
          have h := f_t c6 h
          refine lv_iconst (v := 1) hx hb dX12_reckon_40 (by decide) ?_
          refine lv_goto (tgt := 45) hx hb dX12_reckon_41 (by decide) ?_
          refine lv_istore_n (lv' := [(3, .int (1 : Int32)), (0, .ref (G.2.1 200)), (1, .long z1)]) hx hb dX12_reckon_45 rfl hl (by decide) rfl (fun ls hl => ?_)
          refine lv_aload_n hx hb dX12_reckon_46 rfl (lv_at hl 1 rfl) ?_
          refine lv_dup hx hb dX12_reckon_47 rfl ?_
          refine va_get (D := D) (ci := 12) (v := .int (q5.2.1 200 6)) (C := RX12) (T := TX12) (N := 59) hx hb hts inU_X12 hown hK hP _ (mg_200 G Z Y q5.2) rfl 6 (by decide) (hts _ wd_1254) (fun _ h9 => h9) rfl dX12_reckon_48 ?_
          refine lv_iconst (v := 1) hx hb dX12_reckon_51 (by decide) ?_
          refine lv_iadd hx hb dX12_reckon_52 ?_
          refine va_put (D := D) (ci := 12) (v := .int ((q5.2.1 200 6) + (1 : Int32))) (ty := .int) (C := RX12) (T := TX12) (N := 59) hx hb hts inU_X12 tyX12 tyX12_ok nmX12 hown hK hP hD hS _ (mg_200 G Z Y q5.2) rfl 6 (by decide) (hts _ wd_1254) (fun _ h9 => h9) rfl (by decide +kernel) rfl rfl (Nat.le_of_ble_eq_true rfl) dX12_reckon_53 (fun H locs hP hD hS => ?_)
          have hP := wrP (mp_200_6 G Z Y q5.2 ((q5.2.1 200 6) + (1 : Int32))) hP
          have hD := wrD (mp_200_6 G Z Y q5.2 ((q5.2.1 200 6) + (1 : Int32))) hD
          refine lv_aload_n hx hb dX12_reckon_56 rfl (lv_at hl 1 rfl) ?_
          obtain ⟨q11, hq11, h⟩ := f_b h
          refine cl_V (w := (mW G Z Y (sI q5.2 200 6 ((q5.2.1 200 6) + (1 : Int32))))) (w' := (mW G Z Y q11.2)) (rv := some (.long q11.1)) (bytes := cX12_term) (maxL := 6) (ret := (some .long)) (C := RX12) (As := []) (rest := []) (stk := [.long q11.1]) ⟨hx, hb, hml, hown, hts⟩ hK hE hA hP hD hS (hu_X12_term (sI q5.2 200 6 ((q5.2.1 200 6) + (1 : Int32))) q11 hq11) (cwV 0 hts (gwV wd_1600 wd_1602 wp_70 wd_11 wd_1603) rfl rfl rfl hd_X12_term ⟨by show 8 + d + 1 ≤ 8 + (d + 1); omega, by show 8 + (6 + 11) + (189 + d * 25) ≤ 189 + (d + 1) * 25; omega⟩) (mg_200 G Z Y (sI q5.2 200 6 ((q5.2.1 200 6) + (1 : Int32)))) rfl rfl rfl hl.1 rfl (Nat.le_of_ble_eq_true rfl) dX12_reckon_57 ⟨Nat.zero_le _, Nat.zero_le _⟩ rfl (fun H locs hP hD hS => ?_)
          refine lv_lstore (lv' := [(4, .long q11.1), (3, .int (1 : Int32)), (0, .ref (G.2.1 200)), (1, .long z1)]) hx hb dX12_reckon_60 hl (by decide) rfl (fun ls hl => ?_)
          refine lv_iload_n hx hb dX12_reckon_62 rfl (lv_at hl 1 rfl) ?_
          refine lv_if_eq (tgt := 73) hx hb dX12_reckon_63 (by decide) (fun c12 => ?_) (fun c12 => ?_)
          · skip
            have h := f_t c12 h
            refine lv_lload_n hx hb dX12_reckon_73 rfl (lv_at hl 3 rfl) ?_
            refine lv_lload hx hb dX12_reckon_74 (lv_at hl 0 rfl) ?_
            refine lv_lsub hx hb dX12_reckon_76 ?_
            obtain ⟨q13, hq13, h⟩ := f_b h
            refine cl_S (w := (mW G Z Y q11.2)) (w' := (mW G Z Y q11.2)) (rv := some (.long q13)) (bytes := cX12_within) (maxL := 2) (ret := (some .long)) (As := [.long (z1 - q11.1)]) (rest := []) (stk := [.long q13]) ⟨hx, hb, hml, hown, hts⟩ hK hE hA hP hD hS (c_X12_within l D G (mW G Z Y q11.2) (z1 - q11.1) q13 hq13) (mkS hts wd_1614 wd_1615 wd_11 wd_1616 rfl rfl hd_X12_within ⟨by show 1 + 1 ≤ 8 + (d + 1); omega, by show 8 + (2 + 11) + 30 ≤ 189 + (d + 1) * 25; omega⟩) rfl hl.1 rfl (Nat.le_of_ble_eq_true rfl) dX12_reckon_77 ⟨Nat.zero_le _, Nat.zero_le _⟩ rfl (fun H locs hP hD hS => ?_)
            refine lv_lstore_n (lv' := [(1, .long q13), (4, .long q11.1), (3, .int (1 : Int32)), (0, .ref (G.2.1 200))]) hx hb dX12_reckon_80 rfl hl (by decide) rfl (fun ls hl => ?_)
            refine lv_goto (tgt := 5) hx hb dX12_reckon_81 (by decide) ?_
            exact ih q11.2 q13 h _ _ _ hP hD hS (lv_sub hl [3, 0] rfl)
          · skip
            have h := f_f c12 h
            refine lv_lload_n hx hb dX12_reckon_66 rfl (lv_at hl 3 rfl) ?_
            refine lv_lload hx hb dX12_reckon_67 (lv_at hl 0 rfl) ?_
            refine lv_ladd hx hb dX12_reckon_69 ?_
            refine lv_goto (tgt := 77) hx hb dX12_reckon_70 (by decide) ?_
            obtain ⟨q14, hq14, h⟩ := f_b h
            refine cl_S (w := (mW G Z Y q11.2)) (w' := (mW G Z Y q11.2)) (rv := some (.long q14)) (bytes := cX12_within) (maxL := 2) (ret := (some .long)) (As := [.long (z1 + q11.1)]) (rest := []) (stk := [.long q14]) ⟨hx, hb, hml, hown, hts⟩ hK hE hA hP hD hS (c_X12_within l D G (mW G Z Y q11.2) (z1 + q11.1) q14 hq14) (mkS hts wd_1614 wd_1615 wd_11 wd_1616 rfl rfl hd_X12_within ⟨by show 1 + 1 ≤ 8 + (d + 1); omega, by show 8 + (2 + 11) + 30 ≤ 189 + (d + 1) * 25; omega⟩) rfl hl.1 rfl (Nat.le_of_ble_eq_true rfl) dX12_reckon_77 ⟨Nat.zero_le _, Nat.zero_le _⟩ rfl (fun H locs hP hD hS => ?_)
            refine lv_lstore_n (lv' := [(1, .long q14), (4, .long q11.1), (3, .int (1 : Int32)), (0, .ref (G.2.1 200))]) hx hb dX12_reckon_80 rfl hl (by decide) rfl (fun ls hl => ?_)
            refine lv_goto (tgt := 5) hx hb dX12_reckon_81 (by decide) ?_
            exact ih q11.2 q14 h _ _ _ hP hD hS (lv_sub hl [3, 0] rfl)
      · skip
        have h := f_f c4 h
        refine lv_aload_n hx hb dX12_reckon_22 rfl (lv_at hl 0 rfl) ?_
        obtain ⟨q15, hq15, h⟩ := f_b h
        refine cl_V (w := (mW G Z Y q3.2)) (w' := (mW G Z Y q15.2)) (rv := some (.int q15.1)) (bytes := cX12_look) (maxL := 1) (ret := (some .int)) (C := RX12) (As := []) (rest := []) (stk := [.int q15.1]) ⟨hx, hb, hml, hown, hts⟩ hK hE hA hP hD hS (c_X12_look l D G Z Y q3.2 F q15 hq15) (cwV 0 hts (gwV wd_1468 wd_1470 wp_52 wd_11 wd_1471) rfl rfl rfl hd_X12_look ⟨by show 0 + 1 ≤ 8 + (d + 1); omega, by show 8 + (1 + 11) + 0 ≤ 189 + (d + 1) * 25; omega⟩) (mg_200 G Z Y q3.2) rfl rfl rfl hl.1 rfl (Nat.le_of_ble_eq_true rfl) dX12_reckon_23 ⟨Nat.zero_le _, Nat.zero_le _⟩ rfl (fun H locs hP hD hS => ?_)
        refine lv_bipush (v := 45) hx hb dX12_reckon_26 (by decide) ?_
        refine lv_icmp_ne (tgt := 84) hx hb dX12_reckon_28 (by decide) (fun c16 => ?_) (fun c16 => ?_)
        · skip
          have h := f_f c16 h
          refine lv_lload_n hx hb dX12_reckon_84 rfl (lv_at hl 1 rfl) ?_
          obtain rfl := Option.some.inj h
          exact W.lret (v := z1) hx hb hr (q_end hK hP hD hS) hS.2.2 dX12_reckon_85
        · skip
          have h := f_t c16 h
          refine lv_aload_n hx hb dX12_reckon_31 rfl (lv_at hl 0 rfl) ?_
          obtain ⟨q17, hq17, h⟩ := f_b h
          refine cl_V (w := (mW G Z Y q15.2)) (w' := (mW G Z Y q17.2)) (rv := some (.int q17.1)) (bytes := cX12_look) (maxL := 1) (ret := (some .int)) (C := RX12) (As := []) (rest := []) (stk := [.int q17.1]) ⟨hx, hb, hml, hown, hts⟩ hK hE hA hP hD hS (c_X12_look l D G Z Y q15.2 F q17 hq17) (cwV 0 hts (gwV wd_1468 wd_1470 wp_52 wd_11 wd_1471) rfl rfl rfl hd_X12_look ⟨by show 0 + 1 ≤ 8 + (d + 1); omega, by show 8 + (1 + 11) + 0 ≤ 189 + (d + 1) * 25; omega⟩) (mg_200 G Z Y q15.2) rfl rfl rfl hl.1 rfl (Nat.le_of_ble_eq_true rfl) dX12_reckon_32 ⟨Nat.zero_le _, Nat.zero_le _⟩ rfl (fun H locs hP hD hS => ?_)
          refine lv_bipush (v := 43) hx hb dX12_reckon_35 (by decide) ?_
          refine lv_icmp_ne (tgt := 44) hx hb dX12_reckon_37 (by decide) (fun c18 => ?_) (fun c18 => ?_)
          · skip
            have h := f_f c18 h
            refine lv_iconst (v := 0) hx hb dX12_reckon_44 (by decide) ?_
            refine lv_istore_n (lv' := [(3, .int (0 : Int32)), (0, .ref (G.2.1 200)), (1, .long z1)]) hx hb dX12_reckon_45 rfl hl (by decide) rfl (fun ls hl => ?_)
            refine lv_aload_n hx hb dX12_reckon_46 rfl (lv_at hl 1 rfl) ?_
            refine lv_dup hx hb dX12_reckon_47 rfl ?_
            refine va_get (D := D) (ci := 12) (v := .int (q17.2.1 200 6)) (C := RX12) (T := TX12) (N := 59) hx hb hts inU_X12 hown hK hP _ (mg_200 G Z Y q17.2) rfl 6 (by decide) (hts _ wd_1254) (fun _ h9 => h9) rfl dX12_reckon_48 ?_
            refine lv_iconst (v := 1) hx hb dX12_reckon_51 (by decide) ?_
            refine lv_iadd hx hb dX12_reckon_52 ?_
            refine va_put (D := D) (ci := 12) (v := .int ((q17.2.1 200 6) + (1 : Int32))) (ty := .int) (C := RX12) (T := TX12) (N := 59) hx hb hts inU_X12 tyX12 tyX12_ok nmX12 hown hK hP hD hS _ (mg_200 G Z Y q17.2) rfl 6 (by decide) (hts _ wd_1254) (fun _ h9 => h9) rfl (by decide +kernel) rfl rfl (Nat.le_of_ble_eq_true rfl) dX12_reckon_53 (fun H locs hP hD hS => ?_)
            have hP := wrP (mp_200_6 G Z Y q17.2 ((q17.2.1 200 6) + (1 : Int32))) hP
            have hD := wrD (mp_200_6 G Z Y q17.2 ((q17.2.1 200 6) + (1 : Int32))) hD
            refine lv_aload_n hx hb dX12_reckon_56 rfl (lv_at hl 1 rfl) ?_
            obtain ⟨q19, hq19, h⟩ := f_b h
            refine cl_V (w := (mW G Z Y (sI q17.2 200 6 ((q17.2.1 200 6) + (1 : Int32))))) (w' := (mW G Z Y q19.2)) (rv := some (.long q19.1)) (bytes := cX12_term) (maxL := 6) (ret := (some .long)) (C := RX12) (As := []) (rest := []) (stk := [.long q19.1]) ⟨hx, hb, hml, hown, hts⟩ hK hE hA hP hD hS (hu_X12_term (sI q17.2 200 6 ((q17.2.1 200 6) + (1 : Int32))) q19 hq19) (cwV 0 hts (gwV wd_1600 wd_1602 wp_70 wd_11 wd_1603) rfl rfl rfl hd_X12_term ⟨by show 8 + d + 1 ≤ 8 + (d + 1); omega, by show 8 + (6 + 11) + (189 + d * 25) ≤ 189 + (d + 1) * 25; omega⟩) (mg_200 G Z Y (sI q17.2 200 6 ((q17.2.1 200 6) + (1 : Int32)))) rfl rfl rfl hl.1 rfl (Nat.le_of_ble_eq_true rfl) dX12_reckon_57 ⟨Nat.zero_le _, Nat.zero_le _⟩ rfl (fun H locs hP hD hS => ?_)
            refine lv_lstore (lv' := [(4, .long q19.1), (3, .int (0 : Int32)), (0, .ref (G.2.1 200)), (1, .long z1)]) hx hb dX12_reckon_60 hl (by decide) rfl (fun ls hl => ?_)
            refine lv_iload_n hx hb dX12_reckon_62 rfl (lv_at hl 1 rfl) ?_
            refine lv_if_eq (tgt := 73) hx hb dX12_reckon_63 (by decide) (fun c20 => ?_) (fun c20 => ?_)
            · skip
              have h := f_t c20 h
              refine lv_lload_n hx hb dX12_reckon_73 rfl (lv_at hl 3 rfl) ?_
              refine lv_lload hx hb dX12_reckon_74 (lv_at hl 0 rfl) ?_
              refine lv_lsub hx hb dX12_reckon_76 ?_
              obtain ⟨q21, hq21, h⟩ := f_b h
              refine cl_S (w := (mW G Z Y q19.2)) (w' := (mW G Z Y q19.2)) (rv := some (.long q21)) (bytes := cX12_within) (maxL := 2) (ret := (some .long)) (As := [.long (z1 - q19.1)]) (rest := []) (stk := [.long q21]) ⟨hx, hb, hml, hown, hts⟩ hK hE hA hP hD hS (c_X12_within l D G (mW G Z Y q19.2) (z1 - q19.1) q21 hq21) (mkS hts wd_1614 wd_1615 wd_11 wd_1616 rfl rfl hd_X12_within ⟨by show 1 + 1 ≤ 8 + (d + 1); omega, by show 8 + (2 + 11) + 30 ≤ 189 + (d + 1) * 25; omega⟩) rfl hl.1 rfl (Nat.le_of_ble_eq_true rfl) dX12_reckon_77 ⟨Nat.zero_le _, Nat.zero_le _⟩ rfl (fun H locs hP hD hS => ?_)
              refine lv_lstore_n (lv' := [(1, .long q21), (4, .long q19.1), (3, .int (0 : Int32)), (0, .ref (G.2.1 200))]) hx hb dX12_reckon_80 rfl hl (by decide) rfl (fun ls hl => ?_)
              refine lv_goto (tgt := 5) hx hb dX12_reckon_81 (by decide) ?_
              exact ih q19.2 q21 h _ _ _ hP hD hS (lv_sub hl [3, 0] rfl)
            · skip
              have h := f_f c20 h
              refine lv_lload_n hx hb dX12_reckon_66 rfl (lv_at hl 3 rfl) ?_
              refine lv_lload hx hb dX12_reckon_67 (lv_at hl 0 rfl) ?_
              refine lv_ladd hx hb dX12_reckon_69 ?_
              refine lv_goto (tgt := 77) hx hb dX12_reckon_70 (by decide) ?_
              obtain ⟨q22, hq22, h⟩ := f_b h
              refine cl_S (w := (mW G Z Y q19.2)) (w' := (mW G Z Y q19.2)) (rv := some (.long q22)) (bytes := cX12_within) (maxL := 2) (ret := (some .long)) (As := [.long (z1 + q19.1)]) (rest := []) (stk := [.long q22]) ⟨hx, hb, hml, hown, hts⟩ hK hE hA hP hD hS (c_X12_within l D G (mW G Z Y q19.2) (z1 + q19.1) q22 hq22) (mkS hts wd_1614 wd_1615 wd_11 wd_1616 rfl rfl hd_X12_within ⟨by show 1 + 1 ≤ 8 + (d + 1); omega, by show 8 + (2 + 11) + 30 ≤ 189 + (d + 1) * 25; omega⟩) rfl hl.1 rfl (Nat.le_of_ble_eq_true rfl) dX12_reckon_77 ⟨Nat.zero_le _, Nat.zero_le _⟩ rfl (fun H locs hP hD hS => ?_)
              refine lv_lstore_n (lv' := [(1, .long q22), (4, .long q19.1), (3, .int (0 : Int32)), (0, .ref (G.2.1 200))]) hx hb dX12_reckon_80 rfl hl (by decide) rfl (fun ls hl => ?_)
              refine lv_goto (tgt := 5) hx hb dX12_reckon_81 (by decide) ?_
              exact ih q19.2 q22 h _ _ _ hP hD hS (lv_sub hl [3, 0] rfl)
          · skip
            have h := f_t c18 h
            refine lv_iconst (v := 1) hx hb dX12_reckon_40 (by decide) ?_
            refine lv_goto (tgt := 45) hx hb dX12_reckon_41 (by decide) ?_
            refine lv_istore_n (lv' := [(3, .int (1 : Int32)), (0, .ref (G.2.1 200)), (1, .long z1)]) hx hb dX12_reckon_45 rfl hl (by decide) rfl (fun ls hl => ?_)
            refine lv_aload_n hx hb dX12_reckon_46 rfl (lv_at hl 1 rfl) ?_
            refine lv_dup hx hb dX12_reckon_47 rfl ?_
            refine va_get (D := D) (ci := 12) (v := .int (q17.2.1 200 6)) (C := RX12) (T := TX12) (N := 59) hx hb hts inU_X12 hown hK hP _ (mg_200 G Z Y q17.2) rfl 6 (by decide) (hts _ wd_1254) (fun _ h9 => h9) rfl dX12_reckon_48 ?_
            refine lv_iconst (v := 1) hx hb dX12_reckon_51 (by decide) ?_
            refine lv_iadd hx hb dX12_reckon_52 ?_
            refine va_put (D := D) (ci := 12) (v := .int ((q17.2.1 200 6) + (1 : Int32))) (ty := .int) (C := RX12) (T := TX12) (N := 59) hx hb hts inU_X12 tyX12 tyX12_ok nmX12 hown hK hP hD hS _ (mg_200 G Z Y q17.2) rfl 6 (by decide) (hts _ wd_1254) (fun _ h9 => h9) rfl (by decide +kernel) rfl rfl (Nat.le_of_ble_eq_true rfl) dX12_reckon_53 (fun H locs hP hD hS => ?_)
            have hP := wrP (mp_200_6 G Z Y q17.2 ((q17.2.1 200 6) + (1 : Int32))) hP
            have hD := wrD (mp_200_6 G Z Y q17.2 ((q17.2.1 200 6) + (1 : Int32))) hD
            refine lv_aload_n hx hb dX12_reckon_56 rfl (lv_at hl 1 rfl) ?_
            obtain ⟨q23, hq23, h⟩ := f_b h
            refine cl_V (w := (mW G Z Y (sI q17.2 200 6 ((q17.2.1 200 6) + (1 : Int32))))) (w' := (mW G Z Y q23.2)) (rv := some (.long q23.1)) (bytes := cX12_term) (maxL := 6) (ret := (some .long)) (C := RX12) (As := []) (rest := []) (stk := [.long q23.1]) ⟨hx, hb, hml, hown, hts⟩ hK hE hA hP hD hS (hu_X12_term (sI q17.2 200 6 ((q17.2.1 200 6) + (1 : Int32))) q23 hq23) (cwV 0 hts (gwV wd_1600 wd_1602 wp_70 wd_11 wd_1603) rfl rfl rfl hd_X12_term ⟨by show 8 + d + 1 ≤ 8 + (d + 1); omega, by show 8 + (6 + 11) + (189 + d * 25) ≤ 189 + (d + 1) * 25; omega⟩) (mg_200 G Z Y (sI q17.2 200 6 ((q17.2.1 200 6) + (1 : Int32)))) rfl rfl rfl hl.1 rfl (Nat.le_of_ble_eq_true rfl) dX12_reckon_57 ⟨Nat.zero_le _, Nat.zero_le _⟩ rfl (fun H locs hP hD hS => ?_)
            refine lv_lstore (lv' := [(4, .long q23.1), (3, .int (1 : Int32)), (0, .ref (G.2.1 200)), (1, .long z1)]) hx hb dX12_reckon_60 hl (by decide) rfl (fun ls hl => ?_)
            refine lv_iload_n hx hb dX12_reckon_62 rfl (lv_at hl 1 rfl) ?_
            refine lv_if_eq (tgt := 73) hx hb dX12_reckon_63 (by decide) (fun c24 => ?_) (fun c24 => ?_)
            · skip
              have h := f_t c24 h
              refine lv_lload_n hx hb dX12_reckon_73 rfl (lv_at hl 3 rfl) ?_
              refine lv_lload hx hb dX12_reckon_74 (lv_at hl 0 rfl) ?_
              refine lv_lsub hx hb dX12_reckon_76 ?_
              obtain ⟨q25, hq25, h⟩ := f_b h
              refine cl_S (w := (mW G Z Y q23.2)) (w' := (mW G Z Y q23.2)) (rv := some (.long q25)) (bytes := cX12_within) (maxL := 2) (ret := (some .long)) (As := [.long (z1 - q23.1)]) (rest := []) (stk := [.long q25]) ⟨hx, hb, hml, hown, hts⟩ hK hE hA hP hD hS (c_X12_within l D G (mW G Z Y q23.2) (z1 - q23.1) q25 hq25) (mkS hts wd_1614 wd_1615 wd_11 wd_1616 rfl rfl hd_X12_within ⟨by show 1 + 1 ≤ 8 + (d + 1); omega, by show 8 + (2 + 11) + 30 ≤ 189 + (d + 1) * 25; omega⟩) rfl hl.1 rfl (Nat.le_of_ble_eq_true rfl) dX12_reckon_77 ⟨Nat.zero_le _, Nat.zero_le _⟩ rfl (fun H locs hP hD hS => ?_)
              refine lv_lstore_n (lv' := [(1, .long q25), (4, .long q23.1), (3, .int (1 : Int32)), (0, .ref (G.2.1 200))]) hx hb dX12_reckon_80 rfl hl (by decide) rfl (fun ls hl => ?_)
              refine lv_goto (tgt := 5) hx hb dX12_reckon_81 (by decide) ?_
              exact ih q23.2 q25 h _ _ _ hP hD hS (lv_sub hl [3, 0] rfl)
            · skip
              have h := f_f c24 h
              refine lv_lload_n hx hb dX12_reckon_66 rfl (lv_at hl 3 rfl) ?_
              refine lv_lload hx hb dX12_reckon_67 (lv_at hl 0 rfl) ?_
              refine lv_ladd hx hb dX12_reckon_69 ?_
              refine lv_goto (tgt := 77) hx hb dX12_reckon_70 (by decide) ?_
              obtain ⟨q26, hq26, h⟩ := f_b h
              refine cl_S (w := (mW G Z Y q23.2)) (w' := (mW G Z Y q23.2)) (rv := some (.long q26)) (bytes := cX12_within) (maxL := 2) (ret := (some .long)) (As := [.long (z1 + q23.1)]) (rest := []) (stk := [.long q26]) ⟨hx, hb, hml, hown, hts⟩ hK hE hA hP hD hS (c_X12_within l D G (mW G Z Y q23.2) (z1 + q23.1) q26 hq26) (mkS hts wd_1614 wd_1615 wd_11 wd_1616 rfl rfl hd_X12_within ⟨by show 1 + 1 ≤ 8 + (d + 1); omega, by show 8 + (2 + 11) + 30 ≤ 189 + (d + 1) * 25; omega⟩) rfl hl.1 rfl (Nat.le_of_ble_eq_true rfl) dX12_reckon_77 ⟨Nat.zero_le _, Nat.zero_le _⟩ rfl (fun H locs hP hD hS => ?_)
              refine lv_lstore_n (lv' := [(1, .long q26), (4, .long q23.1), (3, .int (1 : Int32)), (0, .ref (G.2.1 200))]) hx hb dX12_reckon_80 rfl hl (by decide) rfl (fun ls hl => ?_)
              refine lv_goto (tgt := 5) hx hb dX12_reckon_81 (by decide) ?_
              exact ih q23.2 q26 h _ _ _ hP hD hS (lv_sub hl [3, 0] rfl)
set_option maxRecDepth 100000 in
set_option maxHeartbeats 8000000 in
theorem o_X12_reckon (l : Launch) (D : va_G) (G : hG) (Z : hZ) (Y : va_W) (F : Nat) (d : Nat) (u_X12_term : (hSt → Option (Int64 × hSt))) (hu_X12_term : ∀ (σ0 : hSt) (res : (Int64 × hSt)), u_X12_term σ0  = some res → CT l yX12_term cX12_term 6 (some .long) (rmG_Ma d) D G 0 0 [.ref (G.2.1 200)] (mW G Z Y σ0) (mW G Z Y res.2) (some (.long res.1))) (σ0 : hSt) (res : (Int64 × hSt)) (h : b_X12_reckon F Z u_X12_term σ0 = some res) : CT l yX12_reckon cX12_reckon 6 (some .long) (rmG_Ma (d + 1)) D G 0 0 [.ref (G.2.1 200)] (mW G Z Y σ0) (mW G Z Y res.2) (some (.long res.1)) := by
  unfold b_X12_reckon at h
  refine CT.mk (cc := cX12_reckon) (maxL := 6) (ret := (some .long)) (own := RX12) (plainFor_of_name (by decide)) rfl (Nat.le_of_ble_eq_true rfl) ?_
  intro p e s m args below meth c A ls C0 hnm hA hP hD hl
  obtain ⟨hx, hb, hr, hml, hown, hts, hlocks, hK, hE⟩ := id C0
  have hS : va_S A s.heap s.heap [] := va_S.rf
  have hl : lv_has ls 6 [(0, .ref (G.2.1 200))] := hl
  refine lv_aload_n hx hb dX12_reckon_0 rfl (lv_at hl 0 rfl) ?_
  obtain ⟨q1, hq1, h⟩ := f_b h
  refine cl_V (w := (mW G Z Y σ0)) (w' := (mW G Z Y q1.2)) (rv := some (.long q1.1)) (bytes := cX12_term) (maxL := 6) (ret := (some .long)) (C := RX12) (As := []) (rest := []) (stk := [.long q1.1]) ⟨hx, hb, hml, hown, hts⟩ hK hE hA hP hD hS (hu_X12_term σ0 q1 hq1) (cwV 0 hts (gwV wd_1600 wd_1602 wp_70 wd_11 wd_1603) rfl rfl rfl hd_X12_term ⟨by show 8 + d + 1 ≤ 8 + (d + 1); omega, by show 8 + (6 + 11) + (189 + d * 25) ≤ 189 + (d + 1) * 25; omega⟩) (mg_200 G Z Y σ0) rfl rfl rfl hl.1 rfl (Nat.le_of_ble_eq_true rfl) dX12_reckon_1 ⟨Nat.zero_le _, Nat.zero_le _⟩ rfl (fun H locs hP hD hS => ?_)
  refine lv_lstore_n (lv' := [(1, .long q1.1), (0, .ref (G.2.1 200))]) hx hb dX12_reckon_4 rfl hl (by decide) rfl (fun ls hl => ?_)
  refine W_X12_reckon_L5 l D G Z Y F d u_X12_term hu_X12_term σ0 res C0 hA F q1.2 q1.1 h _ _ _ hP hD hS (lv_sub hl [1, 0] rfl)
set_option maxRecDepth 100000 in
set_option maxHeartbeats 8000000 in
theorem W_X12_term_L5 {p : Program} {e : Env} {s : State} {m : MethodId} {args : Array Value} {below : List Frame} {meth : Method} {c : Code} {A : Nat → Prop} (l : Launch) (D : va_G) (G : hG) (Z : hZ) (Y : va_W) (F : Nat) (d : Nat) (u_X12_atom : (hSt → Option (Int64 × hSt))) (hu_X12_atom : ∀ (σ0 : hSt) (res : (Int64 × hSt)), u_X12_atom σ0  = some res → CT l yX12_atom cX12_atom 5 (some .long) (rmG_Ma d) D G 0 0 [.ref (G.2.1 200)] (mW G Z Y σ0) (mW G Z Y res.2) (some (.long res.1))) (σ0 : hSt) (res : (Int64 × hSt)) (C0 : Cx p s m args meth c cX12_term (some .long) RX12 6 D G A) (hA : ∀ q : Nat, s.heap.size ≤ q → A q) : ∀ (n : Nat) (σ1 : hSt) (z1 : Int64), f_X12_term_L5 F Z u_X12_atom n σ1 z1 = some res → ∀ (H : Heap) (locs : List Loc) (ls : Array Slot), va_P D vwCl (mW G Z Y σ1) H → va_D A (mW G Z Y σ1) → va_S A s.heap H locs → lv_has ls 6 [(0, .ref (G.2.1 200)), (1, .long z1)] → W p l e (rmG_Ma (d + 1)) s m args below meth c H locs 0 0 (MQ below (Qg (some (.long res.1)) D (tysG G) (mW G Z Y res.2) A) args s 0 0 A) (F0 m 5 ls []) := by
  obtain ⟨hx, hb, hr, hml, hown, hts, hlocks, hK, hE⟩ := id C0
  intro n
  induction n with
  | zero =>
    intro σ1 z1 h
    cases h
  | succ n ih =>
    intro σ1 z1 h H locs ls hP hD hS hl
    rw [f_X12_term_L5] at h
    refine lv_aload_n hx hb dX12_term_5 rfl (lv_at hl 0 rfl) ?_
    refine va_get (D := D) (ci := 12) (v := .int (σ1.1 200 7)) (C := RX12) (T := TX12) (N := 59) hx hb hts inU_X12 hown hK hP _ (mg_200 G Z Y σ1) rfl 7 (by decide) (hts _ wd_1255) (fun _ h9 => h9) rfl dX12_term_6 ?_
    refine lv_iconst (v := (-1)) hx hb dX12_term_9 (by decide) ?_
    refine lv_icmp_ne (tgt := 95) hx hb dX12_term_10 (by decide) (fun c2 => ?_) (fun c2 => ?_)
    · skip
      have h := f_f c2 h
      refine lv_lload_n hx hb dX12_term_95 rfl (lv_at hl 1 rfl) ?_
      obtain rfl := Option.some.inj h
      exact W.lret (v := z1) hx hb hr (q_end hK hP hD hS) hS.2.2 dX12_term_96
    · skip
      have h := f_t c2 h
      refine lv_aload_n hx hb dX12_term_13 rfl (lv_at hl 0 rfl) ?_
      obtain ⟨q3, hq3, h⟩ := f_b h
      refine cl_V (w := (mW G Z Y σ1)) (w' := (mW G Z Y q3.2)) (rv := some (.int q3.1)) (bytes := cX12_look) (maxL := 1) (ret := (some .int)) (C := RX12) (As := []) (rest := []) (stk := [.int q3.1]) ⟨hx, hb, hml, hown, hts⟩ hK hE hA hP hD hS (c_X12_look l D G Z Y σ1 F q3 hq3) (cwV 0 hts (gwV wd_1468 wd_1470 wp_52 wd_11 wd_1471) rfl rfl rfl hd_X12_look ⟨by show 0 + 1 ≤ 8 + (d + 1); omega, by show 8 + (1 + 11) + 0 ≤ 189 + (d + 1) * 25; omega⟩) (mg_200 G Z Y σ1) rfl rfl rfl hl.1 rfl (Nat.le_of_ble_eq_true rfl) dX12_term_14 ⟨Nat.zero_le _, Nat.zero_le _⟩ rfl (fun H locs hP hD hS => ?_)
      refine lv_bipush (v := 42) hx hb dX12_term_17 (by decide) ?_
      refine lv_icmp_eq (tgt := 31) hx hb dX12_term_19 (by decide) (fun c4 => ?_) (fun c4 => ?_)
      · skip
        have h := f_t c4 h
        refine lv_aload_n hx hb dX12_term_31 rfl (lv_at hl 0 rfl) ?_
        obtain ⟨q5, hq5, h⟩ := f_b h
        refine cl_V (w := (mW G Z Y q3.2)) (w' := (mW G Z Y q5.2)) (rv := some (.int q5.1)) (bytes := cX12_look) (maxL := 1) (ret := (some .int)) (C := RX12) (As := []) (rest := []) (stk := [.int q5.1]) ⟨hx, hb, hml, hown, hts⟩ hK hE hA hP hD hS (c_X12_look l D G Z Y q3.2 F q5 hq5) (cwV 0 hts (gwV wd_1468 wd_1470 wp_52 wd_11 wd_1471) rfl rfl rfl hd_X12_look ⟨by show 0 + 1 ≤ 8 + (d + 1); omega, by show 8 + (1 + 11) + 0 ≤ 189 + (d + 1) * 25; omega⟩) (mg_200 G Z Y q3.2) rfl rfl rfl hl.1 rfl (Nat.le_of_ble_eq_true rfl) dX12_term_32 ⟨Nat.zero_le _, Nat.zero_le _⟩ rfl (fun H locs hP hD hS => ?_)
        refine lv_bipush (v := 42) hx hb dX12_term_35 (by decide) ?_
        refine lv_icmp_ne (tgt := 44) hx hb dX12_term_37 (by decide) (fun c6 => ?_) (fun c6 => ?_)
        · skip
          have h := f_f c6 h
          refine lv_iconst (v := 0) hx hb dX12_term_44 (by decide) ?_
          refine lv_istore_n (lv' := [(3, .int (0 : Int32)), (0, .ref (G.2.1 200)), (1, .long z1)]) hx hb dX12_term_45 rfl hl (by decide) rfl (fun ls hl => ?_)
          refine lv_aload_n hx hb dX12_term_46 rfl (lv_at hl 1 rfl) ?_
          refine lv_dup hx hb dX12_term_47 rfl ?_
          refine va_get (D := D) (ci := 12) (v := .int (q5.2.1 200 6)) (C := RX12) (T := TX12) (N := 59) hx hb hts inU_X12 hown hK hP _ (mg_200 G Z Y q5.2) rfl 6 (by decide) (hts _ wd_1254) (fun _ h9 => h9) rfl dX12_term_48 ?_
          refine lv_iconst (v := 1) hx hb dX12_term_51 (by decide) ?_
          refine lv_iadd hx hb dX12_term_52 ?_
          refine va_put (D := D) (ci := 12) (v := .int ((q5.2.1 200 6) + (1 : Int32))) (ty := .int) (C := RX12) (T := TX12) (N := 59) hx hb hts inU_X12 tyX12 tyX12_ok nmX12 hown hK hP hD hS _ (mg_200 G Z Y q5.2) rfl 6 (by decide) (hts _ wd_1254) (fun _ h9 => h9) rfl (by decide +kernel) rfl rfl (Nat.le_of_ble_eq_true rfl) dX12_term_53 (fun H locs hP hD hS => ?_)
          have hP := wrP (mp_200_6 G Z Y q5.2 ((q5.2.1 200 6) + (1 : Int32))) hP
          have hD := wrD (mp_200_6 G Z Y q5.2 ((q5.2.1 200 6) + (1 : Int32))) hD
          refine lv_aload_n hx hb dX12_term_56 rfl (lv_at hl 1 rfl) ?_
          obtain ⟨q7, hq7, h⟩ := f_b h
          refine cl_V (w := (mW G Z Y (sI q5.2 200 6 ((q5.2.1 200 6) + (1 : Int32))))) (w' := (mW G Z Y q7.2)) (rv := some (.long q7.1)) (bytes := cX12_atom) (maxL := 5) (ret := (some .long)) (C := RX12) (As := []) (rest := []) (stk := [.long q7.1]) ⟨hx, hb, hml, hown, hts⟩ hK hE hA hP hD hS (hu_X12_atom (sI q5.2 200 6 ((q5.2.1 200 6) + (1 : Int32))) q7 hq7) (cwV 0 hts (gwV wd_1604 wd_1606 wp_71 wd_11 wd_1607) rfl rfl rfl hd_X12_atom ⟨by show 8 + d + 1 ≤ 8 + (d + 1); omega, by show 8 + (5 + 11) + (189 + d * 25) ≤ 189 + (d + 1) * 25; omega⟩) (mg_200 G Z Y (sI q5.2 200 6 ((q5.2.1 200 6) + (1 : Int32)))) rfl rfl rfl hl.1 rfl (Nat.le_of_ble_eq_true rfl) dX12_term_57 ⟨Nat.zero_le _, Nat.zero_le _⟩ rfl (fun H locs hP hD hS => ?_)
          refine lv_lstore (lv' := [(4, .long q7.1), (3, .int (0 : Int32)), (0, .ref (G.2.1 200)), (1, .long z1)]) hx hb dX12_term_60 hl (by decide) rfl (fun ls hl => ?_)
          refine lv_iload_n hx hb dX12_term_62 rfl (lv_at hl 1 rfl) ?_
          refine lv_if_eq (tgt := 73) hx hb dX12_term_63 (by decide) (fun c8 => ?_) (fun c8 => ?_)
          · skip
            have h := f_t c8 h
            refine lv_lload hx hb dX12_term_73 (lv_at hl 0 rfl) ?_
            refine lv_lconst (v := 0) hx hb dX12_term_75 (by decide) ?_
            refine W.lcmp hx hb dX12_term_76 ?_
            refine lv_if_ne (tgt := 84) hx hb dX12_term_77 (by decide) (fun c9 => ?_) (fun c9 => ?_)
            · skip
              have c9 := mt (lg_cmp_eq _ _).mpr c9
              have h := f_f c9 h
              refine lv_lload_n hx hb dX12_term_84 rfl (lv_at hl 3 rfl) ?_
              refine lv_lload hx hb dX12_term_85 (lv_at hl 0 rfl) ?_
              obtain ⟨c10, h⟩ := f_n h
              refine lv_ldiv hx hb dX12_term_87 c10 ?_
              obtain ⟨q11, hq11, h⟩ := f_b h
              refine cl_S (w := (mW G Z Y q7.2)) (w' := (mW G Z Y q7.2)) (rv := some (.long q11)) (bytes := cX12_within) (maxL := 2) (ret := (some .long)) (As := [.long (z1 / q7.1)]) (rest := []) (stk := [.long q11]) ⟨hx, hb, hml, hown, hts⟩ hK hE hA hP hD hS (c_X12_within l D G (mW G Z Y q7.2) (z1 / q7.1) q11 hq11) (mkS hts wd_1614 wd_1615 wd_11 wd_1616 rfl rfl hd_X12_within ⟨by show 1 + 1 ≤ 8 + (d + 1); omega, by show 8 + (2 + 11) + 30 ≤ 189 + (d + 1) * 25; omega⟩) rfl hl.1 rfl (Nat.le_of_ble_eq_true rfl) dX12_term_88 ⟨Nat.zero_le _, Nat.zero_le _⟩ rfl (fun H locs hP hD hS => ?_)
              refine lv_lstore_n (lv' := [(1, .long q11), (4, .long q7.1), (3, .int (0 : Int32)), (0, .ref (G.2.1 200))]) hx hb dX12_term_91 rfl hl (by decide) rfl (fun ls hl => ?_)
              refine lv_goto (tgt := 5) hx hb dX12_term_92 (by decide) ?_
              exact ih q7.2 q11 h _ _ _ hP hD hS (lv_sub hl [3, 0] rfl)
            · skip
              have c9 := (lg_cmp_eq _ _).mp c9
              have h := f_t c9 h
              refine lv_lconst (v := 0) hx hb dX12_term_80 (by decide) ?_
              refine lv_goto (tgt := 88) hx hb dX12_term_81 (by decide) ?_
              obtain ⟨q12, hq12, h⟩ := f_b h
              refine cl_S (w := (mW G Z Y q7.2)) (w' := (mW G Z Y q7.2)) (rv := some (.long q12)) (bytes := cX12_within) (maxL := 2) (ret := (some .long)) (As := [.long (0 : Int64)]) (rest := []) (stk := [.long q12]) ⟨hx, hb, hml, hown, hts⟩ hK hE hA hP hD hS (c_X12_within l D G (mW G Z Y q7.2) (0 : Int64) q12 hq12) (mkS hts wd_1614 wd_1615 wd_11 wd_1616 rfl rfl hd_X12_within ⟨by show 1 + 1 ≤ 8 + (d + 1); omega, by show 8 + (2 + 11) + 30 ≤ 189 + (d + 1) * 25; omega⟩) rfl hl.1 rfl (Nat.le_of_ble_eq_true rfl) dX12_term_88 ⟨Nat.zero_le _, Nat.zero_le _⟩ rfl (fun H locs hP hD hS => ?_)
              refine lv_lstore_n (lv' := [(1, .long q12), (4, .long q7.1), (3, .int (0 : Int32)), (0, .ref (G.2.1 200))]) hx hb dX12_term_91 rfl hl (by decide) rfl (fun ls hl => ?_)
              refine lv_goto (tgt := 5) hx hb dX12_term_92 (by decide) ?_
              exact ih q7.2 q12 h _ _ _ hP hD hS (lv_sub hl [3, 0] rfl)
          · skip
            have h := f_f c8 h
            refine lv_lload_n hx hb dX12_term_66 rfl (lv_at hl 3 rfl) ?_
            refine lv_lload hx hb dX12_term_67 (lv_at hl 0 rfl) ?_
            refine lv_lmul hx hb dX12_term_69 ?_
            refine lv_goto (tgt := 88) hx hb dX12_term_70 (by decide) ?_
            obtain ⟨q13, hq13, h⟩ := f_b h
            refine cl_S (w := (mW G Z Y q7.2)) (w' := (mW G Z Y q7.2)) (rv := some (.long q13)) (bytes := cX12_within) (maxL := 2) (ret := (some .long)) (As := [.long (z1 * q7.1)]) (rest := []) (stk := [.long q13]) ⟨hx, hb, hml, hown, hts⟩ hK hE hA hP hD hS (c_X12_within l D G (mW G Z Y q7.2) (z1 * q7.1) q13 hq13) (mkS hts wd_1614 wd_1615 wd_11 wd_1616 rfl rfl hd_X12_within ⟨by show 1 + 1 ≤ 8 + (d + 1); omega, by show 8 + (2 + 11) + 30 ≤ 189 + (d + 1) * 25; omega⟩) rfl hl.1 rfl (Nat.le_of_ble_eq_true rfl) dX12_term_88 ⟨Nat.zero_le _, Nat.zero_le _⟩ rfl (fun H locs hP hD hS => ?_)
            refine lv_lstore_n (lv' := [(1, .long q13), (4, .long q7.1), (3, .int (0 : Int32)), (0, .ref (G.2.1 200))]) hx hb dX12_term_91 rfl hl (by decide) rfl (fun ls hl => ?_)
            refine lv_goto (tgt := 5) hx hb dX12_term_92 (by decide) ?_
            exact ih q7.2 q13 h _ _ _ hP hD hS (lv_sub hl [3, 0] rfl)
        · skip
          have h := f_t c6 h
          refine lv_iconst (v := 1) hx hb dX12_term_40 (by decide) ?_
          refine lv_goto (tgt := 45) hx hb dX12_term_41 (by decide) ?_
          refine lv_istore_n (lv' := [(3, .int (1 : Int32)), (0, .ref (G.2.1 200)), (1, .long z1)]) hx hb dX12_term_45 rfl hl (by decide) rfl (fun ls hl => ?_)
          refine lv_aload_n hx hb dX12_term_46 rfl (lv_at hl 1 rfl) ?_
          refine lv_dup hx hb dX12_term_47 rfl ?_
          refine va_get (D := D) (ci := 12) (v := .int (q5.2.1 200 6)) (C := RX12) (T := TX12) (N := 59) hx hb hts inU_X12 hown hK hP _ (mg_200 G Z Y q5.2) rfl 6 (by decide) (hts _ wd_1254) (fun _ h9 => h9) rfl dX12_term_48 ?_
          refine lv_iconst (v := 1) hx hb dX12_term_51 (by decide) ?_
          refine lv_iadd hx hb dX12_term_52 ?_
          refine va_put (D := D) (ci := 12) (v := .int ((q5.2.1 200 6) + (1 : Int32))) (ty := .int) (C := RX12) (T := TX12) (N := 59) hx hb hts inU_X12 tyX12 tyX12_ok nmX12 hown hK hP hD hS _ (mg_200 G Z Y q5.2) rfl 6 (by decide) (hts _ wd_1254) (fun _ h9 => h9) rfl (by decide +kernel) rfl rfl (Nat.le_of_ble_eq_true rfl) dX12_term_53 (fun H locs hP hD hS => ?_)
          have hP := wrP (mp_200_6 G Z Y q5.2 ((q5.2.1 200 6) + (1 : Int32))) hP
          have hD := wrD (mp_200_6 G Z Y q5.2 ((q5.2.1 200 6) + (1 : Int32))) hD
          refine lv_aload_n hx hb dX12_term_56 rfl (lv_at hl 1 rfl) ?_
          obtain ⟨q14, hq14, h⟩ := f_b h
          refine cl_V (w := (mW G Z Y (sI q5.2 200 6 ((q5.2.1 200 6) + (1 : Int32))))) (w' := (mW G Z Y q14.2)) (rv := some (.long q14.1)) (bytes := cX12_atom) (maxL := 5) (ret := (some .long)) (C := RX12) (As := []) (rest := []) (stk := [.long q14.1]) ⟨hx, hb, hml, hown, hts⟩ hK hE hA hP hD hS (hu_X12_atom (sI q5.2 200 6 ((q5.2.1 200 6) + (1 : Int32))) q14 hq14) (cwV 0 hts (gwV wd_1604 wd_1606 wp_71 wd_11 wd_1607) rfl rfl rfl hd_X12_atom ⟨by show 8 + d + 1 ≤ 8 + (d + 1); omega, by show 8 + (5 + 11) + (189 + d * 25) ≤ 189 + (d + 1) * 25; omega⟩) (mg_200 G Z Y (sI q5.2 200 6 ((q5.2.1 200 6) + (1 : Int32)))) rfl rfl rfl hl.1 rfl (Nat.le_of_ble_eq_true rfl) dX12_term_57 ⟨Nat.zero_le _, Nat.zero_le _⟩ rfl (fun H locs hP hD hS => ?_)
          refine lv_lstore (lv' := [(4, .long q14.1), (3, .int (1 : Int32)), (0, .ref (G.2.1 200)), (1, .long z1)]) hx hb dX12_term_60 hl (by decide) rfl (fun ls hl => ?_)
          refine lv_iload_n hx hb dX12_term_62 rfl (lv_at hl 1 rfl) ?_
          refine lv_if_eq (tgt := 73) hx hb dX12_term_63 (by decide) (fun c15 => ?_) (fun c15 => ?_)
          · skip
            have h := f_t c15 h
            refine lv_lload hx hb dX12_term_73 (lv_at hl 0 rfl) ?_
            refine lv_lconst (v := 0) hx hb dX12_term_75 (by decide) ?_
            refine W.lcmp hx hb dX12_term_76 ?_
            refine lv_if_ne (tgt := 84) hx hb dX12_term_77 (by decide) (fun c16 => ?_) (fun c16 => ?_)
            · skip
              have c16 := mt (lg_cmp_eq _ _).mpr c16
              have h := f_f c16 h
              refine lv_lload_n hx hb dX12_term_84 rfl (lv_at hl 3 rfl) ?_
              refine lv_lload hx hb dX12_term_85 (lv_at hl 0 rfl) ?_
              obtain ⟨c17, h⟩ := f_n h
              refine lv_ldiv hx hb dX12_term_87 c17 ?_
              obtain ⟨q18, hq18, h⟩ := f_b h
              refine cl_S (w := (mW G Z Y q14.2)) (w' := (mW G Z Y q14.2)) (rv := some (.long q18)) (bytes := cX12_within) (maxL := 2) (ret := (some .long)) (As := [.long (z1 / q14.1)]) (rest := []) (stk := [.long q18]) ⟨hx, hb, hml, hown, hts⟩ hK hE hA hP hD hS (c_X12_within l D G (mW G Z Y q14.2) (z1 / q14.1) q18 hq18) (mkS hts wd_1614 wd_1615 wd_11 wd_1616 rfl rfl hd_X12_within ⟨by show 1 + 1 ≤ 8 + (d + 1); omega, by show 8 + (2 + 11) + 30 ≤ 189 + (d + 1) * 25; omega⟩) rfl hl.1 rfl (Nat.le_of_ble_eq_true rfl) dX12_term_88 ⟨Nat.zero_le _, Nat.zero_le _⟩ rfl (fun H locs hP hD hS => ?_)
              refine lv_lstore_n (lv' := [(1, .long q18), (4, .long q14.1), (3, .int (1 : Int32)), (0, .ref (G.2.1 200))]) hx hb dX12_term_91 rfl hl (by decide) rfl (fun ls hl => ?_)
              refine lv_goto (tgt := 5) hx hb dX12_term_92 (by decide) ?_
              exact ih q14.2 q18 h _ _ _ hP hD hS (lv_sub hl [3, 0] rfl)
            · skip
              have c16 := (lg_cmp_eq _ _).mp c16
              have h := f_t c16 h
              refine lv_lconst (v := 0) hx hb dX12_term_80 (by decide) ?_
              refine lv_goto (tgt := 88) hx hb dX12_term_81 (by decide) ?_
              obtain ⟨q19, hq19, h⟩ := f_b h
              refine cl_S (w := (mW G Z Y q14.2)) (w' := (mW G Z Y q14.2)) (rv := some (.long q19)) (bytes := cX12_within) (maxL := 2) (ret := (some .long)) (As := [.long (0 : Int64)]) (rest := []) (stk := [.long q19]) ⟨hx, hb, hml, hown, hts⟩ hK hE hA hP hD hS (c_X12_within l D G (mW G Z Y q14.2) (0 : Int64) q19 hq19) (mkS hts wd_1614 wd_1615 wd_11 wd_1616 rfl rfl hd_X12_within ⟨by show 1 + 1 ≤ 8 + (d + 1); omega, by show 8 + (2 + 11) + 30 ≤ 189 + (d + 1) * 25; omega⟩) rfl hl.1 rfl (Nat.le_of_ble_eq_true rfl) dX12_term_88 ⟨Nat.zero_le _, Nat.zero_le _⟩ rfl (fun H locs hP hD hS => ?_)
              refine lv_lstore_n (lv' := [(1, .long q19), (4, .long q14.1), (3, .int (1 : Int32)), (0, .ref (G.2.1 200))]) hx hb dX12_term_91 rfl hl (by decide) rfl (fun ls hl => ?_)
              refine lv_goto (tgt := 5) hx hb dX12_term_92 (by decide) ?_
              exact ih q14.2 q19 h _ _ _ hP hD hS (lv_sub hl [3, 0] rfl)
          · skip
            have h := f_f c15 h
            refine lv_lload_n hx hb dX12_term_66 rfl (lv_at hl 3 rfl) ?_
            refine lv_lload hx hb dX12_term_67 (lv_at hl 0 rfl) ?_
            refine lv_lmul hx hb dX12_term_69 ?_
            refine lv_goto (tgt := 88) hx hb dX12_term_70 (by decide) ?_
            obtain ⟨q20, hq20, h⟩ := f_b h
            refine cl_S (w := (mW G Z Y q14.2)) (w' := (mW G Z Y q14.2)) (rv := some (.long q20)) (bytes := cX12_within) (maxL := 2) (ret := (some .long)) (As := [.long (z1 * q14.1)]) (rest := []) (stk := [.long q20]) ⟨hx, hb, hml, hown, hts⟩ hK hE hA hP hD hS (c_X12_within l D G (mW G Z Y q14.2) (z1 * q14.1) q20 hq20) (mkS hts wd_1614 wd_1615 wd_11 wd_1616 rfl rfl hd_X12_within ⟨by show 1 + 1 ≤ 8 + (d + 1); omega, by show 8 + (2 + 11) + 30 ≤ 189 + (d + 1) * 25; omega⟩) rfl hl.1 rfl (Nat.le_of_ble_eq_true rfl) dX12_term_88 ⟨Nat.zero_le _, Nat.zero_le _⟩ rfl (fun H locs hP hD hS => ?_)
            refine lv_lstore_n (lv' := [(1, .long q20), (4, .long q14.1), (3, .int (1 : Int32)), (0, .ref (G.2.1 200))]) hx hb dX12_term_91 rfl hl (by decide) rfl (fun ls hl => ?_)
            refine lv_goto (tgt := 5) hx hb dX12_term_92 (by decide) ?_
            exact ih q14.2 q20 h _ _ _ hP hD hS (lv_sub hl [3, 0] rfl)
      · skip
        have h := f_f c4 h
        refine lv_aload_n hx hb dX12_term_22 rfl (lv_at hl 0 rfl) ?_
        obtain ⟨q21, hq21, h⟩ := f_b h
        refine cl_V (w := (mW G Z Y q3.2)) (w' := (mW G Z Y q21.2)) (rv := some (.int q21.1)) (bytes := cX12_look) (maxL := 1) (ret := (some .int)) (C := RX12) (As := []) (rest := []) (stk := [.int q21.1]) ⟨hx, hb, hml, hown, hts⟩ hK hE hA hP hD hS (c_X12_look l D G Z Y q3.2 F q21 hq21) (cwV 0 hts (gwV wd_1468 wd_1470 wp_52 wd_11 wd_1471) rfl rfl rfl hd_X12_look ⟨by show 0 + 1 ≤ 8 + (d + 1); omega, by show 8 + (1 + 11) + 0 ≤ 189 + (d + 1) * 25; omega⟩) (mg_200 G Z Y q3.2) rfl rfl rfl hl.1 rfl (Nat.le_of_ble_eq_true rfl) dX12_term_23 ⟨Nat.zero_le _, Nat.zero_le _⟩ rfl (fun H locs hP hD hS => ?_)
        refine lv_bipush (v := 47) hx hb dX12_term_26 (by decide) ?_
        refine lv_icmp_ne (tgt := 95) hx hb dX12_term_28 (by decide) (fun c22 => ?_) (fun c22 => ?_)
        · skip
          have h := f_f c22 h
          refine lv_lload_n hx hb dX12_term_95 rfl (lv_at hl 1 rfl) ?_
          obtain rfl := Option.some.inj h
          exact W.lret (v := z1) hx hb hr (q_end hK hP hD hS) hS.2.2 dX12_term_96
        · skip
          have h := f_t c22 h
          refine lv_aload_n hx hb dX12_term_31 rfl (lv_at hl 0 rfl) ?_
          obtain ⟨q23, hq23, h⟩ := f_b h
          refine cl_V (w := (mW G Z Y q21.2)) (w' := (mW G Z Y q23.2)) (rv := some (.int q23.1)) (bytes := cX12_look) (maxL := 1) (ret := (some .int)) (C := RX12) (As := []) (rest := []) (stk := [.int q23.1]) ⟨hx, hb, hml, hown, hts⟩ hK hE hA hP hD hS (c_X12_look l D G Z Y q21.2 F q23 hq23) (cwV 0 hts (gwV wd_1468 wd_1470 wp_52 wd_11 wd_1471) rfl rfl rfl hd_X12_look ⟨by show 0 + 1 ≤ 8 + (d + 1); omega, by show 8 + (1 + 11) + 0 ≤ 189 + (d + 1) * 25; omega⟩) (mg_200 G Z Y q21.2) rfl rfl rfl hl.1 rfl (Nat.le_of_ble_eq_true rfl) dX12_term_32 ⟨Nat.zero_le _, Nat.zero_le _⟩ rfl (fun H locs hP hD hS => ?_)
          refine lv_bipush (v := 42) hx hb dX12_term_35 (by decide) ?_
          refine lv_icmp_ne (tgt := 44) hx hb dX12_term_37 (by decide) (fun c24 => ?_) (fun c24 => ?_)
          · skip
            have h := f_f c24 h
            refine lv_iconst (v := 0) hx hb dX12_term_44 (by decide) ?_
            refine lv_istore_n (lv' := [(3, .int (0 : Int32)), (0, .ref (G.2.1 200)), (1, .long z1)]) hx hb dX12_term_45 rfl hl (by decide) rfl (fun ls hl => ?_)
            refine lv_aload_n hx hb dX12_term_46 rfl (lv_at hl 1 rfl) ?_
            refine lv_dup hx hb dX12_term_47 rfl ?_
            refine va_get (D := D) (ci := 12) (v := .int (q23.2.1 200 6)) (C := RX12) (T := TX12) (N := 59) hx hb hts inU_X12 hown hK hP _ (mg_200 G Z Y q23.2) rfl 6 (by decide) (hts _ wd_1254) (fun _ h9 => h9) rfl dX12_term_48 ?_
            refine lv_iconst (v := 1) hx hb dX12_term_51 (by decide) ?_
            refine lv_iadd hx hb dX12_term_52 ?_
            refine va_put (D := D) (ci := 12) (v := .int ((q23.2.1 200 6) + (1 : Int32))) (ty := .int) (C := RX12) (T := TX12) (N := 59) hx hb hts inU_X12 tyX12 tyX12_ok nmX12 hown hK hP hD hS _ (mg_200 G Z Y q23.2) rfl 6 (by decide) (hts _ wd_1254) (fun _ h9 => h9) rfl (by decide +kernel) rfl rfl (Nat.le_of_ble_eq_true rfl) dX12_term_53 (fun H locs hP hD hS => ?_)
            have hP := wrP (mp_200_6 G Z Y q23.2 ((q23.2.1 200 6) + (1 : Int32))) hP
            have hD := wrD (mp_200_6 G Z Y q23.2 ((q23.2.1 200 6) + (1 : Int32))) hD
            refine lv_aload_n hx hb dX12_term_56 rfl (lv_at hl 1 rfl) ?_
            obtain ⟨q25, hq25, h⟩ := f_b h
            refine cl_V (w := (mW G Z Y (sI q23.2 200 6 ((q23.2.1 200 6) + (1 : Int32))))) (w' := (mW G Z Y q25.2)) (rv := some (.long q25.1)) (bytes := cX12_atom) (maxL := 5) (ret := (some .long)) (C := RX12) (As := []) (rest := []) (stk := [.long q25.1]) ⟨hx, hb, hml, hown, hts⟩ hK hE hA hP hD hS (hu_X12_atom (sI q23.2 200 6 ((q23.2.1 200 6) + (1 : Int32))) q25 hq25) (cwV 0 hts (gwV wd_1604 wd_1606 wp_71 wd_11 wd_1607) rfl rfl rfl hd_X12_atom ⟨by show 8 + d + 1 ≤ 8 + (d + 1); omega, by show 8 + (5 + 11) + (189 + d * 25) ≤ 189 + (d + 1) * 25; omega⟩) (mg_200 G Z Y (sI q23.2 200 6 ((q23.2.1 200 6) + (1 : Int32)))) rfl rfl rfl hl.1 rfl (Nat.le_of_ble_eq_true rfl) dX12_term_57 ⟨Nat.zero_le _, Nat.zero_le _⟩ rfl (fun H locs hP hD hS => ?_)
            refine lv_lstore (lv' := [(4, .long q25.1), (3, .int (0 : Int32)), (0, .ref (G.2.1 200)), (1, .long z1)]) hx hb dX12_term_60 hl (by decide) rfl (fun ls hl => ?_)
            refine lv_iload_n hx hb dX12_term_62 rfl (lv_at hl 1 rfl) ?_
            refine lv_if_eq (tgt := 73) hx hb dX12_term_63 (by decide) (fun c26 => ?_) (fun c26 => ?_)
            · skip
              have h := f_t c26 h
              refine lv_lload hx hb dX12_term_73 (lv_at hl 0 rfl) ?_
              refine lv_lconst (v := 0) hx hb dX12_term_75 (by decide) ?_
              refine W.lcmp hx hb dX12_term_76 ?_
              refine lv_if_ne (tgt := 84) hx hb dX12_term_77 (by decide) (fun c27 => ?_) (fun c27 => ?_)
              · skip
                have c27 := mt (lg_cmp_eq _ _).mpr c27
                have h := f_f c27 h
                refine lv_lload_n hx hb dX12_term_84 rfl (lv_at hl 3 rfl) ?_
                refine lv_lload hx hb dX12_term_85 (lv_at hl 0 rfl) ?_
                obtain ⟨c28, h⟩ := f_n h
                refine lv_ldiv hx hb dX12_term_87 c28 ?_
                obtain ⟨q29, hq29, h⟩ := f_b h
                refine cl_S (w := (mW G Z Y q25.2)) (w' := (mW G Z Y q25.2)) (rv := some (.long q29)) (bytes := cX12_within) (maxL := 2) (ret := (some .long)) (As := [.long (z1 / q25.1)]) (rest := []) (stk := [.long q29]) ⟨hx, hb, hml, hown, hts⟩ hK hE hA hP hD hS (c_X12_within l D G (mW G Z Y q25.2) (z1 / q25.1) q29 hq29) (mkS hts wd_1614 wd_1615 wd_11 wd_1616 rfl rfl hd_X12_within ⟨by show 1 + 1 ≤ 8 + (d + 1); omega, by show 8 + (2 + 11) + 30 ≤ 189 + (d + 1) * 25; omega⟩) rfl hl.1 rfl (Nat.le_of_ble_eq_true rfl) dX12_term_88 ⟨Nat.zero_le _, Nat.zero_le _⟩ rfl (fun H locs hP hD hS => ?_)
                refine lv_lstore_n (lv' := [(1, .long q29), (4, .long q25.1), (3, .int (0 : Int32)), (0, .ref (G.2.1 200))]) hx hb dX12_term_91 rfl hl (by decide) rfl (fun ls hl => ?_)
                refine lv_goto (tgt := 5) hx hb dX12_term_92 (by decide) ?_
                exact ih q25.2 q29 h _ _ _ hP hD hS (lv_sub hl [3, 0] rfl)
              · skip
                have c27 := (lg_cmp_eq _ _).mp c27
                have h := f_t c27 h
                refine lv_lconst (v := 0) hx hb dX12_term_80 (by decide) ?_
                refine lv_goto (tgt := 88) hx hb dX12_term_81 (by decide) ?_
                obtain ⟨q30, hq30, h⟩ := f_b h
                refine cl_S (w := (mW G Z Y q25.2)) (w' := (mW G Z Y q25.2)) (rv := some (.long q30)) (bytes := cX12_within) (maxL := 2) (ret := (some .long)) (As := [.long (0 : Int64)]) (rest := []) (stk := [.long q30]) ⟨hx, hb, hml, hown, hts⟩ hK hE hA hP hD hS (c_X12_within l D G (mW G Z Y q25.2) (0 : Int64) q30 hq30) (mkS hts wd_1614 wd_1615 wd_11 wd_1616 rfl rfl hd_X12_within ⟨by show 1 + 1 ≤ 8 + (d + 1); omega, by show 8 + (2 + 11) + 30 ≤ 189 + (d + 1) * 25; omega⟩) rfl hl.1 rfl (Nat.le_of_ble_eq_true rfl) dX12_term_88 ⟨Nat.zero_le _, Nat.zero_le _⟩ rfl (fun H locs hP hD hS => ?_)
                refine lv_lstore_n (lv' := [(1, .long q30), (4, .long q25.1), (3, .int (0 : Int32)), (0, .ref (G.2.1 200))]) hx hb dX12_term_91 rfl hl (by decide) rfl (fun ls hl => ?_)
                refine lv_goto (tgt := 5) hx hb dX12_term_92 (by decide) ?_
                exact ih q25.2 q30 h _ _ _ hP hD hS (lv_sub hl [3, 0] rfl)
            · skip
              have h := f_f c26 h
              refine lv_lload_n hx hb dX12_term_66 rfl (lv_at hl 3 rfl) ?_
              refine lv_lload hx hb dX12_term_67 (lv_at hl 0 rfl) ?_
              refine lv_lmul hx hb dX12_term_69 ?_
              refine lv_goto (tgt := 88) hx hb dX12_term_70 (by decide) ?_
              obtain ⟨q31, hq31, h⟩ := f_b h
              refine cl_S (w := (mW G Z Y q25.2)) (w' := (mW G Z Y q25.2)) (rv := some (.long q31)) (bytes := cX12_within) (maxL := 2) (ret := (some .long)) (As := [.long (z1 * q25.1)]) (rest := []) (stk := [.long q31]) ⟨hx, hb, hml, hown, hts⟩ hK hE hA hP hD hS (c_X12_within l D G (mW G Z Y q25.2) (z1 * q25.1) q31 hq31) (mkS hts wd_1614 wd_1615 wd_11 wd_1616 rfl rfl hd_X12_within ⟨by show 1 + 1 ≤ 8 + (d + 1); omega, by show 8 + (2 + 11) + 30 ≤ 189 + (d + 1) * 25; omega⟩) rfl hl.1 rfl (Nat.le_of_ble_eq_true rfl) dX12_term_88 ⟨Nat.zero_le _, Nat.zero_le _⟩ rfl (fun H locs hP hD hS => ?_)
              refine lv_lstore_n (lv' := [(1, .long q31), (4, .long q25.1), (3, .int (0 : Int32)), (0, .ref (G.2.1 200))]) hx hb dX12_term_91 rfl hl (by decide) rfl (fun ls hl => ?_)
              refine lv_goto (tgt := 5) hx hb dX12_term_92 (by decide) ?_
              exact ih q25.2 q31 h _ _ _ hP hD hS (lv_sub hl [3, 0] rfl)
          · skip
            have h := f_t c24 h
            refine lv_iconst (v := 1) hx hb dX12_term_40 (by decide) ?_
            refine lv_goto (tgt := 45) hx hb dX12_term_41 (by decide) ?_
            refine lv_istore_n (lv' := [(3, .int (1 : Int32)), (0, .ref (G.2.1 200)), (1, .long z1)]) hx hb dX12_term_45 rfl hl (by decide) rfl (fun ls hl => ?_)
            refine lv_aload_n hx hb dX12_term_46 rfl (lv_at hl 1 rfl) ?_
            refine lv_dup hx hb dX12_term_47 rfl ?_
            refine va_get (D := D) (ci := 12) (v := .int (q23.2.1 200 6)) (C := RX12) (T := TX12) (N := 59) hx hb hts inU_X12 hown hK hP _ (mg_200 G Z Y q23.2) rfl 6 (by decide) (hts _ wd_1254) (fun _ h9 => h9) rfl dX12_term_48 ?_
            refine lv_iconst (v := 1) hx hb dX12_term_51 (by decide) ?_
            refine lv_iadd hx hb dX12_term_52 ?_
            refine va_put (D := D) (ci := 12) (v := .int ((q23.2.1 200 6) + (1 : Int32))) (ty := .int) (C := RX12) (T := TX12) (N := 59) hx hb hts inU_X12 tyX12 tyX12_ok nmX12 hown hK hP hD hS _ (mg_200 G Z Y q23.2) rfl 6 (by decide) (hts _ wd_1254) (fun _ h9 => h9) rfl (by decide +kernel) rfl rfl (Nat.le_of_ble_eq_true rfl) dX12_term_53 (fun H locs hP hD hS => ?_)
            have hP := wrP (mp_200_6 G Z Y q23.2 ((q23.2.1 200 6) + (1 : Int32))) hP
            have hD := wrD (mp_200_6 G Z Y q23.2 ((q23.2.1 200 6) + (1 : Int32))) hD
            refine lv_aload_n hx hb dX12_term_56 rfl (lv_at hl 1 rfl) ?_
            obtain ⟨q32, hq32, h⟩ := f_b h
            refine cl_V (w := (mW G Z Y (sI q23.2 200 6 ((q23.2.1 200 6) + (1 : Int32))))) (w' := (mW G Z Y q32.2)) (rv := some (.long q32.1)) (bytes := cX12_atom) (maxL := 5) (ret := (some .long)) (C := RX12) (As := []) (rest := []) (stk := [.long q32.1]) ⟨hx, hb, hml, hown, hts⟩ hK hE hA hP hD hS (hu_X12_atom (sI q23.2 200 6 ((q23.2.1 200 6) + (1 : Int32))) q32 hq32) (cwV 0 hts (gwV wd_1604 wd_1606 wp_71 wd_11 wd_1607) rfl rfl rfl hd_X12_atom ⟨by show 8 + d + 1 ≤ 8 + (d + 1); omega, by show 8 + (5 + 11) + (189 + d * 25) ≤ 189 + (d + 1) * 25; omega⟩) (mg_200 G Z Y (sI q23.2 200 6 ((q23.2.1 200 6) + (1 : Int32)))) rfl rfl rfl hl.1 rfl (Nat.le_of_ble_eq_true rfl) dX12_term_57 ⟨Nat.zero_le _, Nat.zero_le _⟩ rfl (fun H locs hP hD hS => ?_)
            refine lv_lstore (lv' := [(4, .long q32.1), (3, .int (1 : Int32)), (0, .ref (G.2.1 200)), (1, .long z1)]) hx hb dX12_term_60 hl (by decide) rfl (fun ls hl => ?_)
            refine lv_iload_n hx hb dX12_term_62 rfl (lv_at hl 1 rfl) ?_
            refine lv_if_eq (tgt := 73) hx hb dX12_term_63 (by decide) (fun c33 => ?_) (fun c33 => ?_)
            · skip
              have h := f_t c33 h
              refine lv_lload hx hb dX12_term_73 (lv_at hl 0 rfl) ?_
              refine lv_lconst (v := 0) hx hb dX12_term_75 (by decide) ?_
              refine W.lcmp hx hb dX12_term_76 ?_
              refine lv_if_ne (tgt := 84) hx hb dX12_term_77 (by decide) (fun c34 => ?_) (fun c34 => ?_)
              · skip
                have c34 := mt (lg_cmp_eq _ _).mpr c34
                have h := f_f c34 h
                refine lv_lload_n hx hb dX12_term_84 rfl (lv_at hl 3 rfl) ?_
                refine lv_lload hx hb dX12_term_85 (lv_at hl 0 rfl) ?_
                obtain ⟨c35, h⟩ := f_n h
                refine lv_ldiv hx hb dX12_term_87 c35 ?_
                obtain ⟨q36, hq36, h⟩ := f_b h
                refine cl_S (w := (mW G Z Y q32.2)) (w' := (mW G Z Y q32.2)) (rv := some (.long q36)) (bytes := cX12_within) (maxL := 2) (ret := (some .long)) (As := [.long (z1 / q32.1)]) (rest := []) (stk := [.long q36]) ⟨hx, hb, hml, hown, hts⟩ hK hE hA hP hD hS (c_X12_within l D G (mW G Z Y q32.2) (z1 / q32.1) q36 hq36) (mkS hts wd_1614 wd_1615 wd_11 wd_1616 rfl rfl hd_X12_within ⟨by show 1 + 1 ≤ 8 + (d + 1); omega, by show 8 + (2 + 11) + 30 ≤ 189 + (d + 1) * 25; omega⟩) rfl hl.1 rfl (Nat.le_of_ble_eq_true rfl) dX12_term_88 ⟨Nat.zero_le _, Nat.zero_le _⟩ rfl (fun H locs hP hD hS => ?_)
                refine lv_lstore_n (lv' := [(1, .long q36), (4, .long q32.1), (3, .int (1 : Int32)), (0, .ref (G.2.1 200))]) hx hb dX12_term_91 rfl hl (by decide) rfl (fun ls hl => ?_)
                refine lv_goto (tgt := 5) hx hb dX12_term_92 (by decide) ?_
                exact ih q32.2 q36 h _ _ _ hP hD hS (lv_sub hl [3, 0] rfl)
              · skip
                have c34 := (lg_cmp_eq _ _).mp c34
                have h := f_t c34 h
                refine lv_lconst (v := 0) hx hb dX12_term_80 (by decide) ?_
                refine lv_goto (tgt := 88) hx hb dX12_term_81 (by decide) ?_
                obtain ⟨q37, hq37, h⟩ := f_b h
                refine cl_S (w := (mW G Z Y q32.2)) (w' := (mW G Z Y q32.2)) (rv := some (.long q37)) (bytes := cX12_within) (maxL := 2) (ret := (some .long)) (As := [.long (0 : Int64)]) (rest := []) (stk := [.long q37]) ⟨hx, hb, hml, hown, hts⟩ hK hE hA hP hD hS (c_X12_within l D G (mW G Z Y q32.2) (0 : Int64) q37 hq37) (mkS hts wd_1614 wd_1615 wd_11 wd_1616 rfl rfl hd_X12_within ⟨by show 1 + 1 ≤ 8 + (d + 1); omega, by show 8 + (2 + 11) + 30 ≤ 189 + (d + 1) * 25; omega⟩) rfl hl.1 rfl (Nat.le_of_ble_eq_true rfl) dX12_term_88 ⟨Nat.zero_le _, Nat.zero_le _⟩ rfl (fun H locs hP hD hS => ?_)
                refine lv_lstore_n (lv' := [(1, .long q37), (4, .long q32.1), (3, .int (1 : Int32)), (0, .ref (G.2.1 200))]) hx hb dX12_term_91 rfl hl (by decide) rfl (fun ls hl => ?_)
                refine lv_goto (tgt := 5) hx hb dX12_term_92 (by decide) ?_
                exact ih q32.2 q37 h _ _ _ hP hD hS (lv_sub hl [3, 0] rfl)
            · skip
              have h := f_f c33 h
              refine lv_lload_n hx hb dX12_term_66 rfl (lv_at hl 3 rfl) ?_
              refine lv_lload hx hb dX12_term_67 (lv_at hl 0 rfl) ?_
              refine lv_lmul hx hb dX12_term_69 ?_
              refine lv_goto (tgt := 88) hx hb dX12_term_70 (by decide) ?_
              obtain ⟨q38, hq38, h⟩ := f_b h
              refine cl_S (w := (mW G Z Y q32.2)) (w' := (mW G Z Y q32.2)) (rv := some (.long q38)) (bytes := cX12_within) (maxL := 2) (ret := (some .long)) (As := [.long (z1 * q32.1)]) (rest := []) (stk := [.long q38]) ⟨hx, hb, hml, hown, hts⟩ hK hE hA hP hD hS (c_X12_within l D G (mW G Z Y q32.2) (z1 * q32.1) q38 hq38) (mkS hts wd_1614 wd_1615 wd_11 wd_1616 rfl rfl hd_X12_within ⟨by show 1 + 1 ≤ 8 + (d + 1); omega, by show 8 + (2 + 11) + 30 ≤ 189 + (d + 1) * 25; omega⟩) rfl hl.1 rfl (Nat.le_of_ble_eq_true rfl) dX12_term_88 ⟨Nat.zero_le _, Nat.zero_le _⟩ rfl (fun H locs hP hD hS => ?_)
              refine lv_lstore_n (lv' := [(1, .long q38), (4, .long q32.1), (3, .int (1 : Int32)), (0, .ref (G.2.1 200))]) hx hb dX12_term_91 rfl hl (by decide) rfl (fun ls hl => ?_)
              refine lv_goto (tgt := 5) hx hb dX12_term_92 (by decide) ?_
              exact ih q32.2 q38 h _ _ _ hP hD hS (lv_sub hl [3, 0] rfl)
set_option maxRecDepth 100000 in
set_option maxHeartbeats 8000000 in
theorem o_X12_term (l : Launch) (D : va_G) (G : hG) (Z : hZ) (Y : va_W) (F : Nat) (d : Nat) (u_X12_atom : (hSt → Option (Int64 × hSt))) (hu_X12_atom : ∀ (σ0 : hSt) (res : (Int64 × hSt)), u_X12_atom σ0  = some res → CT l yX12_atom cX12_atom 5 (some .long) (rmG_Ma d) D G 0 0 [.ref (G.2.1 200)] (mW G Z Y σ0) (mW G Z Y res.2) (some (.long res.1))) (σ0 : hSt) (res : (Int64 × hSt)) (h : b_X12_term F Z u_X12_atom σ0 = some res) : CT l yX12_term cX12_term 6 (some .long) (rmG_Ma (d + 1)) D G 0 0 [.ref (G.2.1 200)] (mW G Z Y σ0) (mW G Z Y res.2) (some (.long res.1)) := by
  unfold b_X12_term at h
  refine CT.mk (cc := cX12_term) (maxL := 6) (ret := (some .long)) (own := RX12) (plainFor_of_name (by decide)) rfl (Nat.le_of_ble_eq_true rfl) ?_
  intro p e s m args below meth c A ls C0 hnm hA hP hD hl
  obtain ⟨hx, hb, hr, hml, hown, hts, hlocks, hK, hE⟩ := id C0
  have hS : va_S A s.heap s.heap [] := va_S.rf
  have hl : lv_has ls 6 [(0, .ref (G.2.1 200))] := hl
  refine lv_aload_n hx hb dX12_term_0 rfl (lv_at hl 0 rfl) ?_
  obtain ⟨q1, hq1, h⟩ := f_b h
  refine cl_V (w := (mW G Z Y σ0)) (w' := (mW G Z Y q1.2)) (rv := some (.long q1.1)) (bytes := cX12_atom) (maxL := 5) (ret := (some .long)) (C := RX12) (As := []) (rest := []) (stk := [.long q1.1]) ⟨hx, hb, hml, hown, hts⟩ hK hE hA hP hD hS (hu_X12_atom σ0 q1 hq1) (cwV 0 hts (gwV wd_1604 wd_1606 wp_71 wd_11 wd_1607) rfl rfl rfl hd_X12_atom ⟨by show 8 + d + 1 ≤ 8 + (d + 1); omega, by show 8 + (5 + 11) + (189 + d * 25) ≤ 189 + (d + 1) * 25; omega⟩) (mg_200 G Z Y σ0) rfl rfl rfl hl.1 rfl (Nat.le_of_ble_eq_true rfl) dX12_term_1 ⟨Nat.zero_le _, Nat.zero_le _⟩ rfl (fun H locs hP hD hS => ?_)
  refine lv_lstore_n (lv' := [(1, .long q1.1), (0, .ref (G.2.1 200))]) hx hb dX12_term_4 rfl hl (by decide) rfl (fun ls hl => ?_)
  refine W_X12_term_L5 l D G Z Y F d u_X12_atom hu_X12_atom σ0 res C0 hA F q1.2 q1.1 h _ _ _ hP hD hS (lv_sub hl [1, 0] rfl)
set_option maxRecDepth 100000 in
set_option maxHeartbeats 8000000 in
theorem W_X12_atom_L98 {p : Program} {e : Env} {s : State} {m : MethodId} {args : Array Value} {below : List Frame} {meth : Method} {c : Code} {A : Nat → Prop} (l : Launch) (D : va_G) (G : hG) (Z : hZ) (Y : va_W) (F : Nat) (d : Nat) (u_X12_reckon : (hSt → Option (Int64 × hSt))) (hu_X12_reckon : ∀ (σ0 : hSt) (res : (Int64 × hSt)), u_X12_reckon σ0  = some res → CT l yX12_reckon cX12_reckon 6 (some .long) (rmG_Ma d) D G 0 0 [.ref (G.2.1 200)] (mW G Z Y σ0) (mW G Z Y res.2) (some (.long res.1))) (σ0 : hSt) (res : (Int64 × hSt)) (C0 : Cx p s m args meth c cX12_atom (some .long) RX12 5 D G A) (hA : ∀ q : Nat, s.heap.size ≤ q → A q) (k119 : hSt → Option (Int64 × hSt)) (hk119 : ∀ (σ1 : hSt), k119 σ1 = some res → ∀ (H : Heap) (locs : List Loc) (ls : Array Slot), va_P D vwCl (mW G Z Y σ1) H → va_D A (mW G Z Y σ1) → va_S A s.heap H locs → lv_has ls 5 [(0, .ref (G.2.1 200))] → W p l e (rmG_Ma (d + 1)) s m args below meth c H locs 0 0 (MQ below (Qg (some (.long res.1)) D (tysG G) (mW G Z Y res.2) A) args s 0 0 A) (F0 m 119 ls [])) : ∀ (n : Nat) (σ1 : hSt) (z2 : Int64) (z4 : Int32), f_X12_atom_L98 Z k119 n σ1 z2 z4 = some res → ∀ (H : Heap) (locs : List Loc) (ls : Array Slot), va_P D vwCl (mW G Z Y σ1) H → va_D A (mW G Z Y σ1) → va_S A s.heap H locs → lv_has ls 5 [(0, .ref (G.2.1 200)), (2, .long z2), (4, .int z4)] → W p l e (rmG_Ma (d + 1)) s m args below meth c H locs 0 0 (MQ below (Qg (some (.long res.1)) D (tysG G) (mW G Z Y res.2) A) args s 0 0 A) (F0 m 98 ls []) := by
  obtain ⟨hx, hb, hr, hml, hown, hts, hlocks, hK, hE⟩ := id C0
  intro n
  induction n with
  | zero =>
    intro σ1 z2 z4 h
    cases h
  | succ n ih =>
    intro σ1 z2 z4 h H locs ls hP hD hS hl
    rw [f_X12_atom_L98] at h
    refine lv_aload_n hx hb dX12_atom_98 rfl (lv_at hl 0 rfl) ?_
    obtain ⟨q6, hq6, h⟩ := f_b h
    refine cl_V (w := (mW G Z Y σ1)) (w' := (mW G Z Y σ1)) (rv := some (.int q6)) (bytes := cX12_isDigit) (maxL := 1) (ret := (some .boolean)) (C := RX12) (As := []) (rest := []) (stk := [.int q6]) ⟨hx, hb, hml, hown, hts⟩ hK hE hA hP hD hS (c_X12_isDigit l D G Z Y σ1 q6 hq6) (cwV 0 hts (gwV wd_1608 wd_1610 wp_72 wd_11 wd_1611) rfl rfl rfl hd_X12_isDigit ⟨by show 0 + 1 ≤ 8 + (d + 1); omega, by show 8 + (1 + 11) + 0 ≤ 189 + (d + 1) * 25; omega⟩) (mg_200 G Z Y σ1) rfl rfl rfl hl.1 rfl (Nat.le_of_ble_eq_true rfl) dX12_atom_99 ⟨Nat.zero_le _, Nat.zero_le _⟩ rfl (fun H locs hP hD hS => ?_)
    refine lv_if_eq (tgt := 168) hx hb dX12_atom_102 (by decide) (fun c7 => ?_) (fun c7 => ?_)
    · skip
      have h := f_t c7 h
      refine lv_lload_n hx hb dX12_atom_168 rfl (lv_at hl 1 rfl) ?_
      obtain rfl := Option.some.inj h
      exact W.lret (v := z2) hx hb hr (q_end hK hP hD hS) hS.2.2 dX12_atom_169
    · skip
      have h := f_f c7 h
      refine lv_aload_n hx hb dX12_atom_105 rfl (lv_at hl 0 rfl) ?_
      refine va_get (D := D) (ci := 12) (v := .int (σ1.1 200 7)) (C := RX12) (T := TX12) (N := 59) hx hb hts inU_X12 hown hK hP _ (mg_200 G Z Y σ1) rfl 7 (by decide) (hts _ wd_1255) (fun _ h9 => h9) rfl dX12_atom_106 ?_
      refine lv_iconst (v := (-1)) hx hb dX12_atom_109 (by decide) ?_
      refine lv_icmp_ne (tgt := 168) hx hb dX12_atom_110 (by decide) (fun c8 => ?_) (fun c8 => ?_)
      · skip
        have h := f_f c8 h
        refine lv_lload_n hx hb dX12_atom_168 rfl (lv_at hl 1 rfl) ?_
        obtain rfl := Option.some.inj h
        exact W.lret (v := z2) hx hb hr (q_end hK hP hD hS) hS.2.2 dX12_atom_169
      · skip
        have h := f_t c8 h
        refine lv_iload hx hb dX12_atom_113 (lv_at hl 2 rfl) ?_
        refine lv_iconst (v := 4) hx hb dX12_atom_115 (by decide) ?_
        refine lv_icmp_ne (tgt := 126) hx hb dX12_atom_116 (by decide) (fun c9 => ?_) (fun c9 => ?_)
        · skip
          have h := f_f c9 h
          refine lv_ldc2 (v := 10) hx hb hown (hts _ wd_1612) dX12_atom_126 ?_
          refine lv_lload_n hx hb dX12_atom_129 rfl (lv_at hl 1 rfl) ?_
          refine lv_lmul hx hb dX12_atom_130 ?_
          refine lv_aload_n hx hb dX12_atom_131 rfl (lv_at hl 0 rfl) ?_
          refine va_get (D := D) (ci := 12) (v := va_rf (((σ1.2.2 200 2)).map G.2.1)) (C := RX12) (T := TX12) (N := 59) hx hb hts inU_X12 hown hK hP _ (mg_200 G Z Y σ1) rfl 2 (by decide) (hts _ wd_1250) (fun _ h9 => h9) rfl dX12_atom_132 ?_
          rcases f_o h with ⟨ho, h⟩ | ⟨r10, ho, h⟩
          · rw [ho]
            refine lv_aload_n hx hb dX12_atom_135 rfl (lv_at hl 0 rfl) ?_
            refine va_get (D := D) (ci := 12) (v := .int (σ1.1 200 4)) (C := RX12) (T := TX12) (N := 59) hx hb hts inU_X12 hown hK hP _ (mg_200 G Z Y σ1) rfl 4 (by decide) (hts _ wd_1252) (fun _ h9 => h9) rfl dX12_atom_136 ?_
            refine lv_aload_n hx hb dX12_atom_139 rfl (lv_at hl 0 rfl) ?_
            refine va_get (D := D) (ci := 12) (v := .int (σ1.1 200 6)) (C := RX12) (T := TX12) (N := 59) hx hb hts inU_X12 hown hK hP _ (mg_200 G Z Y σ1) rfl 6 (by decide) (hts _ wd_1254) (fun _ h9 => h9) rfl dX12_atom_140 ?_
            refine lv_iadd hx hb dX12_atom_143 ?_
            cases h
          · rw [ho]
            obtain ⟨hr10, h⟩ := f_c h
            refine lv_aload_n hx hb dX12_atom_135 rfl (lv_at hl 0 rfl) ?_
            refine va_get (D := D) (ci := 12) (v := .int (σ1.1 200 4)) (C := RX12) (T := TX12) (N := 59) hx hb hts inU_X12 hown hK hP _ (mg_200 G Z Y σ1) rfl 4 (by decide) (hts _ wd_1252) (fun _ h9 => h9) rfl dX12_atom_136 ?_
            refine lv_aload_n hx hb dX12_atom_139 rfl (lv_at hl 0 rfl) ?_
            refine va_get (D := D) (ci := 12) (v := .int (σ1.1 200 6)) (C := RX12) (T := TX12) (N := 59) hx hb hts inU_X12 hown hK hP _ (mg_200 G Z Y σ1) rfl 6 (by decide) (hts _ wd_1254) (fun _ h9 => h9) rfl dX12_atom_140 ?_
            refine lv_iadd hx hb dX12_atom_143 ?_
            obtain ⟨c11, h⟩ := f_n h
            refine va_baldE (v := (σ1.1 r10 ((((σ1.1 200 4) + (σ1.1 200 6)) : Int32).toNatClampNeg))) hx hb hK hP _ 2 (mg_By G Z Y σ1 hr10) rfl c11 dX12_atom_144 rfl ?_
            refine lv_i2l (v := ((σ1.1 r10 ((((σ1.1 200 4) + (σ1.1 200 6)) : Int32).toNatClampNeg)) : Int32).toInt64) hx hb dX12_atom_145 rfl ?_
            refine lv_ladd hx hb dX12_atom_146 ?_
            refine lv_ldc2 (v := 48) hx hb hown (hts _ wd_1613) dX12_atom_147 ?_
            refine lv_lsub hx hb dX12_atom_150 ?_
            refine lv_lstore_n (lv' := [(2, .long ((((10 : Int64) * z2) + ((σ1.1 r10 ((((σ1.1 200 4) + (σ1.1 200 6)) : Int32).toNatClampNeg)) : Int32).toInt64) - (48 : Int64))), (0, .ref (G.2.1 200)), (4, .int z4)]) hx hb dX12_atom_151 rfl hl (by decide) rfl (fun ls hl => ?_)
            refine lv_aload_n hx hb dX12_atom_152 rfl (lv_at hl 1 rfl) ?_
            refine lv_dup hx hb dX12_atom_153 rfl ?_
            refine va_get (D := D) (ci := 12) (v := .int (σ1.1 200 6)) (C := RX12) (T := TX12) (N := 59) hx hb hts inU_X12 hown hK hP _ (mg_200 G Z Y σ1) rfl 6 (by decide) (hts _ wd_1254) (fun _ h9 => h9) rfl dX12_atom_154 ?_
            refine lv_iconst (v := 1) hx hb dX12_atom_157 (by decide) ?_
            refine lv_iadd hx hb dX12_atom_158 ?_
            refine va_put (D := D) (ci := 12) (v := .int ((σ1.1 200 6) + (1 : Int32))) (ty := .int) (C := RX12) (T := TX12) (N := 59) hx hb hts inU_X12 tyX12 tyX12_ok nmX12 hown hK hP hD hS _ (mg_200 G Z Y σ1) rfl 6 (by decide) (hts _ wd_1254) (fun _ h9 => h9) rfl (by decide +kernel) rfl rfl (Nat.le_of_ble_eq_true rfl) dX12_atom_159 (fun H locs hP hD hS => ?_)
            have hP := wrP (mp_200_6 G Z Y σ1 ((σ1.1 200 6) + (1 : Int32))) hP
            have hD := wrD (mp_200_6 G Z Y σ1 ((σ1.1 200 6) + (1 : Int32))) hD
            refine lv_iinc (v := (z4 + 1)) (lv' := [(4, .int (z4 + 1)), (2, .long ((((10 : Int64) * z2) + ((σ1.1 r10 ((((σ1.1 200 4) + (σ1.1 200 6)) : Int32).toNatClampNeg)) : Int32).toInt64) - (48 : Int64))), (0, .ref (G.2.1 200))]) hx hb dX12_atom_162 hl (k := 2) rfl rfl (by decide) rfl (fun ls hl => ?_)
            refine lv_goto (tgt := 98) hx hb dX12_atom_165 (by decide) ?_
            exact ih (sI σ1 200 6 ((σ1.1 200 6) + (1 : Int32))) ((((10 : Int64) * z2) + ((σ1.1 r10 ((((σ1.1 200 4) + (σ1.1 200 6)) : Int32).toNatClampNeg)) : Int32).toInt64) - (48 : Int64)) (z4 + 1) h _ _ _ hP hD hS (lv_sub hl [2, 1, 0] rfl)
        · skip
          have h := f_t c9 h
          exact hk119 σ1 h _ _ _ hP hD hS (lv_sub hl [0] rfl)
set_option maxRecDepth 100000 in
set_option maxHeartbeats 8000000 in
theorem o_X12_atom (l : Launch) (D : va_G) (G : hG) (Z : hZ) (Y : va_W) (F : Nat) (d : Nat) (u_X12_reckon : (hSt → Option (Int64 × hSt))) (hu_X12_reckon : ∀ (σ0 : hSt) (res : (Int64 × hSt)), u_X12_reckon σ0  = some res → CT l yX12_reckon cX12_reckon 6 (some .long) (rmG_Ma d) D G 0 0 [.ref (G.2.1 200)] (mW G Z Y σ0) (mW G Z Y res.2) (some (.long res.1))) (σ0 : hSt) (res : (Int64 × hSt)) (h : b_X12_atom F Z u_X12_reckon σ0 = some res) : CT l yX12_atom cX12_atom 5 (some .long) (rmG_Ma (d + 1)) D G 0 0 [.ref (G.2.1 200)] (mW G Z Y σ0) (mW G Z Y res.2) (some (.long res.1)) := by
  unfold b_X12_atom at h
  refine CT.mk (cc := cX12_atom) (maxL := 5) (ret := (some .long)) (own := RX12) (plainFor_of_name (by decide)) rfl (Nat.le_of_ble_eq_true rfl) ?_
  intro p e s m args below meth c A ls C0 hnm hA hP hD hl
  obtain ⟨hx, hb, hr, hml, hown, hts, hlocks, hK, hE⟩ := id C0
  have hS : va_S A s.heap s.heap [] := va_S.rf
  have hl : lv_has ls 5 [(0, .ref (G.2.1 200))] := hl
  refine lv_aload_n hx hb dX12_atom_0 rfl (lv_at hl 0 rfl) ?_
  obtain ⟨q1, hq1, h⟩ := f_b h
  refine cl_V (w := (mW G Z Y σ0)) (w' := (mW G Z Y q1.2)) (rv := some (.int q1.1)) (bytes := cX12_look) (maxL := 1) (ret := (some .int)) (C := RX12) (As := []) (rest := []) (stk := [.int q1.1]) ⟨hx, hb, hml, hown, hts⟩ hK hE hA hP hD hS (c_X12_look l D G Z Y σ0 F q1 hq1) (cwV 0 hts (gwV wd_1468 wd_1470 wp_52 wd_11 wd_1471) rfl rfl rfl hd_X12_look ⟨by show 0 + 1 ≤ 8 + (d + 1); omega, by show 8 + (1 + 11) + 0 ≤ 189 + (d + 1) * 25; omega⟩) (mg_200 G Z Y σ0) rfl rfl rfl hl.1 rfl (Nat.le_of_ble_eq_true rfl) dX12_atom_1 ⟨Nat.zero_le _, Nat.zero_le _⟩ rfl (fun H locs hP hD hS => ?_)
  refine lv_istore_n (lv' := [(1, .int q1.1), (0, .ref (G.2.1 200))]) hx hb dX12_atom_4 rfl hl (by decide) rfl (fun ls hl => ?_)
  refine lv_iload_n hx hb dX12_atom_5 rfl (lv_at hl 0 rfl) ?_
  refine lv_iconst (v := (-1)) hx hb dX12_atom_6 (by decide) ?_
  refine lv_icmp_eq (tgt := 38) hx hb dX12_atom_7 (by decide) (fun c2 => ?_) (fun c2 => ?_)
  · skip
    have h := f_t c2 h
    refine lv_iload_n hx hb dX12_atom_38 rfl (lv_at hl 0 rfl) ?_
    refine lv_bipush (v := 91) hx hb dX12_atom_39 (by decide) ?_
    refine lv_icmp_ne (tgt := 81) hx hb dX12_atom_41 (by decide) (fun c3 => ?_) (fun c3 => ?_)
    · skip
      have h := f_f c3 h
      refine lv_aload_n hx hb dX12_atom_81 rfl (lv_at hl 1 rfl) ?_
      obtain ⟨q4, hq4, h⟩ := f_b h
      refine cl_V (w := (mW G Z Y q1.2)) (w' := (mW G Z Y q1.2)) (rv := some (.int q4)) (bytes := cX12_isDigit) (maxL := 1) (ret := (some .boolean)) (C := RX12) (As := []) (rest := []) (stk := [.int q4]) ⟨hx, hb, hml, hown, hts⟩ hK hE hA hP hD hS (c_X12_isDigit l D G Z Y q1.2 q4 hq4) (cwV 0 hts (gwV wd_1608 wd_1610 wp_72 wd_11 wd_1611) rfl rfl rfl hd_X12_isDigit ⟨by show 0 + 1 ≤ 8 + (d + 1); omega, by show 8 + (1 + 11) + 0 ≤ 189 + (d + 1) * 25; omega⟩) (mg_200 G Z Y q1.2) rfl rfl rfl hl.1 rfl (Nat.le_of_ble_eq_true rfl) dX12_atom_82 ⟨Nat.zero_le _, Nat.zero_le _⟩ rfl (fun H locs hP hD hS => ?_)
      refine lv_if_ne (tgt := 93) hx hb dX12_atom_85 (by decide) (fun c5 => ?_) (fun c5 => ?_)
      · skip
        have h := f_f c5 h
        refine lv_lconst (v := 0) hx hb dX12_atom_93 (by decide) ?_
        refine lv_lstore_n (lv' := [(2, .long (0 : Int64)), (1, .int q1.1), (0, .ref (G.2.1 200))]) hx hb dX12_atom_94 rfl hl (by decide) rfl (fun ls hl => ?_)
        refine lv_iconst (v := 0) hx hb dX12_atom_95 (by decide) ?_
        refine lv_istore (lv' := [(4, .int (0 : Int32)), (2, .long (0 : Int64)), (1, .int q1.1), (0, .ref (G.2.1 200))]) hx hb dX12_atom_96 hl (by decide) rfl (fun ls hl => ?_)
        refine W_X12_atom_L98 l D G Z Y F d u_X12_reckon hu_X12_reckon σ0 res C0 hA _ ?_ F q1.2 (0 : Int64) (0 : Int32) h _ _ _ hP hD hS (lv_sub hl [3, 1, 0] rfl)
        · intro σ1 h H locs ls hP hD hS hl
          refine lv_aload_n hx hb dX12_atom_119 rfl (lv_at hl 0 rfl) ?_
          obtain ⟨q12, hq12, h⟩ := f_b h
          refine cl_V (w := (mW G Z Y σ1)) (w' := (mW G Z Y q12.2)) (rv := some (.int q12.1)) (bytes := cX12_fails) (maxL := 1) (ret := (some .boolean)) (C := RX12) (As := []) (rest := []) (stk := [.int q12.1]) ⟨hx, hb, hml, hown, hts⟩ hK hE hA hP hD hS (c_X12_fails l D G Z Y σ1 q12 hq12) (cwV 0 hts (gwV wd_1477 wd_1479 wp_54 wd_11 wd_1480) rfl rfl rfl hd_X12_fails ⟨by show 0 + 1 ≤ 8 + (d + 1); omega, by show 8 + (1 + 11) + 0 ≤ 189 + (d + 1) * 25; omega⟩) (mg_200 G Z Y σ1) rfl rfl rfl hl.1 rfl (Nat.le_of_ble_eq_true rfl) dX12_atom_120 ⟨Nat.zero_le _, Nat.zero_le _⟩ rfl (fun H locs hP hD hS => ?_)
          refine lv_pop hx hb dX12_atom_123 rfl ?_
          refine lv_lconst (v := 0) hx hb dX12_atom_124 (by decide) ?_
          obtain rfl := Option.some.inj h
          exact W.lret (v := (0 : Int64)) hx hb hr (q_end hK hP hD hS) hS.2.2 dX12_atom_125
      · skip
        have h := f_t c5 h
        refine lv_aload_n hx hb dX12_atom_88 rfl (lv_at hl 1 rfl) ?_
        obtain ⟨q13, hq13, h⟩ := f_b h
        refine cl_V (w := (mW G Z Y q1.2)) (w' := (mW G Z Y q13.2)) (rv := some (.int q13.1)) (bytes := cX12_fails) (maxL := 1) (ret := (some .boolean)) (C := RX12) (As := []) (rest := []) (stk := [.int q13.1]) ⟨hx, hb, hml, hown, hts⟩ hK hE hA hP hD hS (c_X12_fails l D G Z Y q1.2 q13 hq13) (cwV 0 hts (gwV wd_1477 wd_1479 wp_54 wd_11 wd_1480) rfl rfl rfl hd_X12_fails ⟨by show 0 + 1 ≤ 8 + (d + 1); omega, by show 8 + (1 + 11) + 0 ≤ 189 + (d + 1) * 25; omega⟩) (mg_200 G Z Y q1.2) rfl rfl rfl hl.1 rfl (Nat.le_of_ble_eq_true rfl) dX12_atom_89 ⟨Nat.zero_le _, Nat.zero_le _⟩ rfl (fun H locs hP hD hS => ?_)
        refine lv_pop hx hb dX12_atom_92 rfl ?_
        refine lv_lconst (v := 0) hx hb dX12_atom_93 (by decide) ?_
        refine lv_lstore_n (lv' := [(2, .long (0 : Int64)), (1, .int q1.1), (0, .ref (G.2.1 200))]) hx hb dX12_atom_94 rfl hl (by decide) rfl (fun ls hl => ?_)
        refine lv_iconst (v := 0) hx hb dX12_atom_95 (by decide) ?_
        refine lv_istore (lv' := [(4, .int (0 : Int32)), (2, .long (0 : Int64)), (1, .int q1.1), (0, .ref (G.2.1 200))]) hx hb dX12_atom_96 hl (by decide) rfl (fun ls hl => ?_)
        refine W_X12_atom_L98 l D G Z Y F d u_X12_reckon hu_X12_reckon σ0 res C0 hA _ ?_ F q13.2 (0 : Int64) (0 : Int32) h _ _ _ hP hD hS (lv_sub hl [3, 1, 0] rfl)
        · intro σ1 h H locs ls hP hD hS hl
          refine lv_aload_n hx hb dX12_atom_119 rfl (lv_at hl 0 rfl) ?_
          obtain ⟨q14, hq14, h⟩ := f_b h
          refine cl_V (w := (mW G Z Y σ1)) (w' := (mW G Z Y q14.2)) (rv := some (.int q14.1)) (bytes := cX12_fails) (maxL := 1) (ret := (some .boolean)) (C := RX12) (As := []) (rest := []) (stk := [.int q14.1]) ⟨hx, hb, hml, hown, hts⟩ hK hE hA hP hD hS (c_X12_fails l D G Z Y σ1 q14 hq14) (cwV 0 hts (gwV wd_1477 wd_1479 wp_54 wd_11 wd_1480) rfl rfl rfl hd_X12_fails ⟨by show 0 + 1 ≤ 8 + (d + 1); omega, by show 8 + (1 + 11) + 0 ≤ 189 + (d + 1) * 25; omega⟩) (mg_200 G Z Y σ1) rfl rfl rfl hl.1 rfl (Nat.le_of_ble_eq_true rfl) dX12_atom_120 ⟨Nat.zero_le _, Nat.zero_le _⟩ rfl (fun H locs hP hD hS => ?_)
          refine lv_pop hx hb dX12_atom_123 rfl ?_
          refine lv_lconst (v := 0) hx hb dX12_atom_124 (by decide) ?_
          obtain rfl := Option.some.inj h
          exact W.lret (v := (0 : Int64)) hx hb hr (q_end hK hP hD hS) hS.2.2 dX12_atom_125
    · skip
      have h := f_t c3 h
      refine lv_aload_n hx hb dX12_atom_44 rfl (lv_at hl 1 rfl) ?_
      obtain ⟨q15, hq15, h⟩ := f_b h
      refine cl_V (w := (mW G Z Y q1.2)) (w' := (mW G Z Y q15.2)) (rv := some (.int q15.1)) (bytes := cX12_goesIn) (maxL := 1) (ret := (some .boolean)) (C := RX12) (As := []) (rest := []) (stk := [.int q15.1]) ⟨hx, hb, hml, hown, hts⟩ hK hE hA hP hD hS (c_X12_goesIn l D G Z Y q1.2 q15 hq15) (cwV 0 hts (gwV wd_1481 wd_1483 wp_55 wd_11 wd_1484) rfl rfl rfl hd_X12_goesIn ⟨by show 1 + 1 ≤ 8 + (d + 1); omega, by show 8 + (1 + 11) + 20 ≤ 189 + (d + 1) * 25; omega⟩) (mg_200 G Z Y q1.2) rfl rfl rfl hl.1 rfl (Nat.le_of_ble_eq_true rfl) dX12_atom_45 ⟨Nat.zero_le _, Nat.zero_le _⟩ rfl (fun H locs hP hD hS => ?_)
      refine lv_if_ne (tgt := 53) hx hb dX12_atom_48 (by decide) (fun c16 => ?_) (fun c16 => ?_)
      · skip
        have h := f_f c16 h
        refine lv_aload_n hx hb dX12_atom_53 rfl (lv_at hl 1 rfl) ?_
        obtain ⟨q17, hq17, h⟩ := f_b h
        refine cl_V (w := (mW G Z Y q15.2)) (w' := (mW G Z Y q17.2)) (rv := some (.long q17.1)) (bytes := cX12_reckon) (maxL := 6) (ret := (some .long)) (C := RX12) (As := []) (rest := []) (stk := [.long q17.1]) ⟨hx, hb, hml, hown, hts⟩ hK hE hA hP hD hS (hu_X12_reckon q15.2 q17 hq17) (cwV 0 hts (gwV wd_1596 wd_1598 wp_69 wd_11 wd_1599) rfl rfl rfl hd_X12_reckon ⟨by show 8 + d + 1 ≤ 8 + (d + 1); omega, by show 8 + (6 + 11) + (189 + d * 25) ≤ 189 + (d + 1) * 25; omega⟩) (mg_200 G Z Y q15.2) rfl rfl rfl hl.1 rfl (Nat.le_of_ble_eq_true rfl) dX12_atom_54 ⟨Nat.zero_le _, Nat.zero_le _⟩ rfl (fun H locs hP hD hS => ?_)
        refine lv_lstore_n (lv' := [(2, .long q17.1), (1, .int q1.1), (0, .ref (G.2.1 200))]) hx hb dX12_atom_57 rfl hl (by decide) rfl (fun ls hl => ?_)
        refine lv_aload_n hx hb dX12_atom_58 rfl (lv_at hl 2 rfl) ?_
        refine lv_bipush (v := 93) hx hb dX12_atom_59 (by decide) ?_
        obtain ⟨q18, hq18, h⟩ := f_b h
        refine cl_V (w := (mW G Z Y q17.2)) (w' := (mW G Z Y q18.2)) (rv := some (.int q18.1)) (bytes := cX12_takes) (maxL := 2) (ret := (some .boolean)) (C := RX12) (As := [.int (93 : Int32)]) (rest := []) (stk := [.int q18.1]) ⟨hx, hb, hml, hown, hts⟩ hK hE hA hP hD hS (c_X12_takes l D G Z Y q17.2 F (93 : Int32) q18 hq18) (cwV 1 hts (gwV wd_1485 wd_1487 wp_56 wd_11 wd_1488) rfl rfl rfl hd_X12_takes ⟨by show 1 + 1 ≤ 8 + (d + 1); omega, by show 8 + (2 + 11) + 20 ≤ 189 + (d + 1) * 25; omega⟩) (mg_200 G Z Y q17.2) rfl rfl rfl hl.1 rfl (Nat.le_of_ble_eq_true rfl) dX12_atom_61 ⟨Nat.zero_le _, Nat.zero_le _⟩ rfl (fun H locs hP hD hS => ?_)
        refine lv_if_ne (tgt := 69) hx hb dX12_atom_64 (by decide) (fun c19 => ?_) (fun c19 => ?_)
        · skip
          have h := f_f c19 h
          refine lv_aload_n hx hb dX12_atom_69 rfl (lv_at hl 2 rfl) ?_
          refine lv_dup hx hb dX12_atom_70 rfl ?_
          refine va_get (D := D) (ci := 12) (v := .int (q18.2.1 200 8)) (C := RX12) (T := TX12) (N := 59) hx hb hts inU_X12 hown hK hP _ (mg_200 G Z Y q18.2) rfl 8 (by decide) (hts _ wd_1256) (fun _ h9 => h9) rfl dX12_atom_71 ?_
          refine lv_iconst (v := 1) hx hb dX12_atom_74 (by decide) ?_
          refine lv_isub hx hb dX12_atom_75 ?_
          refine va_put (D := D) (ci := 12) (v := .int ((q18.2.1 200 8) - (1 : Int32))) (ty := .int) (C := RX12) (T := TX12) (N := 59) hx hb hts inU_X12 tyX12 tyX12_ok nmX12 hown hK hP hD hS _ (mg_200 G Z Y q18.2) rfl 8 (by decide) (hts _ wd_1256) (fun _ h9 => h9) rfl (by decide +kernel) rfl rfl (Nat.le_of_ble_eq_true rfl) dX12_atom_76 (fun H locs hP hD hS => ?_)
          have hP := wrP (mp_200_8 G Z Y q18.2 ((q18.2.1 200 8) - (1 : Int32))) hP
          have hD := wrD (mp_200_8 G Z Y q18.2 ((q18.2.1 200 8) - (1 : Int32))) hD
          refine lv_lload_n hx hb dX12_atom_79 rfl (lv_at hl 0 rfl) ?_
          obtain rfl := Option.some.inj h
          exact W.lret (v := q17.1) hx hb hr (q_end hK hP hD hS) hS.2.2 dX12_atom_80
        · skip
          have h := f_t c19 h
          refine lv_lconst (v := 0) hx hb dX12_atom_67 (by decide) ?_
          obtain rfl := Option.some.inj h
          exact W.lret (v := (0 : Int64)) hx hb hr (q_end hK hP hD hS) hS.2.2 dX12_atom_68
      · skip
        have h := f_t c16 h
        refine lv_lconst (v := 0) hx hb dX12_atom_51 (by decide) ?_
        obtain rfl := Option.some.inj h
        exact W.lret (v := (0 : Int64)) hx hb hr (q_end hK hP hD hS) hS.2.2 dX12_atom_52
  · skip
    have h := f_f c2 h
    refine lv_aload_n hx hb dX12_atom_10 rfl (lv_at hl 1 rfl) ?_
    refine va_get (D := D) (ci := 12) (v := va_rf (((q1.2.2.2 200 29)).map G.2.2)) (C := RX12) (T := TX12) (N := 59) hx hb hts inU_X12 hown hK hP _ (mg_200 G Z Y q1.2) rfl 29 (by decide) (hts _ wd_1277) (fun _ h9 => h9) rfl dX12_atom_11 ?_
    rcases f_o h with ⟨ho, h⟩ | ⟨r20, ho, h⟩
    · rw [ho]
      refine lv_iload_n hx hb dX12_atom_14 rfl (lv_at hl 0 rfl) ?_
      cases h
    · rw [ho]
      obtain ⟨hr20, h⟩ := f_c h
      refine lv_iload_n hx hb dX12_atom_14 rfl (lv_at hl 0 rfl) ?_
      obtain ⟨q21, hq21, h⟩ := f_b h
      refine cl_Vs (w := (mW G Z Y q1.2)) (w' := (mW G Z Y q1.2)) (rv := some (.int q21)) (bytes := cJ0_indexOf_0f7a4) (maxL := 2) (ret := (some .int)) (C := RJ0) (As := [.int q1.1]) (rest := []) (stk := [.int q21]) ⟨hx, hb, hml, hown, hts⟩ hK hE hA hP hD hS (c_J0_indexOf_0f7a4 l D G (mW G Z Y q1.2) F r20 hr20 q1.1 q21 hq21) (cwV 1 hts (gwV wd_1583 wd_371 wd_372 wd_13 wd_373) rfl rfl rfl hd_J0_indexOf_0f7a4 ⟨by show 7 + 1 ≤ 8 + (d + 1); omega, by show 8 + (2 + 11) + 168 ≤ 189 + (d + 1) * 25; omega⟩) (isSt_lt hr20) rfl rfl hl.1 rfl (Nat.le_of_ble_eq_true rfl) dX12_atom_15 ⟨Nat.zero_le _, Nat.zero_le _⟩ rfl (fun H locs hP hD hS => ?_)
      refine lv_if_lt (tgt := 38) hx hb dX12_atom_18 (by decide) (fun c22 => ?_) (fun c22 => ?_)
      · skip
        have h := f_t c22 h
        refine lv_iload_n hx hb dX12_atom_38 rfl (lv_at hl 0 rfl) ?_
        refine lv_bipush (v := 91) hx hb dX12_atom_39 (by decide) ?_
        refine lv_icmp_ne (tgt := 81) hx hb dX12_atom_41 (by decide) (fun c23 => ?_) (fun c23 => ?_)
        · skip
          have h := f_f c23 h
          refine lv_aload_n hx hb dX12_atom_81 rfl (lv_at hl 1 rfl) ?_
          obtain ⟨q24, hq24, h⟩ := f_b h
          refine cl_V (w := (mW G Z Y q1.2)) (w' := (mW G Z Y q1.2)) (rv := some (.int q24)) (bytes := cX12_isDigit) (maxL := 1) (ret := (some .boolean)) (C := RX12) (As := []) (rest := []) (stk := [.int q24]) ⟨hx, hb, hml, hown, hts⟩ hK hE hA hP hD hS (c_X12_isDigit l D G Z Y q1.2 q24 hq24) (cwV 0 hts (gwV wd_1608 wd_1610 wp_72 wd_11 wd_1611) rfl rfl rfl hd_X12_isDigit ⟨by show 0 + 1 ≤ 8 + (d + 1); omega, by show 8 + (1 + 11) + 0 ≤ 189 + (d + 1) * 25; omega⟩) (mg_200 G Z Y q1.2) rfl rfl rfl hl.1 rfl (Nat.le_of_ble_eq_true rfl) dX12_atom_82 ⟨Nat.zero_le _, Nat.zero_le _⟩ rfl (fun H locs hP hD hS => ?_)
          refine lv_if_ne (tgt := 93) hx hb dX12_atom_85 (by decide) (fun c25 => ?_) (fun c25 => ?_)
          · skip
            have h := f_f c25 h
            refine lv_lconst (v := 0) hx hb dX12_atom_93 (by decide) ?_
            refine lv_lstore_n (lv' := [(2, .long (0 : Int64)), (1, .int q1.1), (0, .ref (G.2.1 200))]) hx hb dX12_atom_94 rfl hl (by decide) rfl (fun ls hl => ?_)
            refine lv_iconst (v := 0) hx hb dX12_atom_95 (by decide) ?_
            refine lv_istore (lv' := [(4, .int (0 : Int32)), (2, .long (0 : Int64)), (1, .int q1.1), (0, .ref (G.2.1 200))]) hx hb dX12_atom_96 hl (by decide) rfl (fun ls hl => ?_)
            refine W_X12_atom_L98 l D G Z Y F d u_X12_reckon hu_X12_reckon σ0 res C0 hA _ ?_ F q1.2 (0 : Int64) (0 : Int32) h _ _ _ hP hD hS (lv_sub hl [3, 1, 0] rfl)
            · intro σ1 h H locs ls hP hD hS hl
              refine lv_aload_n hx hb dX12_atom_119 rfl (lv_at hl 0 rfl) ?_
              obtain ⟨q26, hq26, h⟩ := f_b h
              refine cl_V (w := (mW G Z Y σ1)) (w' := (mW G Z Y q26.2)) (rv := some (.int q26.1)) (bytes := cX12_fails) (maxL := 1) (ret := (some .boolean)) (C := RX12) (As := []) (rest := []) (stk := [.int q26.1]) ⟨hx, hb, hml, hown, hts⟩ hK hE hA hP hD hS (c_X12_fails l D G Z Y σ1 q26 hq26) (cwV 0 hts (gwV wd_1477 wd_1479 wp_54 wd_11 wd_1480) rfl rfl rfl hd_X12_fails ⟨by show 0 + 1 ≤ 8 + (d + 1); omega, by show 8 + (1 + 11) + 0 ≤ 189 + (d + 1) * 25; omega⟩) (mg_200 G Z Y σ1) rfl rfl rfl hl.1 rfl (Nat.le_of_ble_eq_true rfl) dX12_atom_120 ⟨Nat.zero_le _, Nat.zero_le _⟩ rfl (fun H locs hP hD hS => ?_)
              refine lv_pop hx hb dX12_atom_123 rfl ?_
              refine lv_lconst (v := 0) hx hb dX12_atom_124 (by decide) ?_
              obtain rfl := Option.some.inj h
              exact W.lret (v := (0 : Int64)) hx hb hr (q_end hK hP hD hS) hS.2.2 dX12_atom_125
          · skip
            have h := f_t c25 h
            refine lv_aload_n hx hb dX12_atom_88 rfl (lv_at hl 1 rfl) ?_
            obtain ⟨q27, hq27, h⟩ := f_b h
            refine cl_V (w := (mW G Z Y q1.2)) (w' := (mW G Z Y q27.2)) (rv := some (.int q27.1)) (bytes := cX12_fails) (maxL := 1) (ret := (some .boolean)) (C := RX12) (As := []) (rest := []) (stk := [.int q27.1]) ⟨hx, hb, hml, hown, hts⟩ hK hE hA hP hD hS (c_X12_fails l D G Z Y q1.2 q27 hq27) (cwV 0 hts (gwV wd_1477 wd_1479 wp_54 wd_11 wd_1480) rfl rfl rfl hd_X12_fails ⟨by show 0 + 1 ≤ 8 + (d + 1); omega, by show 8 + (1 + 11) + 0 ≤ 189 + (d + 1) * 25; omega⟩) (mg_200 G Z Y q1.2) rfl rfl rfl hl.1 rfl (Nat.le_of_ble_eq_true rfl) dX12_atom_89 ⟨Nat.zero_le _, Nat.zero_le _⟩ rfl (fun H locs hP hD hS => ?_)
            refine lv_pop hx hb dX12_atom_92 rfl ?_
            refine lv_lconst (v := 0) hx hb dX12_atom_93 (by decide) ?_
            refine lv_lstore_n (lv' := [(2, .long (0 : Int64)), (1, .int q1.1), (0, .ref (G.2.1 200))]) hx hb dX12_atom_94 rfl hl (by decide) rfl (fun ls hl => ?_)
            refine lv_iconst (v := 0) hx hb dX12_atom_95 (by decide) ?_
            refine lv_istore (lv' := [(4, .int (0 : Int32)), (2, .long (0 : Int64)), (1, .int q1.1), (0, .ref (G.2.1 200))]) hx hb dX12_atom_96 hl (by decide) rfl (fun ls hl => ?_)
            refine W_X12_atom_L98 l D G Z Y F d u_X12_reckon hu_X12_reckon σ0 res C0 hA _ ?_ F q27.2 (0 : Int64) (0 : Int32) h _ _ _ hP hD hS (lv_sub hl [3, 1, 0] rfl)
            · intro σ1 h H locs ls hP hD hS hl
              refine lv_aload_n hx hb dX12_atom_119 rfl (lv_at hl 0 rfl) ?_
              obtain ⟨q28, hq28, h⟩ := f_b h
              refine cl_V (w := (mW G Z Y σ1)) (w' := (mW G Z Y q28.2)) (rv := some (.int q28.1)) (bytes := cX12_fails) (maxL := 1) (ret := (some .boolean)) (C := RX12) (As := []) (rest := []) (stk := [.int q28.1]) ⟨hx, hb, hml, hown, hts⟩ hK hE hA hP hD hS (c_X12_fails l D G Z Y σ1 q28 hq28) (cwV 0 hts (gwV wd_1477 wd_1479 wp_54 wd_11 wd_1480) rfl rfl rfl hd_X12_fails ⟨by show 0 + 1 ≤ 8 + (d + 1); omega, by show 8 + (1 + 11) + 0 ≤ 189 + (d + 1) * 25; omega⟩) (mg_200 G Z Y σ1) rfl rfl rfl hl.1 rfl (Nat.le_of_ble_eq_true rfl) dX12_atom_120 ⟨Nat.zero_le _, Nat.zero_le _⟩ rfl (fun H locs hP hD hS => ?_)
              refine lv_pop hx hb dX12_atom_123 rfl ?_
              refine lv_lconst (v := 0) hx hb dX12_atom_124 (by decide) ?_
              obtain rfl := Option.some.inj h
              exact W.lret (v := (0 : Int64)) hx hb hr (q_end hK hP hD hS) hS.2.2 dX12_atom_125
        · skip
          have h := f_t c23 h
          refine lv_aload_n hx hb dX12_atom_44 rfl (lv_at hl 1 rfl) ?_
          obtain ⟨q29, hq29, h⟩ := f_b h
          refine cl_V (w := (mW G Z Y q1.2)) (w' := (mW G Z Y q29.2)) (rv := some (.int q29.1)) (bytes := cX12_goesIn) (maxL := 1) (ret := (some .boolean)) (C := RX12) (As := []) (rest := []) (stk := [.int q29.1]) ⟨hx, hb, hml, hown, hts⟩ hK hE hA hP hD hS (c_X12_goesIn l D G Z Y q1.2 q29 hq29) (cwV 0 hts (gwV wd_1481 wd_1483 wp_55 wd_11 wd_1484) rfl rfl rfl hd_X12_goesIn ⟨by show 1 + 1 ≤ 8 + (d + 1); omega, by show 8 + (1 + 11) + 20 ≤ 189 + (d + 1) * 25; omega⟩) (mg_200 G Z Y q1.2) rfl rfl rfl hl.1 rfl (Nat.le_of_ble_eq_true rfl) dX12_atom_45 ⟨Nat.zero_le _, Nat.zero_le _⟩ rfl (fun H locs hP hD hS => ?_)
          refine lv_if_ne (tgt := 53) hx hb dX12_atom_48 (by decide) (fun c30 => ?_) (fun c30 => ?_)
          · skip
            have h := f_f c30 h
            refine lv_aload_n hx hb dX12_atom_53 rfl (lv_at hl 1 rfl) ?_
            obtain ⟨q31, hq31, h⟩ := f_b h
            refine cl_V (w := (mW G Z Y q29.2)) (w' := (mW G Z Y q31.2)) (rv := some (.long q31.1)) (bytes := cX12_reckon) (maxL := 6) (ret := (some .long)) (C := RX12) (As := []) (rest := []) (stk := [.long q31.1]) ⟨hx, hb, hml, hown, hts⟩ hK hE hA hP hD hS (hu_X12_reckon q29.2 q31 hq31) (cwV 0 hts (gwV wd_1596 wd_1598 wp_69 wd_11 wd_1599) rfl rfl rfl hd_X12_reckon ⟨by show 8 + d + 1 ≤ 8 + (d + 1); omega, by show 8 + (6 + 11) + (189 + d * 25) ≤ 189 + (d + 1) * 25; omega⟩) (mg_200 G Z Y q29.2) rfl rfl rfl hl.1 rfl (Nat.le_of_ble_eq_true rfl) dX12_atom_54 ⟨Nat.zero_le _, Nat.zero_le _⟩ rfl (fun H locs hP hD hS => ?_)
            refine lv_lstore_n (lv' := [(2, .long q31.1), (1, .int q1.1), (0, .ref (G.2.1 200))]) hx hb dX12_atom_57 rfl hl (by decide) rfl (fun ls hl => ?_)
            refine lv_aload_n hx hb dX12_atom_58 rfl (lv_at hl 2 rfl) ?_
            refine lv_bipush (v := 93) hx hb dX12_atom_59 (by decide) ?_
            obtain ⟨q32, hq32, h⟩ := f_b h
            refine cl_V (w := (mW G Z Y q31.2)) (w' := (mW G Z Y q32.2)) (rv := some (.int q32.1)) (bytes := cX12_takes) (maxL := 2) (ret := (some .boolean)) (C := RX12) (As := [.int (93 : Int32)]) (rest := []) (stk := [.int q32.1]) ⟨hx, hb, hml, hown, hts⟩ hK hE hA hP hD hS (c_X12_takes l D G Z Y q31.2 F (93 : Int32) q32 hq32) (cwV 1 hts (gwV wd_1485 wd_1487 wp_56 wd_11 wd_1488) rfl rfl rfl hd_X12_takes ⟨by show 1 + 1 ≤ 8 + (d + 1); omega, by show 8 + (2 + 11) + 20 ≤ 189 + (d + 1) * 25; omega⟩) (mg_200 G Z Y q31.2) rfl rfl rfl hl.1 rfl (Nat.le_of_ble_eq_true rfl) dX12_atom_61 ⟨Nat.zero_le _, Nat.zero_le _⟩ rfl (fun H locs hP hD hS => ?_)
            refine lv_if_ne (tgt := 69) hx hb dX12_atom_64 (by decide) (fun c33 => ?_) (fun c33 => ?_)
            · skip
              have h := f_f c33 h
              refine lv_aload_n hx hb dX12_atom_69 rfl (lv_at hl 2 rfl) ?_
              refine lv_dup hx hb dX12_atom_70 rfl ?_
              refine va_get (D := D) (ci := 12) (v := .int (q32.2.1 200 8)) (C := RX12) (T := TX12) (N := 59) hx hb hts inU_X12 hown hK hP _ (mg_200 G Z Y q32.2) rfl 8 (by decide) (hts _ wd_1256) (fun _ h9 => h9) rfl dX12_atom_71 ?_
              refine lv_iconst (v := 1) hx hb dX12_atom_74 (by decide) ?_
              refine lv_isub hx hb dX12_atom_75 ?_
              refine va_put (D := D) (ci := 12) (v := .int ((q32.2.1 200 8) - (1 : Int32))) (ty := .int) (C := RX12) (T := TX12) (N := 59) hx hb hts inU_X12 tyX12 tyX12_ok nmX12 hown hK hP hD hS _ (mg_200 G Z Y q32.2) rfl 8 (by decide) (hts _ wd_1256) (fun _ h9 => h9) rfl (by decide +kernel) rfl rfl (Nat.le_of_ble_eq_true rfl) dX12_atom_76 (fun H locs hP hD hS => ?_)
              have hP := wrP (mp_200_8 G Z Y q32.2 ((q32.2.1 200 8) - (1 : Int32))) hP
              have hD := wrD (mp_200_8 G Z Y q32.2 ((q32.2.1 200 8) - (1 : Int32))) hD
              refine lv_lload_n hx hb dX12_atom_79 rfl (lv_at hl 0 rfl) ?_
              obtain rfl := Option.some.inj h
              exact W.lret (v := q31.1) hx hb hr (q_end hK hP hD hS) hS.2.2 dX12_atom_80
            · skip
              have h := f_t c33 h
              refine lv_lconst (v := 0) hx hb dX12_atom_67 (by decide) ?_
              obtain rfl := Option.some.inj h
              exact W.lret (v := (0 : Int64)) hx hb hr (q_end hK hP hD hS) hS.2.2 dX12_atom_68
          · skip
            have h := f_t c30 h
            refine lv_lconst (v := 0) hx hb dX12_atom_51 (by decide) ?_
            obtain rfl := Option.some.inj h
            exact W.lret (v := (0 : Int64)) hx hb hr (q_end hK hP hD hS) hS.2.2 dX12_atom_52
      · skip
        have h := f_f c22 h
        refine lv_aload_n hx hb dX12_atom_21 rfl (lv_at hl 1 rfl) ?_
        refine lv_dup hx hb dX12_atom_22 rfl ?_
        refine va_get (D := D) (ci := 12) (v := .int (q1.2.1 200 6)) (C := RX12) (T := TX12) (N := 59) hx hb hts inU_X12 hown hK hP _ (mg_200 G Z Y q1.2) rfl 6 (by decide) (hts _ wd_1254) (fun _ h9 => h9) rfl dX12_atom_23 ?_
        refine lv_iconst (v := 1) hx hb dX12_atom_26 (by decide) ?_
        refine lv_iadd hx hb dX12_atom_27 ?_
        refine va_put (D := D) (ci := 12) (v := .int ((q1.2.1 200 6) + (1 : Int32))) (ty := .int) (C := RX12) (T := TX12) (N := 59) hx hb hts inU_X12 tyX12 tyX12_ok nmX12 hown hK hP hD hS _ (mg_200 G Z Y q1.2) rfl 6 (by decide) (hts _ wd_1254) (fun _ h9 => h9) rfl (by decide +kernel) rfl rfl (Nat.le_of_ble_eq_true rfl) dX12_atom_28 (fun H locs hP hD hS => ?_)
        have hP := wrP (mp_200_6 G Z Y q1.2 ((q1.2.1 200 6) + (1 : Int32))) hP
        have hD := wrD (mp_200_6 G Z Y q1.2 ((q1.2.1 200 6) + (1 : Int32))) hD
        refine lv_aload_n hx hb dX12_atom_31 rfl (lv_at hl 1 rfl) ?_
        refine va_get (D := D) (ci := 12) (v := .ref (G.2.1 213)) (C := RX12) (T := TX12) (N := 59) hx hb hts inU_X12 hown hK hP _ (mg_200 G Z Y (sI q1.2 200 6 ((q1.2.1 200 6) + (1 : Int32)))) rfl 24 (by decide) (hts _ wd_1272) (fun _ h9 => h9) rfl dX12_atom_32 ?_
        refine lv_iload_n hx hb dX12_atom_35 rfl (lv_at hl 0 rfl) ?_
        obtain ⟨c34, h⟩ := f_n h
        refine va_laldE (v := (q1.2.2.1 213 ((q1.1 : Int32).toNatClampNeg))) hx hb hK hP _ 1 (mg_213 G Z Y (sI q1.2 200 6 ((q1.2.1 200 6) + (1 : Int32)))) rfl c34 dX12_atom_36 rfl ?_
        obtain rfl := Option.some.inj h
        exact W.lret (v := (q1.2.2.1 213 ((q1.1 : Int32).toNatClampNeg))) hx hb hr (q_end hK hP hD hS) hS.2.2 dX12_atom_37
set_option maxRecDepth 100000 in
set_option maxHeartbeats 8000000 in
theorem c_G_Ma (l : Launch) (D : va_G) (G : hG) (Z : hZ) (Y : va_W) (F : Nat) : ∀ d : Nat, (∀ (σ0 : hSt) (res : (Int64 × hSt)), (G_Ma F Z d).1 σ0  = some res → CT l yX12_reckon cX12_reckon 6 (some .long) (rmG_Ma d) D G 0 0 [.ref (G.2.1 200)] (mW G Z Y σ0) (mW G Z Y res.2) (some (.long res.1))) ∧ (∀ (σ0 : hSt) (res : (Int64 × hSt)), (G_Ma F Z d).2.1 σ0  = some res → CT l yX12_term cX12_term 6 (some .long) (rmG_Ma d) D G 0 0 [.ref (G.2.1 200)] (mW G Z Y σ0) (mW G Z Y res.2) (some (.long res.1))) ∧ (∀ (σ0 : hSt) (res : (Int64 × hSt)), (G_Ma F Z d).2.2 σ0  = some res → CT l yX12_atom cX12_atom 5 (some .long) (rmG_Ma d) D G 0 0 [.ref (G.2.1 200)] (mW G Z Y σ0) (mW G Z Y res.2) (some (.long res.1))) := by
  intro d
  induction d with
  | zero =>
    refine ⟨?_, ?_, ?_⟩
    · exact fun σ0 res h => by
        have h1 : (none : Option (Int64 × hSt)) = some res := h
        cases h1
    · exact fun σ0 res h => by
        have h1 : (none : Option (Int64 × hSt)) = some res := h
        cases h1
    · exact fun σ0 res h => by
        have h1 : (none : Option (Int64 × hSt)) = some res := h
        cases h1
  | succ d ih =>
    obtain ⟨i_X12_reckon, i_X12_term, i_X12_atom⟩ := ih
    refine ⟨?_, ?_, ?_⟩
    · exact fun σ0 res h => o_X12_reckon l D G Z Y F d _ i_X12_term σ0 res h
    · exact fun σ0 res h => o_X12_term l D G Z Y F d _ i_X12_atom σ0 res h
    · exact fun σ0 res h => o_X12_atom l D G Z Y F d _ i_X12_reckon σ0 res h
abbrev rm_X12_reckon : Room := rmG_Ma 30
theorem c_X12_reckon (l : Launch) (D : va_G) (G : hG) (Z : hZ) (Y : va_W) (σ0 : hSt) (F : Nat) (res : (Int64 × hSt)) (h : f_X12_reckon F Z σ0  = some res) : CT l yX12_reckon cX12_reckon 6 (some .long) rm_X12_reckon D G 0 0 [.ref (G.2.1 200)] (mW G Z Y σ0) (mW G Z Y res.2) (some (.long res.1)) := (c_G_Ma l D G Z Y F 30).1 σ0 res h
abbrev rm_X12_term : Room := rmG_Ma 30
theorem c_X12_term (l : Launch) (D : va_G) (G : hG) (Z : hZ) (Y : va_W) (σ0 : hSt) (F : Nat) (res : (Int64 × hSt)) (h : f_X12_term F Z σ0  = some res) : CT l yX12_term cX12_term 6 (some .long) rm_X12_term D G 0 0 [.ref (G.2.1 200)] (mW G Z Y σ0) (mW G Z Y res.2) (some (.long res.1)) := (c_G_Ma l D G Z Y F 30).2.1 σ0 res h
abbrev rm_X12_atom : Room := rmG_Ma 30
theorem c_X12_atom (l : Launch) (D : va_G) (G : hG) (Z : hZ) (Y : va_W) (σ0 : hSt) (F : Nat) (res : (Int64 × hSt)) (h : f_X12_atom F Z σ0  = some res) : CT l yX12_atom cX12_atom 5 (some .long) rm_X12_atom D G 0 0 [.ref (G.2.1 200)] (mW G Z Y σ0) (mW G Z Y res.2) (some (.long res.1)) := (c_G_Ma l D G Z Y F 30).2.2 σ0 res h
abbrev rm_X12_isSign : Room := { frames := 0, cells := 0, slots := 0, locals := 0 }
set_option maxRecDepth 100000 in
set_option maxHeartbeats 8000000 in
theorem c_X12_isSign (l : Launch) (D : va_G) (G : hG) (w : va_W) (x0 : Int32) (res : Int32) (h : f_X12_isSign x0 = some res) : CT l yX12_isSign cX12_isSign 1 (some .boolean) rm_X12_isSign D G 0 0 [.int x0] w w (some (.int res)) := by
  unfold f_X12_isSign at h
  refine CT.mk (cc := cX12_isSign) (maxL := 1) (ret := (some .boolean)) (own := RX12) (plainFor_of_name (by decide)) rfl (Nat.le_of_ble_eq_true rfl) ?_
  intro p e s m args below meth c A ls C0 hnm hA hP hD hl
  obtain ⟨hx, hb, hr, hml, hown, hts, hlocks, hK, hE⟩ := id C0
  have hS : va_S A s.heap s.heap [] := va_S.rf
  have hl : lv_has ls 1 [(0, .int x0)] := hl
  refine lv_iload_n hx hb dX12_isSign_0 rfl (lv_at hl 0 rfl) ?_
  refine lv_bipush (v := 61) hx hb dX12_isSign_1 (by decide) ?_
  refine lv_icmp_eq (tgt := 18) hx hb dX12_isSign_3 (by decide) (fun c1 => ?_) (fun c1 => ?_)
  · skip
    have h := f_t c1 h
    refine lv_iconst (v := 1) hx hb dX12_isSign_18 (by decide) ?_
    refine lv_goto (tgt := 23) hx hb dX12_isSign_19 (by decide) ?_
    obtain rfl := Option.some.inj h
    exact W.zret (v := (1 : Int32)) hx hb hr rfl (q_end hK hP hD hS) hS.2.2 dX12_isSign_23
  · skip
    have h := f_f c1 h
    refine lv_iload_n hx hb dX12_isSign_6 rfl (lv_at hl 0 rfl) ?_
    refine lv_bipush (v := 60) hx hb dX12_isSign_7 (by decide) ?_
    refine lv_icmp_eq (tgt := 18) hx hb dX12_isSign_9 (by decide) (fun c2 => ?_) (fun c2 => ?_)
    · skip
      have h := f_t c2 h
      refine lv_iconst (v := 1) hx hb dX12_isSign_18 (by decide) ?_
      refine lv_goto (tgt := 23) hx hb dX12_isSign_19 (by decide) ?_
      obtain rfl := Option.some.inj h
      exact W.zret (v := (1 : Int32)) hx hb hr rfl (q_end hK hP hD hS) hS.2.2 dX12_isSign_23
    · skip
      have h := f_f c2 h
      refine lv_iload_n hx hb dX12_isSign_12 rfl (lv_at hl 0 rfl) ?_
      refine lv_bipush (v := 62) hx hb dX12_isSign_13 (by decide) ?_
      refine lv_icmp_ne (tgt := 22) hx hb dX12_isSign_15 (by decide) (fun c3 => ?_) (fun c3 => ?_)
      · skip
        have h := f_f c3 h
        refine lv_iconst (v := 0) hx hb dX12_isSign_22 (by decide) ?_
        obtain rfl := Option.some.inj h
        exact W.zret (v := (0 : Int32)) hx hb hr rfl (q_end hK hP hD hS) hS.2.2 dX12_isSign_23
      · skip
        have h := f_t c3 h
        refine lv_iconst (v := 1) hx hb dX12_isSign_18 (by decide) ?_
        refine lv_goto (tgt := 23) hx hb dX12_isSign_19 (by decide) ?_
        obtain rfl := Option.some.inj h
        exact W.zret (v := (1 : Int32)) hx hb hr rfl (q_end hK hP hD hS) hS.2.2 dX12_isSign_23
abbrev rm_X12_compares : Room := { frames := 39, cells := 0, slots := 0, locals := 964 }
set_option maxRecDepth 100000 in
set_option maxHeartbeats 8000000 in
theorem c_X12_compares (l : Launch) (D : va_G) (G : hG) (Z : hZ) (Y : va_W) (σ0 : hSt) (F : Nat) (x1 : Int32) (x2 : Int64) (res : (Int32 × hSt)) (h : f_X12_compares F Z σ0 x1 x2 = some res) : CT l yX12_compares cX12_compares 9 (some .boolean) rm_X12_compares D G 0 0 [.ref (G.2.1 200), .int x1, .long x2] (mW G Z Y σ0) (mW G Z Y res.2) (some (.int res.1)) := by
  unfold f_X12_compares at h
  refine CT.mk (cc := cX12_compares) (maxL := 9) (ret := (some .boolean)) (own := RX12) (plainFor_of_name (by decide)) rfl (Nat.le_of_ble_eq_true rfl) ?_
  intro p e s m args below meth c A ls C0 hnm hA hP hD hl
  obtain ⟨hx, hb, hr, hml, hown, hts, hlocks, hK, hE⟩ := id C0
  have hS : va_S A s.heap s.heap [] := va_S.rf
  have hl : lv_has ls 9 [(0, .ref (G.2.1 200)), (1, .int x1), (2, .long x2)] := hl
  refine lv_iload_n hx hb dX12_compares_0 rfl (lv_at hl 1 rfl) ?_
  refine lv_if_eq (tgt := 8) hx hb dX12_compares_1 (by decide) (fun c1 => ?_) (fun c1 => ?_)
  · skip
    have h := f_t c1 h
    refine lv_aload_n hx hb dX12_compares_8 rfl (lv_at hl 0 rfl) ?_
    obtain ⟨q2, hq2, h⟩ := f_b h
    refine cl_V (w := (mW G Z Y σ0)) (w' := (mW G Z Y q2.2)) (rv := some (.long q2.1)) (bytes := cX12_reckon) (maxL := 6) (ret := (some .long)) (C := RX12) (As := []) (rest := []) (stk := [.long q2.1]) ⟨hx, hb, hml, hown, hts⟩ hK hE hA hP hD hS (c_X12_reckon l D G Z Y σ0 F q2 hq2) (cwV 0 hts (gwV wd_1596 wd_1598 wp_69 wd_11 wd_1599) rfl rfl rfl hd_X12_reckon ⟨Nat.le_of_ble_eq_true rfl, Nat.le_of_ble_eq_true rfl⟩) (mg_200 G Z Y σ0) rfl rfl rfl hl.1 rfl (Nat.le_of_ble_eq_true rfl) dX12_compares_9 ⟨Nat.zero_le _, Nat.zero_le _⟩ rfl (fun H locs hP hD hS => ?_)
    refine lv_lstore (lv' := [(4, .long q2.1), (0, .ref (G.2.1 200)), (1, .int x1), (2, .long x2)]) hx hb dX12_compares_12 hl (by decide) rfl (fun ls hl => ?_)
    refine lv_aload_n hx hb dX12_compares_14 rfl (lv_at hl 1 rfl) ?_
    refine va_get (D := D) (ci := 12) (v := .int (q2.2.1 200 7)) (C := RX12) (T := TX12) (N := 59) hx hb hts inU_X12 hown hK hP _ (mg_200 G Z Y q2.2) rfl 7 (by decide) (hts _ wd_1255) (fun _ h9 => h9) rfl dX12_compares_15 ?_
    refine lv_iconst (v := (-1)) hx hb dX12_compares_18 (by decide) ?_
    refine lv_icmp_eq (tgt := 24) hx hb dX12_compares_19 (by decide) (fun c3 => ?_) (fun c3 => ?_)
    · skip
      have h := f_t c3 h
      refine lv_aload_n hx hb dX12_compares_24 rfl (lv_at hl 1 rfl) ?_
      obtain ⟨q4, hq4, h⟩ := f_b h
      refine cl_V (w := (mW G Z Y q2.2)) (w' := (mW G Z Y q4.2)) (rv := some (.int q4.1)) (bytes := cX12_look) (maxL := 1) (ret := (some .int)) (C := RX12) (As := []) (rest := []) (stk := [.int q4.1]) ⟨hx, hb, hml, hown, hts⟩ hK hE hA hP hD hS (c_X12_look l D G Z Y q2.2 F q4 hq4) (cwV 0 hts (gwV wd_1468 wd_1470 wp_52 wd_11 wd_1471) rfl rfl rfl hd_X12_look ⟨Nat.le_of_ble_eq_true rfl, Nat.le_of_ble_eq_true rfl⟩) (mg_200 G Z Y q2.2) rfl rfl rfl hl.1 rfl (Nat.le_of_ble_eq_true rfl) dX12_compares_25 ⟨Nat.zero_le _, Nat.zero_le _⟩ rfl (fun H locs hP hD hS => ?_)
      refine lv_istore (lv' := [(6, .int q4.1), (4, .long q2.1), (0, .ref (G.2.1 200)), (1, .int x1), (2, .long x2)]) hx hb dX12_compares_28 hl (by decide) rfl (fun ls hl => ?_)
      refine lv_iload hx hb dX12_compares_30 (lv_at hl 0 rfl) ?_
      obtain ⟨q5, hq5, h⟩ := f_b h
      refine cl_S (w := (mW G Z Y q4.2)) (w' := (mW G Z Y q4.2)) (rv := some (.int q5)) (bytes := cX12_isSign) (maxL := 1) (ret := (some .boolean)) (As := [.int q4.1]) (rest := []) (stk := [.int q5]) ⟨hx, hb, hml, hown, hts⟩ hK hE hA hP hD hS (c_X12_isSign l D G (mW G Z Y q4.2) q4.1 q5 hq5) (mkS hts wd_1621 wd_1622 wd_11 wd_1623 rfl rfl hd_X12_isSign ⟨Nat.le_of_ble_eq_true rfl, Nat.le_of_ble_eq_true rfl⟩) rfl hl.1 rfl (Nat.le_of_ble_eq_true rfl) dX12_compares_32 ⟨Nat.zero_le _, Nat.zero_le _⟩ rfl (fun H locs hP hD hS => ?_)
      refine lv_if_ne (tgt := 43) hx hb dX12_compares_35 (by decide) (fun c6 => ?_) (fun c6 => ?_)
      · skip
        have h := f_f c6 h
        refine lv_aload_n hx hb dX12_compares_43 rfl (lv_at hl 2 rfl) ?_
        refine lv_dup hx hb dX12_compares_44 rfl ?_
        refine va_get (D := D) (ci := 12) (v := .int (q4.2.1 200 6)) (C := RX12) (T := TX12) (N := 59) hx hb hts inU_X12 hown hK hP _ (mg_200 G Z Y q4.2) rfl 6 (by decide) (hts _ wd_1254) (fun _ h9 => h9) rfl dX12_compares_45 ?_
        refine lv_iconst (v := 1) hx hb dX12_compares_48 (by decide) ?_
        refine lv_iadd hx hb dX12_compares_49 ?_
        refine va_put (D := D) (ci := 12) (v := .int ((q4.2.1 200 6) + (1 : Int32))) (ty := .int) (C := RX12) (T := TX12) (N := 59) hx hb hts inU_X12 tyX12 tyX12_ok nmX12 hown hK hP hD hS _ (mg_200 G Z Y q4.2) rfl 6 (by decide) (hts _ wd_1254) (fun _ h9 => h9) rfl (by decide +kernel) rfl rfl (Nat.le_of_ble_eq_true rfl) dX12_compares_50 (fun H locs hP hD hS => ?_)
        have hP := wrP (mp_200_6 G Z Y q4.2 ((q4.2.1 200 6) + (1 : Int32))) hP
        have hD := wrD (mp_200_6 G Z Y q4.2 ((q4.2.1 200 6) + (1 : Int32))) hD
        refine lv_aload_n hx hb dX12_compares_53 rfl (lv_at hl 2 rfl) ?_
        obtain ⟨q7, hq7, h⟩ := f_b h
        refine cl_V (w := (mW G Z Y (sI q4.2 200 6 ((q4.2.1 200 6) + (1 : Int32))))) (w' := (mW G Z Y q7.2)) (rv := some (.long q7.1)) (bytes := cX12_reckon) (maxL := 6) (ret := (some .long)) (C := RX12) (As := []) (rest := []) (stk := [.long q7.1]) ⟨hx, hb, hml, hown, hts⟩ hK hE hA hP hD hS (c_X12_reckon l D G Z Y (sI q4.2 200 6 ((q4.2.1 200 6) + (1 : Int32))) F q7 hq7) (cwV 0 hts (gwV wd_1596 wd_1598 wp_69 wd_11 wd_1599) rfl rfl rfl hd_X12_reckon ⟨Nat.le_of_ble_eq_true rfl, Nat.le_of_ble_eq_true rfl⟩) (mg_200 G Z Y (sI q4.2 200 6 ((q4.2.1 200 6) + (1 : Int32)))) rfl rfl rfl hl.1 rfl (Nat.le_of_ble_eq_true rfl) dX12_compares_54 ⟨Nat.zero_le _, Nat.zero_le _⟩ rfl (fun H locs hP hD hS => ?_)
        refine lv_lstore (lv' := [(7, .long q7.1), (6, .int q4.1), (4, .long q2.1), (0, .ref (G.2.1 200)), (1, .int x1), (2, .long x2)]) hx hb dX12_compares_57 hl (by decide) rfl (fun ls hl => ?_)
        refine lv_iload hx hb dX12_compares_59 (lv_at hl 1 rfl) ?_
        refine lv_bipush (v := 61) hx hb dX12_compares_61 (by decide) ?_
        refine lv_icmp_ne (tgt := 82) hx hb dX12_compares_63 (by decide) (fun c8 => ?_) (fun c8 => ?_)
        · skip
          have h := f_f c8 h
          refine lv_iload hx hb dX12_compares_82 (lv_at hl 1 rfl) ?_
          refine lv_bipush (v := 60) hx hb dX12_compares_84 (by decide) ?_
          refine lv_icmp_ne (tgt := 105) hx hb dX12_compares_86 (by decide) (fun c9 => ?_) (fun c9 => ?_)
          · skip
            have h := f_f c9 h
            refine lv_lload hx hb dX12_compares_105 (lv_at hl 2 rfl) ?_
            refine lv_lload hx hb dX12_compares_107 (lv_at hl 0 rfl) ?_
            refine W.lcmp hx hb dX12_compares_109 ?_
            refine lv_if_le (tgt := 117) hx hb dX12_compares_110 (by decide) (fun c10 => ?_) (fun c10 => ?_)
            · skip
              have c10 := (lg_cmp_le _ _).mp c10
              have h := f_t c10 h
              refine lv_iconst (v := 0) hx hb dX12_compares_117 (by decide) ?_
              obtain rfl := Option.some.inj h
              exact W.zret (v := (0 : Int32)) hx hb hr rfl (q_end hK hP hD hS) hS.2.2 dX12_compares_118
            · skip
              have c10 := mt (lg_cmp_le _ _).mpr c10
              have h := f_f c10 h
              refine lv_iconst (v := 1) hx hb dX12_compares_113 (by decide) ?_
              refine lv_goto (tgt := 118) hx hb dX12_compares_114 (by decide) ?_
              obtain rfl := Option.some.inj h
              exact W.zret (v := (1 : Int32)) hx hb hr rfl (q_end hK hP hD hS) hS.2.2 dX12_compares_118
          · skip
            have h := f_t c9 h
            refine lv_lload hx hb dX12_compares_89 (lv_at hl 2 rfl) ?_
            refine lv_lload hx hb dX12_compares_91 (lv_at hl 0 rfl) ?_
            refine W.lcmp hx hb dX12_compares_93 ?_
            refine lv_if_ge (tgt := 101) hx hb dX12_compares_94 (by decide) (fun c11 => ?_) (fun c11 => ?_)
            · skip
              have c11 := (lg_cmp_ge _ _).mp c11
              have h := f_t c11 h
              refine lv_iconst (v := 0) hx hb dX12_compares_101 (by decide) ?_
              refine lv_goto (tgt := 118) hx hb dX12_compares_102 (by decide) ?_
              obtain rfl := Option.some.inj h
              exact W.zret (v := (0 : Int32)) hx hb hr rfl (q_end hK hP hD hS) hS.2.2 dX12_compares_118
            · skip
              have c11 := mt (lg_cmp_ge _ _).mpr c11
              have h := f_f c11 h
              refine lv_iconst (v := 1) hx hb dX12_compares_97 (by decide) ?_
              refine lv_goto (tgt := 118) hx hb dX12_compares_98 (by decide) ?_
              obtain rfl := Option.some.inj h
              exact W.zret (v := (1 : Int32)) hx hb hr rfl (q_end hK hP hD hS) hS.2.2 dX12_compares_118
        · skip
          have h := f_t c8 h
          refine lv_lload hx hb dX12_compares_66 (lv_at hl 2 rfl) ?_
          refine lv_lload hx hb dX12_compares_68 (lv_at hl 0 rfl) ?_
          refine W.lcmp hx hb dX12_compares_70 ?_
          refine lv_if_ne (tgt := 78) hx hb dX12_compares_71 (by decide) (fun c12 => ?_) (fun c12 => ?_)
          · skip
            have c12 := mt (lg_cmp_eq _ _).mpr c12
            have h := f_f c12 h
            refine lv_iconst (v := 0) hx hb dX12_compares_78 (by decide) ?_
            refine lv_goto (tgt := 118) hx hb dX12_compares_79 (by decide) ?_
            obtain rfl := Option.some.inj h
            exact W.zret (v := (0 : Int32)) hx hb hr rfl (q_end hK hP hD hS) hS.2.2 dX12_compares_118
          · skip
            have c12 := (lg_cmp_eq _ _).mp c12
            have h := f_t c12 h
            refine lv_iconst (v := 1) hx hb dX12_compares_74 (by decide) ?_
            refine lv_goto (tgt := 118) hx hb dX12_compares_75 (by decide) ?_
            obtain rfl := Option.some.inj h
            exact W.zret (v := (1 : Int32)) hx hb hr rfl (q_end hK hP hD hS) hS.2.2 dX12_compares_118
      · skip
        have h := f_t c6 h
        refine lv_aload_n hx hb dX12_compares_38 rfl (lv_at hl 2 rfl) ?_
        obtain ⟨q13, hq13, h⟩ := f_b h
        refine cl_V (w := (mW G Z Y q4.2)) (w' := (mW G Z Y q13.2)) (rv := some (.int q13.1)) (bytes := cX12_fails) (maxL := 1) (ret := (some .boolean)) (C := RX12) (As := []) (rest := []) (stk := [.int q13.1]) ⟨hx, hb, hml, hown, hts⟩ hK hE hA hP hD hS (c_X12_fails l D G Z Y q4.2 q13 hq13) (cwV 0 hts (gwV wd_1477 wd_1479 wp_54 wd_11 wd_1480) rfl rfl rfl hd_X12_fails ⟨Nat.le_of_ble_eq_true rfl, Nat.le_of_ble_eq_true rfl⟩) (mg_200 G Z Y q4.2) rfl rfl rfl hl.1 rfl (Nat.le_of_ble_eq_true rfl) dX12_compares_39 ⟨Nat.zero_le _, Nat.zero_le _⟩ rfl (fun H locs hP hD hS => ?_)
        obtain ⟨c14, h⟩ := f_c h
        obtain rfl := Option.some.inj h
        exact W.zret (v := q13.1) hx hb hr (bn c14) (q_end hK hP hD hS) hS.2.2 dX12_compares_42
    · skip
      have h := f_f c3 h
      refine lv_iconst (v := 0) hx hb dX12_compares_22 (by decide) ?_
      obtain rfl := Option.some.inj h
      exact W.zret (v := (0 : Int32)) hx hb hr rfl (q_end hK hP hD hS) hS.2.2 dX12_compares_23
  · skip
    have h := f_f c1 h
    refine lv_lload_n hx hb dX12_compares_4 rfl (lv_at hl 2 rfl) ?_
    refine lv_goto (tgt := 12) hx hb dX12_compares_5 (by decide) ?_
    refine lv_lstore (lv' := [(4, .long x2), (0, .ref (G.2.1 200)), (1, .int x1), (2, .long x2)]) hx hb dX12_compares_12 hl (by decide) rfl (fun ls hl => ?_)
    refine lv_aload_n hx hb dX12_compares_14 rfl (lv_at hl 1 rfl) ?_
    refine va_get (D := D) (ci := 12) (v := .int (σ0.1 200 7)) (C := RX12) (T := TX12) (N := 59) hx hb hts inU_X12 hown hK hP _ (mg_200 G Z Y σ0) rfl 7 (by decide) (hts _ wd_1255) (fun _ h9 => h9) rfl dX12_compares_15 ?_
    refine lv_iconst (v := (-1)) hx hb dX12_compares_18 (by decide) ?_
    refine lv_icmp_eq (tgt := 24) hx hb dX12_compares_19 (by decide) (fun c15 => ?_) (fun c15 => ?_)
    · skip
      have h := f_t c15 h
      refine lv_aload_n hx hb dX12_compares_24 rfl (lv_at hl 1 rfl) ?_
      obtain ⟨q16, hq16, h⟩ := f_b h
      refine cl_V (w := (mW G Z Y σ0)) (w' := (mW G Z Y q16.2)) (rv := some (.int q16.1)) (bytes := cX12_look) (maxL := 1) (ret := (some .int)) (C := RX12) (As := []) (rest := []) (stk := [.int q16.1]) ⟨hx, hb, hml, hown, hts⟩ hK hE hA hP hD hS (c_X12_look l D G Z Y σ0 F q16 hq16) (cwV 0 hts (gwV wd_1468 wd_1470 wp_52 wd_11 wd_1471) rfl rfl rfl hd_X12_look ⟨Nat.le_of_ble_eq_true rfl, Nat.le_of_ble_eq_true rfl⟩) (mg_200 G Z Y σ0) rfl rfl rfl hl.1 rfl (Nat.le_of_ble_eq_true rfl) dX12_compares_25 ⟨Nat.zero_le _, Nat.zero_le _⟩ rfl (fun H locs hP hD hS => ?_)
      refine lv_istore (lv' := [(6, .int q16.1), (4, .long x2), (0, .ref (G.2.1 200)), (1, .int x1), (2, .long x2)]) hx hb dX12_compares_28 hl (by decide) rfl (fun ls hl => ?_)
      refine lv_iload hx hb dX12_compares_30 (lv_at hl 0 rfl) ?_
      obtain ⟨q17, hq17, h⟩ := f_b h
      refine cl_S (w := (mW G Z Y q16.2)) (w' := (mW G Z Y q16.2)) (rv := some (.int q17)) (bytes := cX12_isSign) (maxL := 1) (ret := (some .boolean)) (As := [.int q16.1]) (rest := []) (stk := [.int q17]) ⟨hx, hb, hml, hown, hts⟩ hK hE hA hP hD hS (c_X12_isSign l D G (mW G Z Y q16.2) q16.1 q17 hq17) (mkS hts wd_1621 wd_1622 wd_11 wd_1623 rfl rfl hd_X12_isSign ⟨Nat.le_of_ble_eq_true rfl, Nat.le_of_ble_eq_true rfl⟩) rfl hl.1 rfl (Nat.le_of_ble_eq_true rfl) dX12_compares_32 ⟨Nat.zero_le _, Nat.zero_le _⟩ rfl (fun H locs hP hD hS => ?_)
      refine lv_if_ne (tgt := 43) hx hb dX12_compares_35 (by decide) (fun c18 => ?_) (fun c18 => ?_)
      · skip
        have h := f_f c18 h
        refine lv_aload_n hx hb dX12_compares_43 rfl (lv_at hl 2 rfl) ?_
        refine lv_dup hx hb dX12_compares_44 rfl ?_
        refine va_get (D := D) (ci := 12) (v := .int (q16.2.1 200 6)) (C := RX12) (T := TX12) (N := 59) hx hb hts inU_X12 hown hK hP _ (mg_200 G Z Y q16.2) rfl 6 (by decide) (hts _ wd_1254) (fun _ h9 => h9) rfl dX12_compares_45 ?_
        refine lv_iconst (v := 1) hx hb dX12_compares_48 (by decide) ?_
        refine lv_iadd hx hb dX12_compares_49 ?_
        refine va_put (D := D) (ci := 12) (v := .int ((q16.2.1 200 6) + (1 : Int32))) (ty := .int) (C := RX12) (T := TX12) (N := 59) hx hb hts inU_X12 tyX12 tyX12_ok nmX12 hown hK hP hD hS _ (mg_200 G Z Y q16.2) rfl 6 (by decide) (hts _ wd_1254) (fun _ h9 => h9) rfl (by decide +kernel) rfl rfl (Nat.le_of_ble_eq_true rfl) dX12_compares_50 (fun H locs hP hD hS => ?_)
        have hP := wrP (mp_200_6 G Z Y q16.2 ((q16.2.1 200 6) + (1 : Int32))) hP
        have hD := wrD (mp_200_6 G Z Y q16.2 ((q16.2.1 200 6) + (1 : Int32))) hD
        refine lv_aload_n hx hb dX12_compares_53 rfl (lv_at hl 2 rfl) ?_
        obtain ⟨q19, hq19, h⟩ := f_b h
        refine cl_V (w := (mW G Z Y (sI q16.2 200 6 ((q16.2.1 200 6) + (1 : Int32))))) (w' := (mW G Z Y q19.2)) (rv := some (.long q19.1)) (bytes := cX12_reckon) (maxL := 6) (ret := (some .long)) (C := RX12) (As := []) (rest := []) (stk := [.long q19.1]) ⟨hx, hb, hml, hown, hts⟩ hK hE hA hP hD hS (c_X12_reckon l D G Z Y (sI q16.2 200 6 ((q16.2.1 200 6) + (1 : Int32))) F q19 hq19) (cwV 0 hts (gwV wd_1596 wd_1598 wp_69 wd_11 wd_1599) rfl rfl rfl hd_X12_reckon ⟨Nat.le_of_ble_eq_true rfl, Nat.le_of_ble_eq_true rfl⟩) (mg_200 G Z Y (sI q16.2 200 6 ((q16.2.1 200 6) + (1 : Int32)))) rfl rfl rfl hl.1 rfl (Nat.le_of_ble_eq_true rfl) dX12_compares_54 ⟨Nat.zero_le _, Nat.zero_le _⟩ rfl (fun H locs hP hD hS => ?_)
        refine lv_lstore (lv' := [(7, .long q19.1), (6, .int q16.1), (4, .long x2), (0, .ref (G.2.1 200)), (1, .int x1), (2, .long x2)]) hx hb dX12_compares_57 hl (by decide) rfl (fun ls hl => ?_)
        refine lv_iload hx hb dX12_compares_59 (lv_at hl 1 rfl) ?_
        refine lv_bipush (v := 61) hx hb dX12_compares_61 (by decide) ?_
        refine lv_icmp_ne (tgt := 82) hx hb dX12_compares_63 (by decide) (fun c20 => ?_) (fun c20 => ?_)
        · skip
          have h := f_f c20 h
          refine lv_iload hx hb dX12_compares_82 (lv_at hl 1 rfl) ?_
          refine lv_bipush (v := 60) hx hb dX12_compares_84 (by decide) ?_
          refine lv_icmp_ne (tgt := 105) hx hb dX12_compares_86 (by decide) (fun c21 => ?_) (fun c21 => ?_)
          · skip
            have h := f_f c21 h
            refine lv_lload hx hb dX12_compares_105 (lv_at hl 2 rfl) ?_
            refine lv_lload hx hb dX12_compares_107 (lv_at hl 0 rfl) ?_
            refine W.lcmp hx hb dX12_compares_109 ?_
            refine lv_if_le (tgt := 117) hx hb dX12_compares_110 (by decide) (fun c22 => ?_) (fun c22 => ?_)
            · skip
              have c22 := (lg_cmp_le _ _).mp c22
              have h := f_t c22 h
              refine lv_iconst (v := 0) hx hb dX12_compares_117 (by decide) ?_
              obtain rfl := Option.some.inj h
              exact W.zret (v := (0 : Int32)) hx hb hr rfl (q_end hK hP hD hS) hS.2.2 dX12_compares_118
            · skip
              have c22 := mt (lg_cmp_le _ _).mpr c22
              have h := f_f c22 h
              refine lv_iconst (v := 1) hx hb dX12_compares_113 (by decide) ?_
              refine lv_goto (tgt := 118) hx hb dX12_compares_114 (by decide) ?_
              obtain rfl := Option.some.inj h
              exact W.zret (v := (1 : Int32)) hx hb hr rfl (q_end hK hP hD hS) hS.2.2 dX12_compares_118
          · skip
            have h := f_t c21 h
            refine lv_lload hx hb dX12_compares_89 (lv_at hl 2 rfl) ?_
            refine lv_lload hx hb dX12_compares_91 (lv_at hl 0 rfl) ?_
            refine W.lcmp hx hb dX12_compares_93 ?_
            refine lv_if_ge (tgt := 101) hx hb dX12_compares_94 (by decide) (fun c23 => ?_) (fun c23 => ?_)
            · skip
              have c23 := (lg_cmp_ge _ _).mp c23
              have h := f_t c23 h
              refine lv_iconst (v := 0) hx hb dX12_compares_101 (by decide) ?_
              refine lv_goto (tgt := 118) hx hb dX12_compares_102 (by decide) ?_
              obtain rfl := Option.some.inj h
              exact W.zret (v := (0 : Int32)) hx hb hr rfl (q_end hK hP hD hS) hS.2.2 dX12_compares_118
            · skip
              have c23 := mt (lg_cmp_ge _ _).mpr c23
              have h := f_f c23 h
              refine lv_iconst (v := 1) hx hb dX12_compares_97 (by decide) ?_
              refine lv_goto (tgt := 118) hx hb dX12_compares_98 (by decide) ?_
              obtain rfl := Option.some.inj h
              exact W.zret (v := (1 : Int32)) hx hb hr rfl (q_end hK hP hD hS) hS.2.2 dX12_compares_118
        · skip
          have h := f_t c20 h
          refine lv_lload hx hb dX12_compares_66 (lv_at hl 2 rfl) ?_
          refine lv_lload hx hb dX12_compares_68 (lv_at hl 0 rfl) ?_
          refine W.lcmp hx hb dX12_compares_70 ?_
          refine lv_if_ne (tgt := 78) hx hb dX12_compares_71 (by decide) (fun c24 => ?_) (fun c24 => ?_)
          · skip
            have c24 := mt (lg_cmp_eq _ _).mpr c24
            have h := f_f c24 h
            refine lv_iconst (v := 0) hx hb dX12_compares_78 (by decide) ?_
            refine lv_goto (tgt := 118) hx hb dX12_compares_79 (by decide) ?_
            obtain rfl := Option.some.inj h
            exact W.zret (v := (0 : Int32)) hx hb hr rfl (q_end hK hP hD hS) hS.2.2 dX12_compares_118
          · skip
            have c24 := (lg_cmp_eq _ _).mp c24
            have h := f_t c24 h
            refine lv_iconst (v := 1) hx hb dX12_compares_74 (by decide) ?_
            refine lv_goto (tgt := 118) hx hb dX12_compares_75 (by decide) ?_
            obtain rfl := Option.some.inj h
            exact W.zret (v := (1 : Int32)) hx hb hr rfl (q_end hK hP hD hS) hS.2.2 dX12_compares_118
      · skip
        have h := f_t c18 h
        refine lv_aload_n hx hb dX12_compares_38 rfl (lv_at hl 2 rfl) ?_
        obtain ⟨q25, hq25, h⟩ := f_b h
        refine cl_V (w := (mW G Z Y q16.2)) (w' := (mW G Z Y q25.2)) (rv := some (.int q25.1)) (bytes := cX12_fails) (maxL := 1) (ret := (some .boolean)) (C := RX12) (As := []) (rest := []) (stk := [.int q25.1]) ⟨hx, hb, hml, hown, hts⟩ hK hE hA hP hD hS (c_X12_fails l D G Z Y q16.2 q25 hq25) (cwV 0 hts (gwV wd_1477 wd_1479 wp_54 wd_11 wd_1480) rfl rfl rfl hd_X12_fails ⟨Nat.le_of_ble_eq_true rfl, Nat.le_of_ble_eq_true rfl⟩) (mg_200 G Z Y q16.2) rfl rfl rfl hl.1 rfl (Nat.le_of_ble_eq_true rfl) dX12_compares_39 ⟨Nat.zero_le _, Nat.zero_le _⟩ rfl (fun H locs hP hD hS => ?_)
        obtain ⟨c26, h⟩ := f_c h
        obtain rfl := Option.some.inj h
        exact W.zret (v := q25.1) hx hb hr (bn c26) (q_end hK hP hD hS) hS.2.2 dX12_compares_42
    · skip
      have h := f_f c15 h
      refine lv_iconst (v := 0) hx hb dX12_compares_22 (by decide) ?_
      obtain rfl := Option.some.inj h
      exact W.zret (v := (0 : Int32)) hx hb hr rfl (q_end hK hP hD hS) hS.2.2 dX12_compares_23
def rmG_Mu (d : Nat) : Room := { frames := 40 + d, cells := 0, slots := 0, locals := 992 + d * 25 }
set_option maxRecDepth 100000 in
set_option maxHeartbeats 8000000 in
theorem W_X12_condition_L8 {p : Program} {e : Env} {s : State} {m : MethodId} {args : Array Value} {below : List Frame} {meth : Method} {c : Code} {A : Nat → Prop} (l : Launch) (D : va_G) (G : hG) (Z : hZ) (Y : va_W) (F : Nat) (d : Nat) (u_X12_part : (hSt → Int32 → Int64 → Option (Int32 × hSt))) (hu_X12_part : ∀ (σ0 : hSt) (x1 : Int32) (x2 : Int64) (res : (Int32 × hSt)), u_X12_part σ0 x1 x2 = some res → CT l yX12_part cX12_part 6 (some .boolean) (rmG_Mu d) D G 0 0 [.ref (G.2.1 200), .int x1, .long x2] (mW G Z Y σ0) (mW G Z Y res.2) (some (.int res.1))) (σ0 : hSt) (x1 : Int32) (x2 : Int64) (res : (Int32 × hSt)) (C0 : Cx p s m args meth c cX12_condition (some .boolean) RX12 6 D G A) (hA : ∀ q : Nat, s.heap.size ≤ q → A q) : ∀ (n : Nat) (σ1 : hSt) (z4 : Int32), f_X12_condition_L8 F Z u_X12_part n σ1 z4 = some res → ∀ (H : Heap) (locs : List Loc) (ls : Array Slot), va_P D vwCl (mW G Z Y σ1) H → va_D A (mW G Z Y σ1) → va_S A s.heap H locs → lv_has ls 6 [(0, .ref (G.2.1 200)), (4, .int z4)] → W p l e (rmG_Mu (d + 1)) s m args below meth c H locs 0 0 (MQ below (Qg (some (.int res.1)) D (tysG G) (mW G Z Y res.2) A) args s 0 0 A) (F0 m 8 ls []) := by
  obtain ⟨hx, hb, hr, hml, hown, hts, hlocks, hK, hE⟩ := id C0
  intro n
  induction n with
  | zero =>
    intro σ1 z4 h
    cases h
  | succ n ih =>
    intro σ1 z4 h H locs ls hP hD hS hl
    rw [f_X12_condition_L8] at h
    refine lv_aload_n hx hb dX12_condition_8 rfl (lv_at hl 0 rfl) ?_
    refine va_get (D := D) (ci := 12) (v := .int (σ1.1 200 7)) (C := RX12) (T := TX12) (N := 59) hx hb hts inU_X12 hown hK hP _ (mg_200 G Z Y σ1) rfl 7 (by decide) (hts _ wd_1255) (fun _ h9 => h9) rfl dX12_condition_9 ?_
    refine lv_iconst (v := (-1)) hx hb dX12_condition_12 (by decide) ?_
    refine lv_icmp_ne (tgt := 63) hx hb dX12_condition_13 (by decide) (fun c2 => ?_) (fun c2 => ?_)
    · skip
      have h := f_f c2 h
      refine lv_iload hx hb dX12_condition_63 (lv_at hl 1 rfl) ?_
      obtain ⟨c3, h⟩ := f_c h
      obtain rfl := Option.some.inj h
      exact W.zret (v := z4) hx hb hr (bn c3) (q_end hK hP hD hS) hS.2.2 dX12_condition_65
    · skip
      have h := f_t c2 h
      refine lv_aload_n hx hb dX12_condition_16 rfl (lv_at hl 0 rfl) ?_
      obtain ⟨q4, hq4, h⟩ := f_b h
      refine cl_V (w := (mW G Z Y σ1)) (w' := (mW G Z Y q4.2)) (rv := some (.int q4.1)) (bytes := cX12_look) (maxL := 1) (ret := (some .int)) (C := RX12) (As := []) (rest := []) (stk := [.int q4.1]) ⟨hx, hb, hml, hown, hts⟩ hK hE hA hP hD hS (c_X12_look l D G Z Y σ1 F q4 hq4) (cwV 0 hts (gwV wd_1468 wd_1470 wp_52 wd_11 wd_1471) rfl rfl rfl hd_X12_look ⟨by show 0 + 1 ≤ 40 + (d + 1); omega, by show 8 + (1 + 11) + 0 ≤ 992 + (d + 1) * 25; omega⟩) (mg_200 G Z Y σ1) rfl rfl rfl hl.1 rfl (Nat.le_of_ble_eq_true rfl) dX12_condition_17 ⟨Nat.zero_le _, Nat.zero_le _⟩ rfl (fun H locs hP hD hS => ?_)
      refine lv_bipush (v := 124) hx hb dX12_condition_20 (by decide) ?_
      refine lv_icmp_ne (tgt := 63) hx hb dX12_condition_22 (by decide) (fun c5 => ?_) (fun c5 => ?_)
      · skip
        have h := f_f c5 h
        refine lv_iload hx hb dX12_condition_63 (lv_at hl 1 rfl) ?_
        obtain ⟨c6, h⟩ := f_c h
        obtain rfl := Option.some.inj h
        exact W.zret (v := z4) hx hb hr (bn c6) (q_end hK hP hD hS) hS.2.2 dX12_condition_65
      · skip
        have h := f_t c5 h
        refine lv_aload_n hx hb dX12_condition_25 rfl (lv_at hl 0 rfl) ?_
        refine lv_dup hx hb dX12_condition_26 rfl ?_
        refine va_get (D := D) (ci := 12) (v := .int (q4.2.1 200 6)) (C := RX12) (T := TX12) (N := 59) hx hb hts inU_X12 hown hK hP _ (mg_200 G Z Y q4.2) rfl 6 (by decide) (hts _ wd_1254) (fun _ h9 => h9) rfl dX12_condition_27 ?_
        refine lv_iconst (v := 1) hx hb dX12_condition_30 (by decide) ?_
        refine lv_iadd hx hb dX12_condition_31 ?_
        refine va_put (D := D) (ci := 12) (v := .int ((q4.2.1 200 6) + (1 : Int32))) (ty := .int) (C := RX12) (T := TX12) (N := 59) hx hb hts inU_X12 tyX12 tyX12_ok nmX12 hown hK hP hD hS _ (mg_200 G Z Y q4.2) rfl 6 (by decide) (hts _ wd_1254) (fun _ h9 => h9) rfl (by decide +kernel) rfl rfl (Nat.le_of_ble_eq_true rfl) dX12_condition_32 (fun H locs hP hD hS => ?_)
        have hP := wrP (mp_200_6 G Z Y q4.2 ((q4.2.1 200 6) + (1 : Int32))) hP
        have hD := wrD (mp_200_6 G Z Y q4.2 ((q4.2.1 200 6) + (1 : Int32))) hD
        refine lv_aload_n hx hb dX12_condition_35 rfl (lv_at hl 0 rfl) ?_
        refine lv_iconst (v := 0) hx hb dX12_condition_36 (by decide) ?_
        refine lv_lconst (v := 0) hx hb dX12_condition_37 (by decide) ?_
        obtain ⟨q7, hq7, h⟩ := f_b h
        refine cl_V (w := (mW G Z Y (sI q4.2 200 6 ((q4.2.1 200 6) + (1 : Int32))))) (w' := (mW G Z Y q7.2)) (rv := some (.int q7.1)) (bytes := cX12_part) (maxL := 6) (ret := (some .boolean)) (C := RX12) (As := [.int (0 : Int32), .long (0 : Int64)]) (rest := []) (stk := [.int q7.1]) ⟨hx, hb, hml, hown, hts⟩ hK hE hA hP hD hS (hu_X12_part (sI q4.2 200 6 ((q4.2.1 200 6) + (1 : Int32))) (0 : Int32) (0 : Int64) q7 hq7) (cwV 2 hts (gwV wd_1588 wd_1590 wp_67 wd_11 wd_1591) rfl rfl rfl hd_X12_part ⟨by show 40 + d + 1 ≤ 40 + (d + 1); omega, by show 8 + (6 + 11) + (992 + d * 25) ≤ 992 + (d + 1) * 25; omega⟩) (mg_200 G Z Y (sI q4.2 200 6 ((q4.2.1 200 6) + (1 : Int32)))) rfl rfl rfl hl.1 rfl (Nat.le_of_ble_eq_true rfl) dX12_condition_38 ⟨Nat.zero_le _, Nat.zero_le _⟩ rfl (fun H locs hP hD hS => ?_)
        refine lv_istore (lv' := [(5, .int q7.1), (0, .ref (G.2.1 200)), (4, .int z4)]) hx hb dX12_condition_41 hl (by decide) rfl (fun ls hl => ?_)
        refine lv_iload hx hb dX12_condition_43 (lv_at hl 2 rfl) ?_
        refine lv_if_ne (tgt := 53) hx hb dX12_condition_45 (by decide) (fun c8 => ?_) (fun c8 => ?_)
        · skip
          have h := f_f c8 h
          refine lv_iconst (v := 1) hx hb dX12_condition_53 (by decide) ?_
          refine lv_goto (tgt := 58) hx hb dX12_condition_54 (by decide) ?_
          refine lv_istore (lv' := [(4, .int (1 : Int32)), (5, .int q7.1), (0, .ref (G.2.1 200))]) hx hb dX12_condition_58 hl (by decide) rfl (fun ls hl => ?_)
          refine lv_goto (tgt := 8) hx hb dX12_condition_60 (by decide) ?_
          exact ih q7.2 (1 : Int32) h _ _ _ hP hD hS (lv_sub hl [2, 0] rfl)
        · skip
          have h := f_t c8 h
          refine lv_iload hx hb dX12_condition_48 (lv_at hl 0 rfl) ?_
          refine lv_if_eq (tgt := 57) hx hb dX12_condition_50 (by decide) (fun c9 => ?_) (fun c9 => ?_)
          · skip
            have h := f_t c9 h
            refine lv_iconst (v := 0) hx hb dX12_condition_57 (by decide) ?_
            refine lv_istore (lv' := [(4, .int (0 : Int32)), (5, .int q7.1), (0, .ref (G.2.1 200))]) hx hb dX12_condition_58 hl (by decide) rfl (fun ls hl => ?_)
            refine lv_goto (tgt := 8) hx hb dX12_condition_60 (by decide) ?_
            exact ih q7.2 (0 : Int32) h _ _ _ hP hD hS (lv_sub hl [2, 0] rfl)
          · skip
            have h := f_f c9 h
            refine lv_iconst (v := 1) hx hb dX12_condition_53 (by decide) ?_
            refine lv_goto (tgt := 58) hx hb dX12_condition_54 (by decide) ?_
            refine lv_istore (lv' := [(4, .int (1 : Int32)), (5, .int q7.1), (0, .ref (G.2.1 200))]) hx hb dX12_condition_58 hl (by decide) rfl (fun ls hl => ?_)
            refine lv_goto (tgt := 8) hx hb dX12_condition_60 (by decide) ?_
            exact ih q7.2 (1 : Int32) h _ _ _ hP hD hS (lv_sub hl [2, 0] rfl)
set_option maxRecDepth 100000 in
set_option maxHeartbeats 8000000 in
theorem o_X12_condition (l : Launch) (D : va_G) (G : hG) (Z : hZ) (Y : va_W) (F : Nat) (d : Nat) (u_X12_part : (hSt → Int32 → Int64 → Option (Int32 × hSt))) (hu_X12_part : ∀ (σ0 : hSt) (x1 : Int32) (x2 : Int64) (res : (Int32 × hSt)), u_X12_part σ0 x1 x2 = some res → CT l yX12_part cX12_part 6 (some .boolean) (rmG_Mu d) D G 0 0 [.ref (G.2.1 200), .int x1, .long x2] (mW G Z Y σ0) (mW G Z Y res.2) (some (.int res.1))) (σ0 : hSt) (x1 : Int32) (x2 : Int64) (res : (Int32 × hSt)) (h : b_X12_condition F Z u_X12_part σ0 x1 x2 = some res) : CT l yX12_condition cX12_condition 6 (some .boolean) (rmG_Mu (d + 1)) D G 0 0 [.ref (G.2.1 200), .int x1, .long x2] (mW G Z Y σ0) (mW G Z Y res.2) (some (.int res.1)) := by
  unfold b_X12_condition at h
  refine CT.mk (cc := cX12_condition) (maxL := 6) (ret := (some .boolean)) (own := RX12) (plainFor_of_name (by decide)) rfl (Nat.le_of_ble_eq_true rfl) ?_
  intro p e s m args below meth c A ls C0 hnm hA hP hD hl
  obtain ⟨hx, hb, hr, hml, hown, hts, hlocks, hK, hE⟩ := id C0
  have hS : va_S A s.heap s.heap [] := va_S.rf
  have hl : lv_has ls 6 [(0, .ref (G.2.1 200)), (1, .int x1), (2, .long x2)] := hl
  refine lv_aload_n hx hb dX12_condition_0 rfl (lv_at hl 0 rfl) ?_
  refine lv_iload_n hx hb dX12_condition_1 rfl (lv_at hl 1 rfl) ?_
  refine lv_lload_n hx hb dX12_condition_2 rfl (lv_at hl 2 rfl) ?_
  obtain ⟨q1, hq1, h⟩ := f_b h
  refine cl_V (w := (mW G Z Y σ0)) (w' := (mW G Z Y q1.2)) (rv := some (.int q1.1)) (bytes := cX12_part) (maxL := 6) (ret := (some .boolean)) (C := RX12) (As := [.int x1, .long x2]) (rest := []) (stk := [.int q1.1]) ⟨hx, hb, hml, hown, hts⟩ hK hE hA hP hD hS (hu_X12_part σ0 x1 x2 q1 hq1) (cwV 2 hts (gwV wd_1588 wd_1590 wp_67 wd_11 wd_1591) rfl rfl rfl hd_X12_part ⟨by show 40 + d + 1 ≤ 40 + (d + 1); omega, by show 8 + (6 + 11) + (992 + d * 25) ≤ 992 + (d + 1) * 25; omega⟩) (mg_200 G Z Y σ0) rfl rfl rfl hl.1 rfl (Nat.le_of_ble_eq_true rfl) dX12_condition_3 ⟨Nat.zero_le _, Nat.zero_le _⟩ rfl (fun H locs hP hD hS => ?_)
  refine lv_istore (lv' := [(4, .int q1.1), (0, .ref (G.2.1 200)), (1, .int x1), (2, .long x2)]) hx hb dX12_condition_6 hl (by decide) rfl (fun ls hl => ?_)
  refine W_X12_condition_L8 l D G Z Y F d u_X12_part hu_X12_part σ0 x1 x2 res C0 hA F q1.2 q1.1 h _ _ _ hP hD hS (lv_sub hl [1, 0] rfl)
set_option maxRecDepth 100000 in
set_option maxHeartbeats 8000000 in
theorem W_X12_part_L19 {p : Program} {e : Env} {s : State} {m : MethodId} {args : Array Value} {below : List Frame} {meth : Method} {c : Code} {A : Nat → Prop} (l : Launch) (D : va_G) (G : hG) (Z : hZ) (Y : va_W) (F : Nat) (d : Nat) (u_X12_unit : (hSt → Option (Int32 × hSt))) (hu_X12_unit : ∀ (σ0 : hSt) (res : (Int32 × hSt)), u_X12_unit σ0  = some res → CT l yX12_unit cX12_unit 3 (some .boolean) (rmG_Mu d) D G 0 0 [.ref (G.2.1 200)] (mW G Z Y σ0) (mW G Z Y res.2) (some (.int res.1))) (σ0 : hSt) (x1 : Int32) (x2 : Int64) (res : (Int32 × hSt)) (C0 : Cx p s m args meth c cX12_part (some .boolean) RX12 6 D G A) (hA : ∀ q : Nat, s.heap.size ≤ q → A q) : ∀ (n : Nat) (σ1 : hSt) (z4 : Int32), f_X12_part_L19 F Z u_X12_unit n σ1 z4 = some res → ∀ (H : Heap) (locs : List Loc) (ls : Array Slot), va_P D vwCl (mW G Z Y σ1) H → va_D A (mW G Z Y σ1) → va_S A s.heap H locs → lv_has ls 6 [(0, .ref (G.2.1 200)), (4, .int z4)] → W p l e (rmG_Mu (d + 1)) s m args below meth c H locs 0 0 (MQ below (Qg (some (.int res.1)) D (tysG G) (mW G Z Y res.2) A) args s 0 0 A) (F0 m 19 ls []) := by
  obtain ⟨hx, hb, hr, hml, hown, hts, hlocks, hK, hE⟩ := id C0
  intro n
  induction n with
  | zero =>
    intro σ1 z4 h
    cases h
  | succ n ih =>
    intro σ1 z4 h H locs ls hP hD hS hl
    rw [f_X12_part_L19] at h
    refine lv_aload_n hx hb dX12_part_19 rfl (lv_at hl 0 rfl) ?_
    refine va_get (D := D) (ci := 12) (v := .int (σ1.1 200 7)) (C := RX12) (T := TX12) (N := 59) hx hb hts inU_X12 hown hK hP _ (mg_200 G Z Y σ1) rfl 7 (by decide) (hts _ wd_1255) (fun _ h9 => h9) rfl dX12_part_20 ?_
    refine lv_iconst (v := (-1)) hx hb dX12_part_23 (by decide) ?_
    refine lv_icmp_ne (tgt := 72) hx hb dX12_part_24 (by decide) (fun c3 => ?_) (fun c3 => ?_)
    · skip
      have h := f_f c3 h
      refine lv_iload hx hb dX12_part_72 (lv_at hl 1 rfl) ?_
      obtain ⟨c4, h⟩ := f_c h
      obtain rfl := Option.some.inj h
      exact W.zret (v := z4) hx hb hr (bn c4) (q_end hK hP hD hS) hS.2.2 dX12_part_74
    · skip
      have h := f_t c3 h
      refine lv_aload_n hx hb dX12_part_27 rfl (lv_at hl 0 rfl) ?_
      obtain ⟨q5, hq5, h⟩ := f_b h
      refine cl_V (w := (mW G Z Y σ1)) (w' := (mW G Z Y q5.2)) (rv := some (.int q5.1)) (bytes := cX12_look) (maxL := 1) (ret := (some .int)) (C := RX12) (As := []) (rest := []) (stk := [.int q5.1]) ⟨hx, hb, hml, hown, hts⟩ hK hE hA hP hD hS (c_X12_look l D G Z Y σ1 F q5 hq5) (cwV 0 hts (gwV wd_1468 wd_1470 wp_52 wd_11 wd_1471) rfl rfl rfl hd_X12_look ⟨by show 0 + 1 ≤ 40 + (d + 1); omega, by show 8 + (1 + 11) + 0 ≤ 992 + (d + 1) * 25; omega⟩) (mg_200 G Z Y σ1) rfl rfl rfl hl.1 rfl (Nat.le_of_ble_eq_true rfl) dX12_part_28 ⟨Nat.zero_le _, Nat.zero_le _⟩ rfl (fun H locs hP hD hS => ?_)
      refine lv_bipush (v := 38) hx hb dX12_part_31 (by decide) ?_
      refine lv_icmp_ne (tgt := 72) hx hb dX12_part_33 (by decide) (fun c6 => ?_) (fun c6 => ?_)
      · skip
        have h := f_f c6 h
        refine lv_iload hx hb dX12_part_72 (lv_at hl 1 rfl) ?_
        obtain ⟨c7, h⟩ := f_c h
        obtain rfl := Option.some.inj h
        exact W.zret (v := z4) hx hb hr (bn c7) (q_end hK hP hD hS) hS.2.2 dX12_part_74
      · skip
        have h := f_t c6 h
        refine lv_aload_n hx hb dX12_part_36 rfl (lv_at hl 0 rfl) ?_
        refine lv_dup hx hb dX12_part_37 rfl ?_
        refine va_get (D := D) (ci := 12) (v := .int (q5.2.1 200 6)) (C := RX12) (T := TX12) (N := 59) hx hb hts inU_X12 hown hK hP _ (mg_200 G Z Y q5.2) rfl 6 (by decide) (hts _ wd_1254) (fun _ h9 => h9) rfl dX12_part_38 ?_
        refine lv_iconst (v := 1) hx hb dX12_part_41 (by decide) ?_
        refine lv_iadd hx hb dX12_part_42 ?_
        refine va_put (D := D) (ci := 12) (v := .int ((q5.2.1 200 6) + (1 : Int32))) (ty := .int) (C := RX12) (T := TX12) (N := 59) hx hb hts inU_X12 tyX12 tyX12_ok nmX12 hown hK hP hD hS _ (mg_200 G Z Y q5.2) rfl 6 (by decide) (hts _ wd_1254) (fun _ h9 => h9) rfl (by decide +kernel) rfl rfl (Nat.le_of_ble_eq_true rfl) dX12_part_43 (fun H locs hP hD hS => ?_)
        have hP := wrP (mp_200_6 G Z Y q5.2 ((q5.2.1 200 6) + (1 : Int32))) hP
        have hD := wrD (mp_200_6 G Z Y q5.2 ((q5.2.1 200 6) + (1 : Int32))) hD
        refine lv_aload_n hx hb dX12_part_46 rfl (lv_at hl 0 rfl) ?_
        obtain ⟨q8, hq8, h⟩ := f_b h
        refine cl_V (w := (mW G Z Y (sI q5.2 200 6 ((q5.2.1 200 6) + (1 : Int32))))) (w' := (mW G Z Y q8.2)) (rv := some (.int q8.1)) (bytes := cX12_unit) (maxL := 3) (ret := (some .boolean)) (C := RX12) (As := []) (rest := []) (stk := [.int q8.1]) ⟨hx, hb, hml, hown, hts⟩ hK hE hA hP hD hS (hu_X12_unit (sI q5.2 200 6 ((q5.2.1 200 6) + (1 : Int32))) q8 hq8) (cwV 0 hts (gwV wd_1624 wd_1626 wp_73 wd_11 wd_1627) rfl rfl rfl hd_X12_unit ⟨by show 40 + d + 1 ≤ 40 + (d + 1); omega, by show 8 + (3 + 11) + (992 + d * 25) ≤ 992 + (d + 1) * 25; omega⟩) (mg_200 G Z Y (sI q5.2 200 6 ((q5.2.1 200 6) + (1 : Int32)))) rfl rfl rfl hl.1 rfl (Nat.le_of_ble_eq_true rfl) dX12_part_47 ⟨Nat.zero_le _, Nat.zero_le _⟩ rfl (fun H locs hP hD hS => ?_)
        refine lv_istore (lv' := [(5, .int q8.1), (0, .ref (G.2.1 200)), (4, .int z4)]) hx hb dX12_part_50 hl (by decide) rfl (fun ls hl => ?_)
        refine lv_iload hx hb dX12_part_52 (lv_at hl 2 rfl) ?_
        refine lv_if_eq (tgt := 66) hx hb dX12_part_54 (by decide) (fun c9 => ?_) (fun c9 => ?_)
        · skip
          have h := f_t c9 h
          refine lv_iconst (v := 0) hx hb dX12_part_66 (by decide) ?_
          refine lv_istore (lv' := [(4, .int (0 : Int32)), (5, .int q8.1), (0, .ref (G.2.1 200))]) hx hb dX12_part_67 hl (by decide) rfl (fun ls hl => ?_)
          refine lv_goto (tgt := 19) hx hb dX12_part_69 (by decide) ?_
          exact ih q8.2 (0 : Int32) h _ _ _ hP hD hS (lv_sub hl [2, 0] rfl)
        · skip
          have h := f_f c9 h
          refine lv_iload hx hb dX12_part_57 (lv_at hl 0 rfl) ?_
          refine lv_if_eq (tgt := 66) hx hb dX12_part_59 (by decide) (fun c10 => ?_) (fun c10 => ?_)
          · skip
            have h := f_t c10 h
            refine lv_iconst (v := 0) hx hb dX12_part_66 (by decide) ?_
            refine lv_istore (lv' := [(4, .int (0 : Int32)), (5, .int q8.1), (0, .ref (G.2.1 200))]) hx hb dX12_part_67 hl (by decide) rfl (fun ls hl => ?_)
            refine lv_goto (tgt := 19) hx hb dX12_part_69 (by decide) ?_
            exact ih q8.2 (0 : Int32) h _ _ _ hP hD hS (lv_sub hl [2, 0] rfl)
          · skip
            have h := f_f c10 h
            refine lv_iconst (v := 1) hx hb dX12_part_62 (by decide) ?_
            refine lv_goto (tgt := 67) hx hb dX12_part_63 (by decide) ?_
            refine lv_istore (lv' := [(4, .int (1 : Int32)), (5, .int q8.1), (0, .ref (G.2.1 200))]) hx hb dX12_part_67 hl (by decide) rfl (fun ls hl => ?_)
            refine lv_goto (tgt := 19) hx hb dX12_part_69 (by decide) ?_
            exact ih q8.2 (1 : Int32) h _ _ _ hP hD hS (lv_sub hl [2, 0] rfl)
set_option maxRecDepth 100000 in
set_option maxHeartbeats 8000000 in
theorem o_X12_part (l : Launch) (D : va_G) (G : hG) (Z : hZ) (Y : va_W) (F : Nat) (d : Nat) (u_X12_unit : (hSt → Option (Int32 × hSt))) (hu_X12_unit : ∀ (σ0 : hSt) (res : (Int32 × hSt)), u_X12_unit σ0  = some res → CT l yX12_unit cX12_unit 3 (some .boolean) (rmG_Mu d) D G 0 0 [.ref (G.2.1 200)] (mW G Z Y σ0) (mW G Z Y res.2) (some (.int res.1))) (σ0 : hSt) (x1 : Int32) (x2 : Int64) (res : (Int32 × hSt)) (h : b_X12_part F Z u_X12_unit σ0 x1 x2 = some res) : CT l yX12_part cX12_part 6 (some .boolean) (rmG_Mu (d + 1)) D G 0 0 [.ref (G.2.1 200), .int x1, .long x2] (mW G Z Y σ0) (mW G Z Y res.2) (some (.int res.1)) := by
  unfold b_X12_part at h
  refine CT.mk (cc := cX12_part) (maxL := 6) (ret := (some .boolean)) (own := RX12) (plainFor_of_name (by decide)) rfl (Nat.le_of_ble_eq_true rfl) ?_
  intro p e s m args below meth c A ls C0 hnm hA hP hD hl
  obtain ⟨hx, hb, hr, hml, hown, hts, hlocks, hK, hE⟩ := id C0
  have hS : va_S A s.heap s.heap [] := va_S.rf
  have hl : lv_has ls 6 [(0, .ref (G.2.1 200)), (1, .int x1), (2, .long x2)] := hl
  refine lv_iload_n hx hb dX12_part_0 rfl (lv_at hl 1 rfl) ?_
  refine lv_if_eq (tgt := 13) hx hb dX12_part_1 (by decide) (fun c1 => ?_) (fun c1 => ?_)
  · skip
    have h := f_t c1 h
    refine lv_aload_n hx hb dX12_part_13 rfl (lv_at hl 0 rfl) ?_
    obtain ⟨q2, hq2, h⟩ := f_b h
    refine cl_V (w := (mW G Z Y σ0)) (w' := (mW G Z Y q2.2)) (rv := some (.int q2.1)) (bytes := cX12_unit) (maxL := 3) (ret := (some .boolean)) (C := RX12) (As := []) (rest := []) (stk := [.int q2.1]) ⟨hx, hb, hml, hown, hts⟩ hK hE hA hP hD hS (hu_X12_unit σ0 q2 hq2) (cwV 0 hts (gwV wd_1624 wd_1626 wp_73 wd_11 wd_1627) rfl rfl rfl hd_X12_unit ⟨by show 40 + d + 1 ≤ 40 + (d + 1); omega, by show 8 + (3 + 11) + (992 + d * 25) ≤ 992 + (d + 1) * 25; omega⟩) (mg_200 G Z Y σ0) rfl rfl rfl hl.1 rfl (Nat.le_of_ble_eq_true rfl) dX12_part_14 ⟨Nat.zero_le _, Nat.zero_le _⟩ rfl (fun H locs hP hD hS => ?_)
    refine lv_istore (lv' := [(4, .int q2.1), (0, .ref (G.2.1 200)), (1, .int x1), (2, .long x2)]) hx hb dX12_part_17 hl (by decide) rfl (fun ls hl => ?_)
    refine W_X12_part_L19 l D G Z Y F d u_X12_unit hu_X12_unit σ0 x1 x2 res C0 hA F q2.2 q2.1 h _ _ _ hP hD hS (lv_sub hl [1, 0] rfl)
  · skip
    have h := f_f c1 h
    refine lv_aload_n hx hb dX12_part_4 rfl (lv_at hl 0 rfl) ?_
    refine lv_iconst (v := 1) hx hb dX12_part_5 (by decide) ?_
    refine lv_lload_n hx hb dX12_part_6 rfl (lv_at hl 2 rfl) ?_
    obtain ⟨q11, hq11, h⟩ := f_b h
    refine cl_V (w := (mW G Z Y σ0)) (w' := (mW G Z Y q11.2)) (rv := some (.int q11.1)) (bytes := cX12_compares) (maxL := 9) (ret := (some .boolean)) (C := RX12) (As := [.int (1 : Int32), .long x2]) (rest := []) (stk := [.int q11.1]) ⟨hx, hb, hml, hown, hts⟩ hK hE hA hP hD hS (c_X12_compares l D G Z Y σ0 F (1 : Int32) x2 q11 hq11) (cwV 2 hts (gwV wd_1592 wd_1594 wp_68 wd_11 wd_1595) rfl rfl rfl hd_X12_compares ⟨by show 39 + 1 ≤ 40 + (d + 1); omega, by show 8 + (9 + 11) + 964 ≤ 992 + (d + 1) * 25; omega⟩) (mg_200 G Z Y σ0) rfl rfl rfl hl.1 rfl (Nat.le_of_ble_eq_true rfl) dX12_part_7 ⟨Nat.zero_le _, Nat.zero_le _⟩ rfl (fun H locs hP hD hS => ?_)
    refine lv_goto (tgt := 17) hx hb dX12_part_10 (by decide) ?_
    refine lv_istore (lv' := [(4, .int q11.1), (0, .ref (G.2.1 200)), (1, .int x1), (2, .long x2)]) hx hb dX12_part_17 hl (by decide) rfl (fun ls hl => ?_)
    refine W_X12_part_L19 l D G Z Y F d u_X12_unit hu_X12_unit σ0 x1 x2 res C0 hA F q11.2 q11.1 h _ _ _ hP hD hS (lv_sub hl [1, 0] rfl)
set_option maxRecDepth 100000 in
set_option maxHeartbeats 8000000 in
theorem o_X12_unit (l : Launch) (D : va_G) (G : hG) (Z : hZ) (Y : va_W) (F : Nat) (d : Nat) (u_X12_condition : (hSt → Int32 → Int64 → Option (Int32 × hSt))) (hu_X12_condition : ∀ (σ0 : hSt) (x1 : Int32) (x2 : Int64) (res : (Int32 × hSt)), u_X12_condition σ0 x1 x2 = some res → CT l yX12_condition cX12_condition 6 (some .boolean) (rmG_Mu d) D G 0 0 [.ref (G.2.1 200), .int x1, .long x2] (mW G Z Y σ0) (mW G Z Y res.2) (some (.int res.1))) (u_X12_unit : (hSt → Option (Int32 × hSt))) (hu_X12_unit : ∀ (σ0 : hSt) (res : (Int32 × hSt)), u_X12_unit σ0  = some res → CT l yX12_unit cX12_unit 3 (some .boolean) (rmG_Mu d) D G 0 0 [.ref (G.2.1 200)] (mW G Z Y σ0) (mW G Z Y res.2) (some (.int res.1))) (σ0 : hSt) (res : (Int32 × hSt)) (h : b_X12_unit F Z u_X12_condition u_X12_unit σ0 = some res) : CT l yX12_unit cX12_unit 3 (some .boolean) (rmG_Mu (d + 1)) D G 0 0 [.ref (G.2.1 200)] (mW G Z Y σ0) (mW G Z Y res.2) (some (.int res.1)) := by
  unfold b_X12_unit at h
  refine CT.mk (cc := cX12_unit) (maxL := 3) (ret := (some .boolean)) (own := RX12) (plainFor_of_name (by decide)) rfl (Nat.le_of_ble_eq_true rfl) ?_
  intro p e s m args below meth c A ls C0 hnm hA hP hD hl
  obtain ⟨hx, hb, hr, hml, hown, hts, hlocks, hK, hE⟩ := id C0
  have hS : va_S A s.heap s.heap [] := va_S.rf
  have hl : lv_has ls 3 [(0, .ref (G.2.1 200))] := hl
  refine lv_aload_n hx hb dX12_unit_0 rfl (lv_at hl 0 rfl) ?_
  obtain ⟨q1, hq1, h⟩ := f_b h
  refine cl_V (w := (mW G Z Y σ0)) (w' := (mW G Z Y q1.2)) (rv := some (.int q1.1)) (bytes := cX12_look) (maxL := 1) (ret := (some .int)) (C := RX12) (As := []) (rest := []) (stk := [.int q1.1]) ⟨hx, hb, hml, hown, hts⟩ hK hE hA hP hD hS (c_X12_look l D G Z Y σ0 F q1 hq1) (cwV 0 hts (gwV wd_1468 wd_1470 wp_52 wd_11 wd_1471) rfl rfl rfl hd_X12_look ⟨by show 0 + 1 ≤ 40 + (d + 1); omega, by show 8 + (1 + 11) + 0 ≤ 992 + (d + 1) * 25; omega⟩) (mg_200 G Z Y σ0) rfl rfl rfl hl.1 rfl (Nat.le_of_ble_eq_true rfl) dX12_unit_1 ⟨Nat.zero_le _, Nat.zero_le _⟩ rfl (fun H locs hP hD hS => ?_)
  refine lv_istore_n (lv' := [(1, .int q1.1), (0, .ref (G.2.1 200))]) hx hb dX12_unit_4 rfl hl (by decide) rfl (fun ls hl => ?_)
  refine lv_iload_n hx hb dX12_unit_5 rfl (lv_at hl 0 rfl) ?_
  refine lv_bipush (v := 33) hx hb dX12_unit_6 (by decide) ?_
  refine lv_icmp_ne (tgt := 45) hx hb dX12_unit_8 (by decide) (fun c2 => ?_) (fun c2 => ?_)
  · skip
    have h := f_f c2 h
    refine lv_iload_n hx hb dX12_unit_45 rfl (lv_at hl 0 rfl) ?_
    refine lv_bipush (v := 40) hx hb dX12_unit_46 (by decide) ?_
    refine lv_icmp_ne (tgt := 90) hx hb dX12_unit_48 (by decide) (fun c3 => ?_) (fun c3 => ?_)
    · skip
      have h := f_f c3 h
      refine lv_aload_n hx hb dX12_unit_90 rfl (lv_at hl 1 rfl) ?_
      refine lv_iconst (v := 0) hx hb dX12_unit_91 (by decide) ?_
      refine lv_lconst (v := 0) hx hb dX12_unit_92 (by decide) ?_
      obtain ⟨q4, hq4, h⟩ := f_b h
      refine cl_V (w := (mW G Z Y q1.2)) (w' := (mW G Z Y q4.2)) (rv := some (.int q4.1)) (bytes := cX12_compares) (maxL := 9) (ret := (some .boolean)) (C := RX12) (As := [.int (0 : Int32), .long (0 : Int64)]) (rest := []) (stk := [.int q4.1]) ⟨hx, hb, hml, hown, hts⟩ hK hE hA hP hD hS (c_X12_compares l D G Z Y q1.2 F (0 : Int32) (0 : Int64) q4 hq4) (cwV 2 hts (gwV wd_1592 wd_1594 wp_68 wd_11 wd_1595) rfl rfl rfl hd_X12_compares ⟨by show 39 + 1 ≤ 40 + (d + 1); omega, by show 8 + (9 + 11) + 964 ≤ 992 + (d + 1) * 25; omega⟩) (mg_200 G Z Y q1.2) rfl rfl rfl hl.1 rfl (Nat.le_of_ble_eq_true rfl) dX12_unit_93 ⟨Nat.zero_le _, Nat.zero_le _⟩ rfl (fun H locs hP hD hS => ?_)
      obtain ⟨c5, h⟩ := f_c h
      obtain rfl := Option.some.inj h
      exact W.zret (v := q4.1) hx hb hr (bn c5) (q_end hK hP hD hS) hS.2.2 dX12_unit_96
    · skip
      have h := f_t c3 h
      refine lv_aload_n hx hb dX12_unit_51 rfl (lv_at hl 1 rfl) ?_
      obtain ⟨q6, hq6, h⟩ := f_b h
      refine cl_V (w := (mW G Z Y q1.2)) (w' := (mW G Z Y q6.2)) (rv := some (.int q6.1)) (bytes := cX12_goesIn) (maxL := 1) (ret := (some .boolean)) (C := RX12) (As := []) (rest := []) (stk := [.int q6.1]) ⟨hx, hb, hml, hown, hts⟩ hK hE hA hP hD hS (c_X12_goesIn l D G Z Y q1.2 q6 hq6) (cwV 0 hts (gwV wd_1481 wd_1483 wp_55 wd_11 wd_1484) rfl rfl rfl hd_X12_goesIn ⟨by show 1 + 1 ≤ 40 + (d + 1); omega, by show 8 + (1 + 11) + 20 ≤ 992 + (d + 1) * 25; omega⟩) (mg_200 G Z Y q1.2) rfl rfl rfl hl.1 rfl (Nat.le_of_ble_eq_true rfl) dX12_unit_52 ⟨Nat.zero_le _, Nat.zero_le _⟩ rfl (fun H locs hP hD hS => ?_)
      refine lv_if_ne (tgt := 60) hx hb dX12_unit_55 (by decide) (fun c7 => ?_) (fun c7 => ?_)
      · skip
        have h := f_f c7 h
        refine lv_aload_n hx hb dX12_unit_60 rfl (lv_at hl 1 rfl) ?_
        refine lv_iconst (v := 0) hx hb dX12_unit_61 (by decide) ?_
        refine lv_lconst (v := 0) hx hb dX12_unit_62 (by decide) ?_
        obtain ⟨q8, hq8, h⟩ := f_b h
        refine cl_V (w := (mW G Z Y q6.2)) (w' := (mW G Z Y q8.2)) (rv := some (.int q8.1)) (bytes := cX12_condition) (maxL := 6) (ret := (some .boolean)) (C := RX12) (As := [.int (0 : Int32), .long (0 : Int64)]) (rest := []) (stk := [.int q8.1]) ⟨hx, hb, hml, hown, hts⟩ hK hE hA hP hD hS (hu_X12_condition q6.2 (0 : Int32) (0 : Int64) q8 hq8) (cwV 2 hts (gwV wd_1584 wd_1586 wp_66 wd_11 wd_1587) rfl rfl rfl hd_X12_condition ⟨by show 40 + d + 1 ≤ 40 + (d + 1); omega, by show 8 + (6 + 11) + (992 + d * 25) ≤ 992 + (d + 1) * 25; omega⟩) (mg_200 G Z Y q6.2) rfl rfl rfl hl.1 rfl (Nat.le_of_ble_eq_true rfl) dX12_unit_63 ⟨Nat.zero_le _, Nat.zero_le _⟩ rfl (fun H locs hP hD hS => ?_)
        refine lv_istore_n (lv' := [(2, .int q8.1), (1, .int q1.1), (0, .ref (G.2.1 200))]) hx hb dX12_unit_66 rfl hl (by decide) rfl (fun ls hl => ?_)
        refine lv_aload_n hx hb dX12_unit_67 rfl (lv_at hl 2 rfl) ?_
        refine lv_bipush (v := 41) hx hb dX12_unit_68 (by decide) ?_
        obtain ⟨q9, hq9, h⟩ := f_b h
        refine cl_V (w := (mW G Z Y q8.2)) (w' := (mW G Z Y q9.2)) (rv := some (.int q9.1)) (bytes := cX12_takes) (maxL := 2) (ret := (some .boolean)) (C := RX12) (As := [.int (41 : Int32)]) (rest := []) (stk := [.int q9.1]) ⟨hx, hb, hml, hown, hts⟩ hK hE hA hP hD hS (c_X12_takes l D G Z Y q8.2 F (41 : Int32) q9 hq9) (cwV 1 hts (gwV wd_1485 wd_1487 wp_56 wd_11 wd_1488) rfl rfl rfl hd_X12_takes ⟨by show 1 + 1 ≤ 40 + (d + 1); omega, by show 8 + (2 + 11) + 20 ≤ 992 + (d + 1) * 25; omega⟩) (mg_200 G Z Y q8.2) rfl rfl rfl hl.1 rfl (Nat.le_of_ble_eq_true rfl) dX12_unit_70 ⟨Nat.zero_le _, Nat.zero_le _⟩ rfl (fun H locs hP hD hS => ?_)
        refine lv_if_ne (tgt := 78) hx hb dX12_unit_73 (by decide) (fun c10 => ?_) (fun c10 => ?_)
        · skip
          have h := f_f c10 h
          refine lv_aload_n hx hb dX12_unit_78 rfl (lv_at hl 2 rfl) ?_
          refine lv_dup hx hb dX12_unit_79 rfl ?_
          refine va_get (D := D) (ci := 12) (v := .int (q9.2.1 200 8)) (C := RX12) (T := TX12) (N := 59) hx hb hts inU_X12 hown hK hP _ (mg_200 G Z Y q9.2) rfl 8 (by decide) (hts _ wd_1256) (fun _ h9 => h9) rfl dX12_unit_80 ?_
          refine lv_iconst (v := 1) hx hb dX12_unit_83 (by decide) ?_
          refine lv_isub hx hb dX12_unit_84 ?_
          refine va_put (D := D) (ci := 12) (v := .int ((q9.2.1 200 8) - (1 : Int32))) (ty := .int) (C := RX12) (T := TX12) (N := 59) hx hb hts inU_X12 tyX12 tyX12_ok nmX12 hown hK hP hD hS _ (mg_200 G Z Y q9.2) rfl 8 (by decide) (hts _ wd_1256) (fun _ h9 => h9) rfl (by decide +kernel) rfl rfl (Nat.le_of_ble_eq_true rfl) dX12_unit_85 (fun H locs hP hD hS => ?_)
          have hP := wrP (mp_200_8 G Z Y q9.2 ((q9.2.1 200 8) - (1 : Int32))) hP
          have hD := wrD (mp_200_8 G Z Y q9.2 ((q9.2.1 200 8) - (1 : Int32))) hD
          refine lv_iload_n hx hb dX12_unit_88 rfl (lv_at hl 0 rfl) ?_
          obtain ⟨c11, h⟩ := f_c h
          obtain rfl := Option.some.inj h
          exact W.zret (v := q8.1) hx hb hr (bn c11) (q_end hK hP hD hS) hS.2.2 dX12_unit_89
        · skip
          have h := f_t c10 h
          refine lv_iconst (v := 0) hx hb dX12_unit_76 (by decide) ?_
          obtain rfl := Option.some.inj h
          exact W.zret (v := (0 : Int32)) hx hb hr rfl (q_end hK hP hD hS) hS.2.2 dX12_unit_77
      · skip
        have h := f_t c7 h
        refine lv_iconst (v := 0) hx hb dX12_unit_58 (by decide) ?_
        obtain rfl := Option.some.inj h
        exact W.zret (v := (0 : Int32)) hx hb hr rfl (q_end hK hP hD hS) hS.2.2 dX12_unit_59
  · skip
    have h := f_t c2 h
    refine lv_aload_n hx hb dX12_unit_11 rfl (lv_at hl 1 rfl) ?_
    obtain ⟨q12, hq12, h⟩ := f_b h
    refine cl_V (w := (mW G Z Y q1.2)) (w' := (mW G Z Y q12.2)) (rv := some (.int q12.1)) (bytes := cX12_goesIn) (maxL := 1) (ret := (some .boolean)) (C := RX12) (As := []) (rest := []) (stk := [.int q12.1]) ⟨hx, hb, hml, hown, hts⟩ hK hE hA hP hD hS (c_X12_goesIn l D G Z Y q1.2 q12 hq12) (cwV 0 hts (gwV wd_1481 wd_1483 wp_55 wd_11 wd_1484) rfl rfl rfl hd_X12_goesIn ⟨by show 1 + 1 ≤ 40 + (d + 1); omega, by show 8 + (1 + 11) + 20 ≤ 992 + (d + 1) * 25; omega⟩) (mg_200 G Z Y q1.2) rfl rfl rfl hl.1 rfl (Nat.le_of_ble_eq_true rfl) dX12_unit_12 ⟨Nat.zero_le _, Nat.zero_le _⟩ rfl (fun H locs hP hD hS => ?_)
    refine lv_if_ne (tgt := 20) hx hb dX12_unit_15 (by decide) (fun c13 => ?_) (fun c13 => ?_)
    · skip
      have h := f_f c13 h
      refine lv_aload_n hx hb dX12_unit_20 rfl (lv_at hl 1 rfl) ?_
      obtain ⟨q14, hq14, h⟩ := f_b h
      refine cl_V (w := (mW G Z Y q12.2)) (w' := (mW G Z Y q14.2)) (rv := some (.int q14.1)) (bytes := cX12_unit) (maxL := 3) (ret := (some .boolean)) (C := RX12) (As := []) (rest := []) (stk := [.int q14.1]) ⟨hx, hb, hml, hown, hts⟩ hK hE hA hP hD hS (hu_X12_unit q12.2 q14 hq14) (cwV 0 hts (gwV wd_1624 wd_1626 wp_73 wd_11 wd_1627) rfl rfl rfl hd_X12_unit ⟨by show 40 + d + 1 ≤ 40 + (d + 1); omega, by show 8 + (3 + 11) + (992 + d * 25) ≤ 992 + (d + 1) * 25; omega⟩) (mg_200 G Z Y q12.2) rfl rfl rfl hl.1 rfl (Nat.le_of_ble_eq_true rfl) dX12_unit_21 ⟨Nat.zero_le _, Nat.zero_le _⟩ rfl (fun H locs hP hD hS => ?_)
      refine lv_istore_n (lv' := [(2, .int q14.1), (1, .int q1.1), (0, .ref (G.2.1 200))]) hx hb dX12_unit_24 rfl hl (by decide) rfl (fun ls hl => ?_)
      refine lv_aload_n hx hb dX12_unit_25 rfl (lv_at hl 2 rfl) ?_
      refine lv_dup hx hb dX12_unit_26 rfl ?_
      refine va_get (D := D) (ci := 12) (v := .int (q14.2.1 200 8)) (C := RX12) (T := TX12) (N := 59) hx hb hts inU_X12 hown hK hP _ (mg_200 G Z Y q14.2) rfl 8 (by decide) (hts _ wd_1256) (fun _ h9 => h9) rfl dX12_unit_27 ?_
      refine lv_iconst (v := 1) hx hb dX12_unit_30 (by decide) ?_
      refine lv_isub hx hb dX12_unit_31 ?_
      refine va_put (D := D) (ci := 12) (v := .int ((q14.2.1 200 8) - (1 : Int32))) (ty := .int) (C := RX12) (T := TX12) (N := 59) hx hb hts inU_X12 tyX12 tyX12_ok nmX12 hown hK hP hD hS _ (mg_200 G Z Y q14.2) rfl 8 (by decide) (hts _ wd_1256) (fun _ h9 => h9) rfl (by decide +kernel) rfl rfl (Nat.le_of_ble_eq_true rfl) dX12_unit_32 (fun H locs hP hD hS => ?_)
      have hP := wrP (mp_200_8 G Z Y q14.2 ((q14.2.1 200 8) - (1 : Int32))) hP
      have hD := wrD (mp_200_8 G Z Y q14.2 ((q14.2.1 200 8) - (1 : Int32))) hD
      refine lv_iload_n hx hb dX12_unit_35 rfl (lv_at hl 0 rfl) ?_
      refine lv_if_ne (tgt := 43) hx hb dX12_unit_36 (by decide) (fun c15 => ?_) (fun c15 => ?_)
      · skip
        have h := f_f c15 h
        refine lv_iconst (v := 0) hx hb dX12_unit_43 (by decide) ?_
        obtain rfl := Option.some.inj h
        exact W.zret (v := (0 : Int32)) hx hb hr rfl (q_end hK hP hD hS) hS.2.2 dX12_unit_44
      · skip
        have h := f_t c15 h
        refine lv_iconst (v := 1) hx hb dX12_unit_39 (by decide) ?_
        refine lv_goto (tgt := 44) hx hb dX12_unit_40 (by decide) ?_
        obtain rfl := Option.some.inj h
        exact W.zret (v := (1 : Int32)) hx hb hr rfl (q_end hK hP hD hS) hS.2.2 dX12_unit_44
    · skip
      have h := f_t c13 h
      refine lv_iconst (v := 0) hx hb dX12_unit_18 (by decide) ?_
      obtain rfl := Option.some.inj h
      exact W.zret (v := (0 : Int32)) hx hb hr rfl (q_end hK hP hD hS) hS.2.2 dX12_unit_19
set_option maxRecDepth 100000 in
set_option maxHeartbeats 8000000 in
theorem c_G_Mu (l : Launch) (D : va_G) (G : hG) (Z : hZ) (Y : va_W) (F : Nat) : ∀ d : Nat, (∀ (σ0 : hSt) (x1 : Int32) (x2 : Int64) (res : (Int32 × hSt)), (G_Mu F Z d).1 σ0 x1 x2 = some res → CT l yX12_condition cX12_condition 6 (some .boolean) (rmG_Mu d) D G 0 0 [.ref (G.2.1 200), .int x1, .long x2] (mW G Z Y σ0) (mW G Z Y res.2) (some (.int res.1))) ∧ (∀ (σ0 : hSt) (x1 : Int32) (x2 : Int64) (res : (Int32 × hSt)), (G_Mu F Z d).2.1 σ0 x1 x2 = some res → CT l yX12_part cX12_part 6 (some .boolean) (rmG_Mu d) D G 0 0 [.ref (G.2.1 200), .int x1, .long x2] (mW G Z Y σ0) (mW G Z Y res.2) (some (.int res.1))) ∧ (∀ (σ0 : hSt) (res : (Int32 × hSt)), (G_Mu F Z d).2.2 σ0  = some res → CT l yX12_unit cX12_unit 3 (some .boolean) (rmG_Mu d) D G 0 0 [.ref (G.2.1 200)] (mW G Z Y σ0) (mW G Z Y res.2) (some (.int res.1))) := by
  intro d
  induction d with
  | zero =>
    refine ⟨?_, ?_, ?_⟩
    · exact fun σ0 x1 x2 res h => by
        have h1 : (none : Option (Int32 × hSt)) = some res := h
        cases h1
    · exact fun σ0 x1 x2 res h => by
        have h1 : (none : Option (Int32 × hSt)) = some res := h
        cases h1
    · exact fun σ0 res h => by
        have h1 : (none : Option (Int32 × hSt)) = some res := h
        cases h1
  | succ d ih =>
    obtain ⟨i_X12_condition, i_X12_part, i_X12_unit⟩ := ih
    refine ⟨?_, ?_, ?_⟩
    · exact fun σ0 x1 x2 res h => o_X12_condition l D G Z Y F d _ i_X12_part σ0 x1 x2 res h
    · exact fun σ0 x1 x2 res h => o_X12_part l D G Z Y F d _ i_X12_unit σ0 x1 x2 res h
    · exact fun σ0 res h => o_X12_unit l D G Z Y F d _ i_X12_condition _ i_X12_unit σ0 res h
abbrev rm_X12_condition : Room := rmG_Mu 30
theorem c_X12_condition (l : Launch) (D : va_G) (G : hG) (Z : hZ) (Y : va_W) (σ0 : hSt) (F : Nat) (x1 : Int32) (x2 : Int64) (res : (Int32 × hSt)) (h : f_X12_condition F Z σ0 x1 x2 = some res) : CT l yX12_condition cX12_condition 6 (some .boolean) rm_X12_condition D G 0 0 [.ref (G.2.1 200), .int x1, .long x2] (mW G Z Y σ0) (mW G Z Y res.2) (some (.int res.1)) := (c_G_Mu l D G Z Y F 30).1 σ0 x1 x2 res h
abbrev rm_X12_part : Room := rmG_Mu 30
theorem c_X12_part (l : Launch) (D : va_G) (G : hG) (Z : hZ) (Y : va_W) (σ0 : hSt) (F : Nat) (x1 : Int32) (x2 : Int64) (res : (Int32 × hSt)) (h : f_X12_part F Z σ0 x1 x2 = some res) : CT l yX12_part cX12_part 6 (some .boolean) rm_X12_part D G 0 0 [.ref (G.2.1 200), .int x1, .long x2] (mW G Z Y σ0) (mW G Z Y res.2) (some (.int res.1)) := (c_G_Mu l D G Z Y F 30).2.1 σ0 x1 x2 res h
abbrev rm_X12_unit : Room := rmG_Mu 30
theorem c_X12_unit (l : Launch) (D : va_G) (G : hG) (Z : hZ) (Y : va_W) (σ0 : hSt) (F : Nat) (res : (Int32 × hSt)) (h : f_X12_unit F Z σ0  = some res) : CT l yX12_unit cX12_unit 3 (some .boolean) rm_X12_unit D G 0 0 [.ref (G.2.1 200)] (mW G Z Y σ0) (mW G Z Y res.2) (some (.int res.1)) := (c_G_Mu l D G Z Y F 30).2.2 σ0 res h
abbrev rm_X12_clause : Room := { frames := 71, cells := 0, slots := 0, locals := 1767 }
set_option maxRecDepth 100000 in
set_option maxHeartbeats 8000000 in
theorem c_X12_clause (l : Launch) (D : va_G) (G : hG) (Z : hZ) (Y : va_W) (σ0 : hSt) (F : Nat) (res : (Unit × hSt)) (h : f_X12_clause F Z σ0 = some res) : CT l yX12_clause cX12_clause 6 none rm_X12_clause D G 0 0 [.ref (G.2.1 200)] (mW G Z Y σ0) (mW G Z Y res.2) none := by
  unfold f_X12_clause at h
  refine CT.mk (cc := cX12_clause) (maxL := 6) (ret := none) (own := RX12) (plainFor_of_name (by decide)) rfl (Nat.le_of_ble_eq_true rfl) ?_
  intro p e s m args below meth c A ls C0 hnm hA hP hD hl
  obtain ⟨hx, hb, hr, hml, hown, hts, hlocks, hK, hE⟩ := id C0
  have hS : va_S A s.heap s.heap [] := va_S.rf
  have hl : lv_has ls 6 [(0, .ref (G.2.1 200))] := hl
  refine lv_aload_n hx hb dX12_clause_0 rfl (lv_at hl 0 rfl) ?_
  obtain ⟨q1, hq1, h⟩ := f_b h
  refine cl_V (w := (mW G Z Y σ0)) (w' := (mW G Z Y q1.2)) (rv := some (.int q1.1)) (bytes := cX12_look) (maxL := 1) (ret := (some .int)) (C := RX12) (As := []) (rest := []) (stk := [.int q1.1]) ⟨hx, hb, hml, hown, hts⟩ hK hE hA hP hD hS (c_X12_look l D G Z Y σ0 F q1 hq1) (cwV 0 hts (gwV wd_1468 wd_1470 wp_52 wd_11 wd_1471) rfl rfl rfl hd_X12_look ⟨Nat.le_of_ble_eq_true rfl, Nat.le_of_ble_eq_true rfl⟩) (mg_200 G Z Y σ0) rfl rfl rfl hl.1 rfl (Nat.le_of_ble_eq_true rfl) dX12_clause_1 ⟨Nat.zero_le _, Nat.zero_le _⟩ rfl (fun H locs hP hD hS => ?_)
  refine lv_istore_n (lv' := [(1, .int q1.1), (0, .ref (G.2.1 200))]) hx hb dX12_clause_4 rfl hl (by decide) rfl (fun ls hl => ?_)
  refine lv_iload_n hx hb dX12_clause_5 rfl (lv_at hl 0 rfl) ?_
  refine lv_iconst (v := (-1)) hx hb dX12_clause_6 (by decide) ?_
  refine lv_icmp_eq (tgt := 21) hx hb dX12_clause_7 (by decide) (fun c2 => ?_) (fun c2 => ?_)
  · skip
    have h := f_t c2 h
    refine lv_aload_n hx hb dX12_clause_21 rfl (lv_at hl 1 rfl) ?_
    obtain ⟨q3, hq3, h⟩ := f_b h
    refine cl_V (w := (mW G Z Y q1.2)) (w' := (mW G Z Y q3.2)) (rv := some (.int q3.1)) (bytes := cX12_fails) (maxL := 1) (ret := (some .boolean)) (C := RX12) (As := []) (rest := []) (stk := [.int q3.1]) ⟨hx, hb, hml, hown, hts⟩ hK hE hA hP hD hS (c_X12_fails l D G Z Y q1.2 q3 hq3) (cwV 0 hts (gwV wd_1477 wd_1479 wp_54 wd_11 wd_1480) rfl rfl rfl hd_X12_fails ⟨Nat.le_of_ble_eq_true rfl, Nat.le_of_ble_eq_true rfl⟩) (mg_200 G Z Y q1.2) rfl rfl rfl hl.1 rfl (Nat.le_of_ble_eq_true rfl) dX12_clause_22 ⟨Nat.zero_le _, Nat.zero_le _⟩ rfl (fun H locs hP hD hS => ?_)
    refine lv_pop hx hb dX12_clause_25 rfl ?_
    obtain rfl := Option.some.inj h
    exact W.vret hx hb hr (q_end hK hP hD hS) hS.2.2 dX12_clause_26
  · skip
    have h := f_f c2 h
    refine lv_aload_n hx hb dX12_clause_10 rfl (lv_at hl 1 rfl) ?_
    refine va_get (D := D) (ci := 12) (v := va_rf (((q1.2.2.2 200 28)).map G.2.2)) (C := RX12) (T := TX12) (N := 59) hx hb hts inU_X12 hown hK hP _ (mg_200 G Z Y q1.2) rfl 28 (by decide) (hts _ wd_1276) (fun _ h9 => h9) rfl dX12_clause_11 ?_
    rcases f_o h with ⟨ho, h⟩ | ⟨r4, ho, h⟩
    · rw [ho]
      refine lv_iload_n hx hb dX12_clause_14 rfl (lv_at hl 0 rfl) ?_
      cases h
    · rw [ho]
      obtain ⟨hr4, h⟩ := f_c h
      refine lv_iload_n hx hb dX12_clause_14 rfl (lv_at hl 0 rfl) ?_
      obtain ⟨q5, hq5, h⟩ := f_b h
      refine cl_Vs (w := (mW G Z Y q1.2)) (w' := (mW G Z Y q1.2)) (rv := some (.int q5)) (bytes := cJ0_indexOf_0f7a4) (maxL := 2) (ret := (some .int)) (C := RJ0) (As := [.int q1.1]) (rest := []) (stk := [.int q5]) ⟨hx, hb, hml, hown, hts⟩ hK hE hA hP hD hS (c_J0_indexOf_0f7a4 l D G (mW G Z Y q1.2) F r4 hr4 q1.1 q5 hq5) (cwV 1 hts (gwV wd_1583 wd_371 wd_372 wd_13 wd_373) rfl rfl rfl hd_J0_indexOf_0f7a4 ⟨Nat.le_of_ble_eq_true rfl, Nat.le_of_ble_eq_true rfl⟩) (isSt_lt hr4) rfl rfl hl.1 rfl (Nat.le_of_ble_eq_true rfl) dX12_clause_15 ⟨Nat.zero_le _, Nat.zero_le _⟩ rfl (fun H locs hP hD hS => ?_)
      refine lv_if_ge (tgt := 27) hx hb dX12_clause_18 (by decide) (fun c6 => ?_) (fun c6 => ?_)
      · skip
        have h := f_t c6 h
        refine lv_aload_n hx hb dX12_clause_27 rfl (lv_at hl 1 rfl) ?_
        refine lv_dup hx hb dX12_clause_28 rfl ?_
        refine va_get (D := D) (ci := 12) (v := .int (q1.2.1 200 6)) (C := RX12) (T := TX12) (N := 59) hx hb hts inU_X12 hown hK hP _ (mg_200 G Z Y q1.2) rfl 6 (by decide) (hts _ wd_1254) (fun _ h9 => h9) rfl dX12_clause_29 ?_
        refine lv_iconst (v := 1) hx hb dX12_clause_32 (by decide) ?_
        refine lv_iadd hx hb dX12_clause_33 ?_
        refine va_put (D := D) (ci := 12) (v := .int ((q1.2.1 200 6) + (1 : Int32))) (ty := .int) (C := RX12) (T := TX12) (N := 59) hx hb hts inU_X12 tyX12 tyX12_ok nmX12 hown hK hP hD hS _ (mg_200 G Z Y q1.2) rfl 6 (by decide) (hts _ wd_1254) (fun _ h9 => h9) rfl (by decide +kernel) rfl rfl (Nat.le_of_ble_eq_true rfl) dX12_clause_34 (fun H locs hP hD hS => ?_)
        have hP := wrP (mp_200_6 G Z Y q1.2 ((q1.2.1 200 6) + (1 : Int32))) hP
        have hD := wrD (mp_200_6 G Z Y q1.2 ((q1.2.1 200 6) + (1 : Int32))) hD
        refine lv_aload_n hx hb dX12_clause_37 rfl (lv_at hl 1 rfl) ?_
        refine lv_bipush (v := 58) hx hb dX12_clause_38 (by decide) ?_
        obtain ⟨q7, hq7, h⟩ := f_b h
        refine cl_V (w := (mW G Z Y (sI q1.2 200 6 ((q1.2.1 200 6) + (1 : Int32))))) (w' := (mW G Z Y q7.2)) (rv := some (.int q7.1)) (bytes := cX12_takes) (maxL := 2) (ret := (some .boolean)) (C := RX12) (As := [.int (58 : Int32)]) (rest := []) (stk := [.int q7.1]) ⟨hx, hb, hml, hown, hts⟩ hK hE hA hP hD hS (c_X12_takes l D G Z Y (sI q1.2 200 6 ((q1.2.1 200 6) + (1 : Int32))) F (58 : Int32) q7 hq7) (cwV 1 hts (gwV wd_1485 wd_1487 wp_56 wd_11 wd_1488) rfl rfl rfl hd_X12_takes ⟨Nat.le_of_ble_eq_true rfl, Nat.le_of_ble_eq_true rfl⟩) (mg_200 G Z Y (sI q1.2 200 6 ((q1.2.1 200 6) + (1 : Int32)))) rfl rfl rfl hl.1 rfl (Nat.le_of_ble_eq_true rfl) dX12_clause_40 ⟨Nat.zero_le _, Nat.zero_le _⟩ rfl (fun H locs hP hD hS => ?_)
        refine lv_if_ne (tgt := 47) hx hb dX12_clause_43 (by decide) (fun c8 => ?_) (fun c8 => ?_)
        · skip
          have h := f_f c8 h
          refine lv_iconst (v := 1) hx hb dX12_clause_47 (by decide) ?_
          refine lv_istore_n (lv' := [(2, .int (1 : Int32)), (1, .int q1.1), (0, .ref (G.2.1 200))]) hx hb dX12_clause_48 rfl hl (by decide) rfl (fun ls hl => ?_)
          refine lv_lconst (v := 0) hx hb dX12_clause_49 (by decide) ?_
          refine lv_lstore_n (lv' := [(3, .long (0 : Int64)), (2, .int (1 : Int32)), (1, .int q1.1), (0, .ref (G.2.1 200))]) hx hb dX12_clause_50 rfl hl (by decide) rfl (fun ls hl => ?_)
          refine lv_aload_n hx hb dX12_clause_51 rfl (lv_at hl 3 rfl) ?_
          obtain ⟨q9, hq9, h⟩ := f_b h
          refine cl_V (w := (mW G Z Y q7.2)) (w' := (mW G Z Y q9.2)) (rv := some (.int q9.1)) (bytes := cX12_look) (maxL := 1) (ret := (some .int)) (C := RX12) (As := []) (rest := []) (stk := [.int q9.1]) ⟨hx, hb, hml, hown, hts⟩ hK hE hA hP hD hS (c_X12_look l D G Z Y q7.2 F q9 hq9) (cwV 0 hts (gwV wd_1468 wd_1470 wp_52 wd_11 wd_1471) rfl rfl rfl hd_X12_look ⟨Nat.le_of_ble_eq_true rfl, Nat.le_of_ble_eq_true rfl⟩) (mg_200 G Z Y q7.2) rfl rfl rfl hl.1 rfl (Nat.le_of_ble_eq_true rfl) dX12_clause_52 ⟨Nat.zero_le _, Nat.zero_le _⟩ rfl (fun H locs hP hD hS => ?_)
          refine lv_istore (lv' := [(5, .int q9.1), (3, .long (0 : Int64)), (2, .int (1 : Int32)), (1, .int q1.1), (0, .ref (G.2.1 200))]) hx hb dX12_clause_55 hl (by decide) rfl (fun ls hl => ?_)
          refine lv_iload hx hb dX12_clause_57 (lv_at hl 0 rfl) ?_
          refine lv_bipush (v := 33) hx hb dX12_clause_59 (by decide) ?_
          refine lv_icmp_eq (tgt := 71) hx hb dX12_clause_61 (by decide) (fun c10 => ?_) (fun c10 => ?_)
          · skip
            have h := f_t c10 h
            refine lv_aload_n hx hb dX12_clause_71 rfl (lv_at hl 4 rfl) ?_
            refine lv_iconst (v := 0) hx hb dX12_clause_72 (by decide) ?_
            refine lv_lconst (v := 0) hx hb dX12_clause_73 (by decide) ?_
            obtain ⟨q11, hq11, h⟩ := f_b h
            refine cl_V (w := (mW G Z Y q9.2)) (w' := (mW G Z Y q11.2)) (rv := some (.int q11.1)) (bytes := cX12_condition) (maxL := 6) (ret := (some .boolean)) (C := RX12) (As := [.int (0 : Int32), .long (0 : Int64)]) (rest := []) (stk := [.int q11.1]) ⟨hx, hb, hml, hown, hts⟩ hK hE hA hP hD hS (c_X12_condition l D G Z Y q9.2 F (0 : Int32) (0 : Int64) q11 hq11) (cwV 2 hts (gwV wd_1584 wd_1586 wp_66 wd_11 wd_1587) rfl rfl rfl hd_X12_condition ⟨Nat.le_of_ble_eq_true rfl, Nat.le_of_ble_eq_true rfl⟩) (mg_200 G Z Y q9.2) rfl rfl rfl hl.1 rfl (Nat.le_of_ble_eq_true rfl) dX12_clause_74 ⟨Nat.zero_le _, Nat.zero_le _⟩ rfl (fun H locs hP hD hS => ?_)
            refine lv_istore_n (lv' := [(2, .int q11.1), (5, .int q9.1), (3, .long (0 : Int64)), (1, .int q1.1), (0, .ref (G.2.1 200))]) hx hb dX12_clause_77 rfl hl (by decide) rfl (fun ls hl => ?_)
            refine lv_aload_n hx hb dX12_clause_78 rfl (lv_at hl 4 rfl) ?_
            refine lv_bipush (v := 63) hx hb dX12_clause_79 (by decide) ?_
            obtain ⟨q12, hq12, h⟩ := f_b h
            refine cl_V (w := (mW G Z Y q11.2)) (w' := (mW G Z Y q12.2)) (rv := some (.int q12.1)) (bytes := cX12_takes) (maxL := 2) (ret := (some .boolean)) (C := RX12) (As := [.int (63 : Int32)]) (rest := []) (stk := [.int q12.1]) ⟨hx, hb, hml, hown, hts⟩ hK hE hA hP hD hS (c_X12_takes l D G Z Y q11.2 F (63 : Int32) q12 hq12) (cwV 1 hts (gwV wd_1485 wd_1487 wp_56 wd_11 wd_1488) rfl rfl rfl hd_X12_takes ⟨Nat.le_of_ble_eq_true rfl, Nat.le_of_ble_eq_true rfl⟩) (mg_200 G Z Y q11.2) rfl rfl rfl hl.1 rfl (Nat.le_of_ble_eq_true rfl) dX12_clause_81 ⟨Nat.zero_le _, Nat.zero_le _⟩ rfl (fun H locs hP hD hS => ?_)
            refine lv_if_ne (tgt := 88) hx hb dX12_clause_84 (by decide) (fun c13 => ?_) (fun c13 => ?_)
            · skip
              have h := f_f c13 h
              refine lv_aload_n hx hb dX12_clause_88 rfl (lv_at hl 4 rfl) ?_
              obtain ⟨q14, hq14, h⟩ := f_b h
              refine cl_V (w := (mW G Z Y q12.2)) (w' := (mW G Z Y q14.2)) (rv := some (.long q14.1)) (bytes := cX12_reckon) (maxL := 6) (ret := (some .long)) (C := RX12) (As := []) (rest := []) (stk := [.long q14.1]) ⟨hx, hb, hml, hown, hts⟩ hK hE hA hP hD hS (c_X12_reckon l D G Z Y q12.2 F q14 hq14) (cwV 0 hts (gwV wd_1596 wd_1598 wp_69 wd_11 wd_1599) rfl rfl rfl hd_X12_reckon ⟨Nat.le_of_ble_eq_true rfl, Nat.le_of_ble_eq_true rfl⟩) (mg_200 G Z Y q12.2) rfl rfl rfl hl.1 rfl (Nat.le_of_ble_eq_true rfl) dX12_clause_89 ⟨Nat.zero_le _, Nat.zero_le _⟩ rfl (fun H locs hP hD hS => ?_)
              refine lv_lstore_n (lv' := [(3, .long q14.1), (2, .int q11.1), (5, .int q9.1), (1, .int q1.1), (0, .ref (G.2.1 200))]) hx hb dX12_clause_92 rfl hl (by decide) rfl (fun ls hl => ?_)
              refine lv_goto (tgt := 141) hx hb dX12_clause_93 (by decide) ?_
              refine lv_aload_n hx hb dX12_clause_141 rfl (lv_at hl 4 rfl) ?_
              refine va_get (D := D) (ci := 12) (v := .int (q14.2.1 200 7)) (C := RX12) (T := TX12) (N := 59) hx hb hts inU_X12 hown hK hP _ (mg_200 G Z Y q14.2) rfl 7 (by decide) (hts _ wd_1255) (fun _ h9 => h9) rfl dX12_clause_142 ?_
              refine lv_iconst (v := (-1)) hx hb dX12_clause_145 (by decide) ?_
              refine lv_icmp_ne (tgt := 168) hx hb dX12_clause_146 (by decide) (fun c15 => ?_) (fun c15 => ?_)
              · skip
                have h := f_f c15 h
                obtain rfl := Option.some.inj h
                exact W.vret hx hb hr (q_end hK hP hD hS) hS.2.2 dX12_clause_168
              · skip
                have h := f_t c15 h
                refine lv_aload_n hx hb dX12_clause_149 rfl (lv_at hl 4 rfl) ?_
                refine va_get (D := D) (ci := 12) (v := .int (q14.2.1 200 30)) (C := RX12) (T := TX12) (N := 59) hx hb hts inU_X12 hown hK hP _ (mg_200 G Z Y q14.2) rfl 30 (by decide) (hts _ wd_1278) (fun _ h9 => h9) rfl dX12_clause_150 ?_
                refine lv_if_ne (tgt := 168) hx hb dX12_clause_153 (by decide) (fun c16 => ?_) (fun c16 => ?_)
                · skip
                  have h := f_f c16 h
                  obtain rfl := Option.some.inj h
                  exact W.vret hx hb hr (q_end hK hP hD hS) hS.2.2 dX12_clause_168
                · skip
                  have h := f_t c16 h
                  refine lv_iload_n hx hb dX12_clause_156 rfl (lv_at hl 3 rfl) ?_
                  refine lv_aload_n hx hb dX12_clause_157 rfl (lv_at hl 4 rfl) ?_
                  refine va_get (D := D) (ci := 12) (v := .int (q14.2.1 200 27)) (C := RX12) (T := TX12) (N := 59) hx hb hts inU_X12 hown hK hP _ (mg_200 G Z Y q14.2) rfl 27 (by decide) (hts _ wd_1275) (fun _ h9 => h9) rfl dX12_clause_158 ?_
                  refine lv_icmp_ne (tgt := 168) hx hb dX12_clause_161 (by decide) (fun c17 => ?_) (fun c17 => ?_)
                  · skip
                    have h := f_f c17 h
                    obtain rfl := Option.some.inj h
                    exact W.vret hx hb hr (q_end hK hP hD hS) hS.2.2 dX12_clause_168
                  · skip
                    have h := f_t c17 h
                    refine lv_iload_n hx hb dX12_clause_164 rfl (lv_at hl 1 rfl) ?_
                    refine lv_if_ne (tgt := 169) hx hb dX12_clause_165 (by decide) (fun c18 => ?_) (fun c18 => ?_)
                    · skip
                      have h := f_f c18 h
                      refine lv_aload_n hx hb dX12_clause_169 rfl (lv_at hl 4 rfl) ?_
                      refine lv_iconst (v := 1) hx hb dX12_clause_170 (by decide) ?_
                      refine va_put (D := D) (ci := 12) (v := .int (1 : Int32)) (ty := .boolean) (C := RX12) (T := TX12) (N := 59) hx hb hts inU_X12 tyX12 tyX12_ok nmX12 hown hK hP hD hS _ (mg_200 G Z Y q14.2) rfl 30 (by decide) (hts _ wd_1278) (fun _ h9 => h9) rfl (by decide +kernel) rfl rfl (Nat.le_of_ble_eq_true rfl) dX12_clause_171 (fun H locs hP hD hS => ?_)
                      have hP := wrP (mp_200_30 G Z Y q14.2 (1 : Int32)) hP
                      have hD := wrD (mp_200_30 G Z Y q14.2 (1 : Int32)) hD
                      refine lv_aload_n hx hb dX12_clause_174 rfl (lv_at hl 4 rfl) ?_
                      refine lv_lload_n hx hb dX12_clause_175 rfl (lv_at hl 0 rfl) ?_
                      refine va_put (D := D) (ci := 12) (v := .long q14.1) (ty := .long) (C := RX12) (T := TX12) (N := 59) hx hb hts inU_X12 tyX12 tyX12_ok nmX12 hown hK hP hD hS _ (mg_200 G Z Y (sI q14.2 200 30 (1 : Int32))) rfl 31 (by decide) (hts _ wd_1279) (fun _ h9 => h9) rfl (by decide +kernel) rfl rfl (Nat.le_of_ble_eq_true rfl) dX12_clause_176 (fun H locs hP hD hS => ?_)
                      have hP := wrP (mp_200_31 G Z Y (sI q14.2 200 30 (1 : Int32)) q14.1) hP
                      have hD := wrD (mp_200_31 G Z Y (sI q14.2 200 30 (1 : Int32)) q14.1) hD
                      obtain rfl := Option.some.inj h
                      exact W.vret hx hb hr (q_end hK hP hD hS) hS.2.2 dX12_clause_179
                    · skip
                      have h := f_t c18 h
                      obtain rfl := Option.some.inj h
                      exact W.vret hx hb hr (q_end hK hP hD hS) hS.2.2 dX12_clause_168
            · skip
              have h := f_t c13 h
              obtain rfl := Option.some.inj h
              exact W.vret hx hb hr (q_end hK hP hD hS) hS.2.2 dX12_clause_87
          · skip
            have h := f_f c10 h
            refine lv_iload hx hb dX12_clause_64 (lv_at hl 0 rfl) ?_
            refine lv_bipush (v := 40) hx hb dX12_clause_66 (by decide) ?_
            refine lv_icmp_ne (tgt := 96) hx hb dX12_clause_68 (by decide) (fun c19 => ?_) (fun c19 => ?_)
            · skip
              have h := f_f c19 h
              refine lv_aload_n hx hb dX12_clause_96 rfl (lv_at hl 4 rfl) ?_
              obtain ⟨q20, hq20, h⟩ := f_b h
              refine cl_V (w := (mW G Z Y q9.2)) (w' := (mW G Z Y q20.2)) (rv := some (.long q20.1)) (bytes := cX12_reckon) (maxL := 6) (ret := (some .long)) (C := RX12) (As := []) (rest := []) (stk := [.long q20.1]) ⟨hx, hb, hml, hown, hts⟩ hK hE hA hP hD hS (c_X12_reckon l D G Z Y q9.2 F q20 hq20) (cwV 0 hts (gwV wd_1596 wd_1598 wp_69 wd_11 wd_1599) rfl rfl rfl hd_X12_reckon ⟨Nat.le_of_ble_eq_true rfl, Nat.le_of_ble_eq_true rfl⟩) (mg_200 G Z Y q9.2) rfl rfl rfl hl.1 rfl (Nat.le_of_ble_eq_true rfl) dX12_clause_97 ⟨Nat.zero_le _, Nat.zero_le _⟩ rfl (fun H locs hP hD hS => ?_)
              refine lv_lstore_n (lv' := [(3, .long q20.1), (5, .int q9.1), (2, .int (1 : Int32)), (1, .int q1.1), (0, .ref (G.2.1 200))]) hx hb dX12_clause_100 rfl hl (by decide) rfl (fun ls hl => ?_)
              refine lv_aload_n hx hb dX12_clause_101 rfl (lv_at hl 4 rfl) ?_
              refine va_get (D := D) (ci := 12) (v := .int (q20.2.1 200 7)) (C := RX12) (T := TX12) (N := 59) hx hb hts inU_X12 hown hK hP _ (mg_200 G Z Y q20.2) rfl 7 (by decide) (hts _ wd_1255) (fun _ h9 => h9) rfl dX12_clause_102 ?_
              refine lv_iconst (v := (-1)) hx hb dX12_clause_105 (by decide) ?_
              refine lv_icmp_ne (tgt := 141) hx hb dX12_clause_106 (by decide) (fun c21 => ?_) (fun c21 => ?_)
              · skip
                have h := f_f c21 h
                refine lv_aload_n hx hb dX12_clause_141 rfl (lv_at hl 4 rfl) ?_
                refine va_get (D := D) (ci := 12) (v := .int (q20.2.1 200 7)) (C := RX12) (T := TX12) (N := 59) hx hb hts inU_X12 hown hK hP _ (mg_200 G Z Y q20.2) rfl 7 (by decide) (hts _ wd_1255) (fun _ h9 => h9) rfl dX12_clause_142 ?_
                refine lv_iconst (v := (-1)) hx hb dX12_clause_145 (by decide) ?_
                refine lv_icmp_ne (tgt := 168) hx hb dX12_clause_146 (by decide) (fun c22 => ?_) (fun c22 => ?_)
                · skip
                  have h := f_f c22 h
                  obtain rfl := Option.some.inj h
                  exact W.vret hx hb hr (q_end hK hP hD hS) hS.2.2 dX12_clause_168
                · skip
                  have h := f_t c22 h
                  refine lv_aload_n hx hb dX12_clause_149 rfl (lv_at hl 4 rfl) ?_
                  refine va_get (D := D) (ci := 12) (v := .int (q20.2.1 200 30)) (C := RX12) (T := TX12) (N := 59) hx hb hts inU_X12 hown hK hP _ (mg_200 G Z Y q20.2) rfl 30 (by decide) (hts _ wd_1278) (fun _ h9 => h9) rfl dX12_clause_150 ?_
                  refine lv_if_ne (tgt := 168) hx hb dX12_clause_153 (by decide) (fun c23 => ?_) (fun c23 => ?_)
                  · skip
                    have h := f_f c23 h
                    obtain rfl := Option.some.inj h
                    exact W.vret hx hb hr (q_end hK hP hD hS) hS.2.2 dX12_clause_168
                  · skip
                    have h := f_t c23 h
                    refine lv_iload_n hx hb dX12_clause_156 rfl (lv_at hl 3 rfl) ?_
                    refine lv_aload_n hx hb dX12_clause_157 rfl (lv_at hl 4 rfl) ?_
                    refine va_get (D := D) (ci := 12) (v := .int (q20.2.1 200 27)) (C := RX12) (T := TX12) (N := 59) hx hb hts inU_X12 hown hK hP _ (mg_200 G Z Y q20.2) rfl 27 (by decide) (hts _ wd_1275) (fun _ h9 => h9) rfl dX12_clause_158 ?_
                    refine lv_icmp_ne (tgt := 168) hx hb dX12_clause_161 (by decide) (fun c24 => ?_) (fun c24 => ?_)
                    · skip
                      have h := f_f c24 h
                      obtain rfl := Option.some.inj h
                      exact W.vret hx hb hr (q_end hK hP hD hS) hS.2.2 dX12_clause_168
                    · skip
                      have h := f_t c24 h
                      refine lv_iload_n hx hb dX12_clause_164 rfl (lv_at hl 2 rfl) ?_
                      refine lv_if_ne (tgt := 169) hx hb dX12_clause_165 (by decide) (fun c25 => ?_) (fun c25 => ?_)
                      · skip
                        have h := f_f c25 h
                        refine lv_aload_n hx hb dX12_clause_169 rfl (lv_at hl 4 rfl) ?_
                        refine lv_iconst (v := 1) hx hb dX12_clause_170 (by decide) ?_
                        refine va_put (D := D) (ci := 12) (v := .int (1 : Int32)) (ty := .boolean) (C := RX12) (T := TX12) (N := 59) hx hb hts inU_X12 tyX12 tyX12_ok nmX12 hown hK hP hD hS _ (mg_200 G Z Y q20.2) rfl 30 (by decide) (hts _ wd_1278) (fun _ h9 => h9) rfl (by decide +kernel) rfl rfl (Nat.le_of_ble_eq_true rfl) dX12_clause_171 (fun H locs hP hD hS => ?_)
                        have hP := wrP (mp_200_30 G Z Y q20.2 (1 : Int32)) hP
                        have hD := wrD (mp_200_30 G Z Y q20.2 (1 : Int32)) hD
                        refine lv_aload_n hx hb dX12_clause_174 rfl (lv_at hl 4 rfl) ?_
                        refine lv_lload_n hx hb dX12_clause_175 rfl (lv_at hl 0 rfl) ?_
                        refine va_put (D := D) (ci := 12) (v := .long q20.1) (ty := .long) (C := RX12) (T := TX12) (N := 59) hx hb hts inU_X12 tyX12 tyX12_ok nmX12 hown hK hP hD hS _ (mg_200 G Z Y (sI q20.2 200 30 (1 : Int32))) rfl 31 (by decide) (hts _ wd_1279) (fun _ h9 => h9) rfl (by decide +kernel) rfl rfl (Nat.le_of_ble_eq_true rfl) dX12_clause_176 (fun H locs hP hD hS => ?_)
                        have hP := wrP (mp_200_31 G Z Y (sI q20.2 200 30 (1 : Int32)) q20.1) hP
                        have hD := wrD (mp_200_31 G Z Y (sI q20.2 200 30 (1 : Int32)) q20.1) hD
                        obtain rfl := Option.some.inj h
                        exact W.vret hx hb hr (q_end hK hP hD hS) hS.2.2 dX12_clause_179
                      · skip
                        have h := f_t c25 h
                        obtain rfl := Option.some.inj h
                        exact W.vret hx hb hr (q_end hK hP hD hS) hS.2.2 dX12_clause_168
              · skip
                have h := f_t c21 h
                refine lv_aload_n hx hb dX12_clause_109 rfl (lv_at hl 4 rfl) ?_
                obtain ⟨q26, hq26, h⟩ := f_b h
                refine cl_V (w := (mW G Z Y q20.2)) (w' := (mW G Z Y q26.2)) (rv := some (.int q26.1)) (bytes := cX12_look) (maxL := 1) (ret := (some .int)) (C := RX12) (As := []) (rest := []) (stk := [.int q26.1]) ⟨hx, hb, hml, hown, hts⟩ hK hE hA hP hD hS (c_X12_look l D G Z Y q20.2 F q26 hq26) (cwV 0 hts (gwV wd_1468 wd_1470 wp_52 wd_11 wd_1471) rfl rfl rfl hd_X12_look ⟨Nat.le_of_ble_eq_true rfl, Nat.le_of_ble_eq_true rfl⟩) (mg_200 G Z Y q20.2) rfl rfl rfl hl.1 rfl (Nat.le_of_ble_eq_true rfl) dX12_clause_110 ⟨Nat.zero_le _, Nat.zero_le _⟩ rfl (fun H locs hP hD hS => ?_)
                obtain ⟨q27, hq27, h⟩ := f_b h
                refine cl_S (w := (mW G Z Y q26.2)) (w' := (mW G Z Y q26.2)) (rv := some (.int q27)) (bytes := cX12_isSign) (maxL := 1) (ret := (some .boolean)) (As := [.int q26.1]) (rest := []) (stk := [.int q27]) ⟨hx, hb, hml, hown, hts⟩ hK hE hA hP hD hS (c_X12_isSign l D G (mW G Z Y q26.2) q26.1 q27 hq27) (mkS hts wd_1621 wd_1622 wd_11 wd_1623 rfl rfl hd_X12_isSign ⟨Nat.le_of_ble_eq_true rfl, Nat.le_of_ble_eq_true rfl⟩) rfl hl.1 rfl (Nat.le_of_ble_eq_true rfl) dX12_clause_113 ⟨Nat.zero_le _, Nat.zero_le _⟩ rfl (fun H locs hP hD hS => ?_)
                refine lv_if_eq (tgt := 141) hx hb dX12_clause_116 (by decide) (fun c28 => ?_) (fun c28 => ?_)
                · skip
                  have h := f_t c28 h
                  refine lv_aload_n hx hb dX12_clause_141 rfl (lv_at hl 4 rfl) ?_
                  refine va_get (D := D) (ci := 12) (v := .int (q26.2.1 200 7)) (C := RX12) (T := TX12) (N := 59) hx hb hts inU_X12 hown hK hP _ (mg_200 G Z Y q26.2) rfl 7 (by decide) (hts _ wd_1255) (fun _ h9 => h9) rfl dX12_clause_142 ?_
                  refine lv_iconst (v := (-1)) hx hb dX12_clause_145 (by decide) ?_
                  refine lv_icmp_ne (tgt := 168) hx hb dX12_clause_146 (by decide) (fun c29 => ?_) (fun c29 => ?_)
                  · skip
                    have h := f_f c29 h
                    obtain rfl := Option.some.inj h
                    exact W.vret hx hb hr (q_end hK hP hD hS) hS.2.2 dX12_clause_168
                  · skip
                    have h := f_t c29 h
                    refine lv_aload_n hx hb dX12_clause_149 rfl (lv_at hl 4 rfl) ?_
                    refine va_get (D := D) (ci := 12) (v := .int (q26.2.1 200 30)) (C := RX12) (T := TX12) (N := 59) hx hb hts inU_X12 hown hK hP _ (mg_200 G Z Y q26.2) rfl 30 (by decide) (hts _ wd_1278) (fun _ h9 => h9) rfl dX12_clause_150 ?_
                    refine lv_if_ne (tgt := 168) hx hb dX12_clause_153 (by decide) (fun c30 => ?_) (fun c30 => ?_)
                    · skip
                      have h := f_f c30 h
                      obtain rfl := Option.some.inj h
                      exact W.vret hx hb hr (q_end hK hP hD hS) hS.2.2 dX12_clause_168
                    · skip
                      have h := f_t c30 h
                      refine lv_iload_n hx hb dX12_clause_156 rfl (lv_at hl 3 rfl) ?_
                      refine lv_aload_n hx hb dX12_clause_157 rfl (lv_at hl 4 rfl) ?_
                      refine va_get (D := D) (ci := 12) (v := .int (q26.2.1 200 27)) (C := RX12) (T := TX12) (N := 59) hx hb hts inU_X12 hown hK hP _ (mg_200 G Z Y q26.2) rfl 27 (by decide) (hts _ wd_1275) (fun _ h9 => h9) rfl dX12_clause_158 ?_
                      refine lv_icmp_ne (tgt := 168) hx hb dX12_clause_161 (by decide) (fun c31 => ?_) (fun c31 => ?_)
                      · skip
                        have h := f_f c31 h
                        obtain rfl := Option.some.inj h
                        exact W.vret hx hb hr (q_end hK hP hD hS) hS.2.2 dX12_clause_168
                      · skip
                        have h := f_t c31 h
                        refine lv_iload_n hx hb dX12_clause_164 rfl (lv_at hl 2 rfl) ?_
                        refine lv_if_ne (tgt := 169) hx hb dX12_clause_165 (by decide) (fun c32 => ?_) (fun c32 => ?_)
                        · skip
                          have h := f_f c32 h
                          refine lv_aload_n hx hb dX12_clause_169 rfl (lv_at hl 4 rfl) ?_
                          refine lv_iconst (v := 1) hx hb dX12_clause_170 (by decide) ?_
                          refine va_put (D := D) (ci := 12) (v := .int (1 : Int32)) (ty := .boolean) (C := RX12) (T := TX12) (N := 59) hx hb hts inU_X12 tyX12 tyX12_ok nmX12 hown hK hP hD hS _ (mg_200 G Z Y q26.2) rfl 30 (by decide) (hts _ wd_1278) (fun _ h9 => h9) rfl (by decide +kernel) rfl rfl (Nat.le_of_ble_eq_true rfl) dX12_clause_171 (fun H locs hP hD hS => ?_)
                          have hP := wrP (mp_200_30 G Z Y q26.2 (1 : Int32)) hP
                          have hD := wrD (mp_200_30 G Z Y q26.2 (1 : Int32)) hD
                          refine lv_aload_n hx hb dX12_clause_174 rfl (lv_at hl 4 rfl) ?_
                          refine lv_lload_n hx hb dX12_clause_175 rfl (lv_at hl 0 rfl) ?_
                          refine va_put (D := D) (ci := 12) (v := .long q20.1) (ty := .long) (C := RX12) (T := TX12) (N := 59) hx hb hts inU_X12 tyX12 tyX12_ok nmX12 hown hK hP hD hS _ (mg_200 G Z Y (sI q26.2 200 30 (1 : Int32))) rfl 31 (by decide) (hts _ wd_1279) (fun _ h9 => h9) rfl (by decide +kernel) rfl rfl (Nat.le_of_ble_eq_true rfl) dX12_clause_176 (fun H locs hP hD hS => ?_)
                          have hP := wrP (mp_200_31 G Z Y (sI q26.2 200 30 (1 : Int32)) q20.1) hP
                          have hD := wrD (mp_200_31 G Z Y (sI q26.2 200 30 (1 : Int32)) q20.1) hD
                          obtain rfl := Option.some.inj h
                          exact W.vret hx hb hr (q_end hK hP hD hS) hS.2.2 dX12_clause_179
                        · skip
                          have h := f_t c32 h
                          obtain rfl := Option.some.inj h
                          exact W.vret hx hb hr (q_end hK hP hD hS) hS.2.2 dX12_clause_168
                · skip
                  have h := f_f c28 h
                  refine lv_aload_n hx hb dX12_clause_119 rfl (lv_at hl 4 rfl) ?_
                  refine lv_iconst (v := 1) hx hb dX12_clause_120 (by decide) ?_
                  refine lv_lload_n hx hb dX12_clause_121 rfl (lv_at hl 0 rfl) ?_
                  obtain ⟨q33, hq33, h⟩ := f_b h
                  refine cl_V (w := (mW G Z Y q26.2)) (w' := (mW G Z Y q33.2)) (rv := some (.int q33.1)) (bytes := cX12_condition) (maxL := 6) (ret := (some .boolean)) (C := RX12) (As := [.int (1 : Int32), .long q20.1]) (rest := []) (stk := [.int q33.1]) ⟨hx, hb, hml, hown, hts⟩ hK hE hA hP hD hS (c_X12_condition l D G Z Y q26.2 F (1 : Int32) q20.1 q33 hq33) (cwV 2 hts (gwV wd_1584 wd_1586 wp_66 wd_11 wd_1587) rfl rfl rfl hd_X12_condition ⟨Nat.le_of_ble_eq_true rfl, Nat.le_of_ble_eq_true rfl⟩) (mg_200 G Z Y q26.2) rfl rfl rfl hl.1 rfl (Nat.le_of_ble_eq_true rfl) dX12_clause_122 ⟨Nat.zero_le _, Nat.zero_le _⟩ rfl (fun H locs hP hD hS => ?_)
                  refine lv_istore_n (lv' := [(2, .int q33.1), (3, .long q20.1), (5, .int q9.1), (1, .int q1.1), (0, .ref (G.2.1 200))]) hx hb dX12_clause_125 rfl hl (by decide) rfl (fun ls hl => ?_)
                  refine lv_aload_n hx hb dX12_clause_126 rfl (lv_at hl 4 rfl) ?_
                  refine lv_bipush (v := 63) hx hb dX12_clause_127 (by decide) ?_
                  obtain ⟨q34, hq34, h⟩ := f_b h
                  refine cl_V (w := (mW G Z Y q33.2)) (w' := (mW G Z Y q34.2)) (rv := some (.int q34.1)) (bytes := cX12_takes) (maxL := 2) (ret := (some .boolean)) (C := RX12) (As := [.int (63 : Int32)]) (rest := []) (stk := [.int q34.1]) ⟨hx, hb, hml, hown, hts⟩ hK hE hA hP hD hS (c_X12_takes l D G Z Y q33.2 F (63 : Int32) q34 hq34) (cwV 1 hts (gwV wd_1485 wd_1487 wp_56 wd_11 wd_1488) rfl rfl rfl hd_X12_takes ⟨Nat.le_of_ble_eq_true rfl, Nat.le_of_ble_eq_true rfl⟩) (mg_200 G Z Y q33.2) rfl rfl rfl hl.1 rfl (Nat.le_of_ble_eq_true rfl) dX12_clause_129 ⟨Nat.zero_le _, Nat.zero_le _⟩ rfl (fun H locs hP hD hS => ?_)
                  refine lv_if_ne (tgt := 136) hx hb dX12_clause_132 (by decide) (fun c35 => ?_) (fun c35 => ?_)
                  · skip
                    have h := f_f c35 h
                    refine lv_aload_n hx hb dX12_clause_136 rfl (lv_at hl 4 rfl) ?_
                    obtain ⟨q36, hq36, h⟩ := f_b h
                    refine cl_V (w := (mW G Z Y q34.2)) (w' := (mW G Z Y q36.2)) (rv := some (.long q36.1)) (bytes := cX12_reckon) (maxL := 6) (ret := (some .long)) (C := RX12) (As := []) (rest := []) (stk := [.long q36.1]) ⟨hx, hb, hml, hown, hts⟩ hK hE hA hP hD hS (c_X12_reckon l D G Z Y q34.2 F q36 hq36) (cwV 0 hts (gwV wd_1596 wd_1598 wp_69 wd_11 wd_1599) rfl rfl rfl hd_X12_reckon ⟨Nat.le_of_ble_eq_true rfl, Nat.le_of_ble_eq_true rfl⟩) (mg_200 G Z Y q34.2) rfl rfl rfl hl.1 rfl (Nat.le_of_ble_eq_true rfl) dX12_clause_137 ⟨Nat.zero_le _, Nat.zero_le _⟩ rfl (fun H locs hP hD hS => ?_)
                    refine lv_lstore_n (lv' := [(3, .long q36.1), (2, .int q33.1), (5, .int q9.1), (1, .int q1.1), (0, .ref (G.2.1 200))]) hx hb dX12_clause_140 rfl hl (by decide) rfl (fun ls hl => ?_)
                    refine lv_aload_n hx hb dX12_clause_141 rfl (lv_at hl 4 rfl) ?_
                    refine va_get (D := D) (ci := 12) (v := .int (q36.2.1 200 7)) (C := RX12) (T := TX12) (N := 59) hx hb hts inU_X12 hown hK hP _ (mg_200 G Z Y q36.2) rfl 7 (by decide) (hts _ wd_1255) (fun _ h9 => h9) rfl dX12_clause_142 ?_
                    refine lv_iconst (v := (-1)) hx hb dX12_clause_145 (by decide) ?_
                    refine lv_icmp_ne (tgt := 168) hx hb dX12_clause_146 (by decide) (fun c37 => ?_) (fun c37 => ?_)
                    · skip
                      have h := f_f c37 h
                      obtain rfl := Option.some.inj h
                      exact W.vret hx hb hr (q_end hK hP hD hS) hS.2.2 dX12_clause_168
                    · skip
                      have h := f_t c37 h
                      refine lv_aload_n hx hb dX12_clause_149 rfl (lv_at hl 4 rfl) ?_
                      refine va_get (D := D) (ci := 12) (v := .int (q36.2.1 200 30)) (C := RX12) (T := TX12) (N := 59) hx hb hts inU_X12 hown hK hP _ (mg_200 G Z Y q36.2) rfl 30 (by decide) (hts _ wd_1278) (fun _ h9 => h9) rfl dX12_clause_150 ?_
                      refine lv_if_ne (tgt := 168) hx hb dX12_clause_153 (by decide) (fun c38 => ?_) (fun c38 => ?_)
                      · skip
                        have h := f_f c38 h
                        obtain rfl := Option.some.inj h
                        exact W.vret hx hb hr (q_end hK hP hD hS) hS.2.2 dX12_clause_168
                      · skip
                        have h := f_t c38 h
                        refine lv_iload_n hx hb dX12_clause_156 rfl (lv_at hl 3 rfl) ?_
                        refine lv_aload_n hx hb dX12_clause_157 rfl (lv_at hl 4 rfl) ?_
                        refine va_get (D := D) (ci := 12) (v := .int (q36.2.1 200 27)) (C := RX12) (T := TX12) (N := 59) hx hb hts inU_X12 hown hK hP _ (mg_200 G Z Y q36.2) rfl 27 (by decide) (hts _ wd_1275) (fun _ h9 => h9) rfl dX12_clause_158 ?_
                        refine lv_icmp_ne (tgt := 168) hx hb dX12_clause_161 (by decide) (fun c39 => ?_) (fun c39 => ?_)
                        · skip
                          have h := f_f c39 h
                          obtain rfl := Option.some.inj h
                          exact W.vret hx hb hr (q_end hK hP hD hS) hS.2.2 dX12_clause_168
                        · skip
                          have h := f_t c39 h
                          refine lv_iload_n hx hb dX12_clause_164 rfl (lv_at hl 1 rfl) ?_
                          refine lv_if_ne (tgt := 169) hx hb dX12_clause_165 (by decide) (fun c40 => ?_) (fun c40 => ?_)
                          · skip
                            have h := f_f c40 h
                            refine lv_aload_n hx hb dX12_clause_169 rfl (lv_at hl 4 rfl) ?_
                            refine lv_iconst (v := 1) hx hb dX12_clause_170 (by decide) ?_
                            refine va_put (D := D) (ci := 12) (v := .int (1 : Int32)) (ty := .boolean) (C := RX12) (T := TX12) (N := 59) hx hb hts inU_X12 tyX12 tyX12_ok nmX12 hown hK hP hD hS _ (mg_200 G Z Y q36.2) rfl 30 (by decide) (hts _ wd_1278) (fun _ h9 => h9) rfl (by decide +kernel) rfl rfl (Nat.le_of_ble_eq_true rfl) dX12_clause_171 (fun H locs hP hD hS => ?_)
                            have hP := wrP (mp_200_30 G Z Y q36.2 (1 : Int32)) hP
                            have hD := wrD (mp_200_30 G Z Y q36.2 (1 : Int32)) hD
                            refine lv_aload_n hx hb dX12_clause_174 rfl (lv_at hl 4 rfl) ?_
                            refine lv_lload_n hx hb dX12_clause_175 rfl (lv_at hl 0 rfl) ?_
                            refine va_put (D := D) (ci := 12) (v := .long q36.1) (ty := .long) (C := RX12) (T := TX12) (N := 59) hx hb hts inU_X12 tyX12 tyX12_ok nmX12 hown hK hP hD hS _ (mg_200 G Z Y (sI q36.2 200 30 (1 : Int32))) rfl 31 (by decide) (hts _ wd_1279) (fun _ h9 => h9) rfl (by decide +kernel) rfl rfl (Nat.le_of_ble_eq_true rfl) dX12_clause_176 (fun H locs hP hD hS => ?_)
                            have hP := wrP (mp_200_31 G Z Y (sI q36.2 200 30 (1 : Int32)) q36.1) hP
                            have hD := wrD (mp_200_31 G Z Y (sI q36.2 200 30 (1 : Int32)) q36.1) hD
                            obtain rfl := Option.some.inj h
                            exact W.vret hx hb hr (q_end hK hP hD hS) hS.2.2 dX12_clause_179
                          · skip
                            have h := f_t c40 h
                            obtain rfl := Option.some.inj h
                            exact W.vret hx hb hr (q_end hK hP hD hS) hS.2.2 dX12_clause_168
                  · skip
                    have h := f_t c35 h
                    obtain rfl := Option.some.inj h
                    exact W.vret hx hb hr (q_end hK hP hD hS) hS.2.2 dX12_clause_135
            · skip
              have h := f_t c19 h
              refine lv_aload_n hx hb dX12_clause_71 rfl (lv_at hl 4 rfl) ?_
              refine lv_iconst (v := 0) hx hb dX12_clause_72 (by decide) ?_
              refine lv_lconst (v := 0) hx hb dX12_clause_73 (by decide) ?_
              obtain ⟨q41, hq41, h⟩ := f_b h
              refine cl_V (w := (mW G Z Y q9.2)) (w' := (mW G Z Y q41.2)) (rv := some (.int q41.1)) (bytes := cX12_condition) (maxL := 6) (ret := (some .boolean)) (C := RX12) (As := [.int (0 : Int32), .long (0 : Int64)]) (rest := []) (stk := [.int q41.1]) ⟨hx, hb, hml, hown, hts⟩ hK hE hA hP hD hS (c_X12_condition l D G Z Y q9.2 F (0 : Int32) (0 : Int64) q41 hq41) (cwV 2 hts (gwV wd_1584 wd_1586 wp_66 wd_11 wd_1587) rfl rfl rfl hd_X12_condition ⟨Nat.le_of_ble_eq_true rfl, Nat.le_of_ble_eq_true rfl⟩) (mg_200 G Z Y q9.2) rfl rfl rfl hl.1 rfl (Nat.le_of_ble_eq_true rfl) dX12_clause_74 ⟨Nat.zero_le _, Nat.zero_le _⟩ rfl (fun H locs hP hD hS => ?_)
              refine lv_istore_n (lv' := [(2, .int q41.1), (5, .int q9.1), (3, .long (0 : Int64)), (1, .int q1.1), (0, .ref (G.2.1 200))]) hx hb dX12_clause_77 rfl hl (by decide) rfl (fun ls hl => ?_)
              refine lv_aload_n hx hb dX12_clause_78 rfl (lv_at hl 4 rfl) ?_
              refine lv_bipush (v := 63) hx hb dX12_clause_79 (by decide) ?_
              obtain ⟨q42, hq42, h⟩ := f_b h
              refine cl_V (w := (mW G Z Y q41.2)) (w' := (mW G Z Y q42.2)) (rv := some (.int q42.1)) (bytes := cX12_takes) (maxL := 2) (ret := (some .boolean)) (C := RX12) (As := [.int (63 : Int32)]) (rest := []) (stk := [.int q42.1]) ⟨hx, hb, hml, hown, hts⟩ hK hE hA hP hD hS (c_X12_takes l D G Z Y q41.2 F (63 : Int32) q42 hq42) (cwV 1 hts (gwV wd_1485 wd_1487 wp_56 wd_11 wd_1488) rfl rfl rfl hd_X12_takes ⟨Nat.le_of_ble_eq_true rfl, Nat.le_of_ble_eq_true rfl⟩) (mg_200 G Z Y q41.2) rfl rfl rfl hl.1 rfl (Nat.le_of_ble_eq_true rfl) dX12_clause_81 ⟨Nat.zero_le _, Nat.zero_le _⟩ rfl (fun H locs hP hD hS => ?_)
              refine lv_if_ne (tgt := 88) hx hb dX12_clause_84 (by decide) (fun c43 => ?_) (fun c43 => ?_)
              · skip
                have h := f_f c43 h
                refine lv_aload_n hx hb dX12_clause_88 rfl (lv_at hl 4 rfl) ?_
                obtain ⟨q44, hq44, h⟩ := f_b h
                refine cl_V (w := (mW G Z Y q42.2)) (w' := (mW G Z Y q44.2)) (rv := some (.long q44.1)) (bytes := cX12_reckon) (maxL := 6) (ret := (some .long)) (C := RX12) (As := []) (rest := []) (stk := [.long q44.1]) ⟨hx, hb, hml, hown, hts⟩ hK hE hA hP hD hS (c_X12_reckon l D G Z Y q42.2 F q44 hq44) (cwV 0 hts (gwV wd_1596 wd_1598 wp_69 wd_11 wd_1599) rfl rfl rfl hd_X12_reckon ⟨Nat.le_of_ble_eq_true rfl, Nat.le_of_ble_eq_true rfl⟩) (mg_200 G Z Y q42.2) rfl rfl rfl hl.1 rfl (Nat.le_of_ble_eq_true rfl) dX12_clause_89 ⟨Nat.zero_le _, Nat.zero_le _⟩ rfl (fun H locs hP hD hS => ?_)
                refine lv_lstore_n (lv' := [(3, .long q44.1), (2, .int q41.1), (5, .int q9.1), (1, .int q1.1), (0, .ref (G.2.1 200))]) hx hb dX12_clause_92 rfl hl (by decide) rfl (fun ls hl => ?_)
                refine lv_goto (tgt := 141) hx hb dX12_clause_93 (by decide) ?_
                refine lv_aload_n hx hb dX12_clause_141 rfl (lv_at hl 4 rfl) ?_
                refine va_get (D := D) (ci := 12) (v := .int (q44.2.1 200 7)) (C := RX12) (T := TX12) (N := 59) hx hb hts inU_X12 hown hK hP _ (mg_200 G Z Y q44.2) rfl 7 (by decide) (hts _ wd_1255) (fun _ h9 => h9) rfl dX12_clause_142 ?_
                refine lv_iconst (v := (-1)) hx hb dX12_clause_145 (by decide) ?_
                refine lv_icmp_ne (tgt := 168) hx hb dX12_clause_146 (by decide) (fun c45 => ?_) (fun c45 => ?_)
                · skip
                  have h := f_f c45 h
                  obtain rfl := Option.some.inj h
                  exact W.vret hx hb hr (q_end hK hP hD hS) hS.2.2 dX12_clause_168
                · skip
                  have h := f_t c45 h
                  refine lv_aload_n hx hb dX12_clause_149 rfl (lv_at hl 4 rfl) ?_
                  refine va_get (D := D) (ci := 12) (v := .int (q44.2.1 200 30)) (C := RX12) (T := TX12) (N := 59) hx hb hts inU_X12 hown hK hP _ (mg_200 G Z Y q44.2) rfl 30 (by decide) (hts _ wd_1278) (fun _ h9 => h9) rfl dX12_clause_150 ?_
                  refine lv_if_ne (tgt := 168) hx hb dX12_clause_153 (by decide) (fun c46 => ?_) (fun c46 => ?_)
                  · skip
                    have h := f_f c46 h
                    obtain rfl := Option.some.inj h
                    exact W.vret hx hb hr (q_end hK hP hD hS) hS.2.2 dX12_clause_168
                  · skip
                    have h := f_t c46 h
                    refine lv_iload_n hx hb dX12_clause_156 rfl (lv_at hl 3 rfl) ?_
                    refine lv_aload_n hx hb dX12_clause_157 rfl (lv_at hl 4 rfl) ?_
                    refine va_get (D := D) (ci := 12) (v := .int (q44.2.1 200 27)) (C := RX12) (T := TX12) (N := 59) hx hb hts inU_X12 hown hK hP _ (mg_200 G Z Y q44.2) rfl 27 (by decide) (hts _ wd_1275) (fun _ h9 => h9) rfl dX12_clause_158 ?_
                    refine lv_icmp_ne (tgt := 168) hx hb dX12_clause_161 (by decide) (fun c47 => ?_) (fun c47 => ?_)
                    · skip
                      have h := f_f c47 h
                      obtain rfl := Option.some.inj h
                      exact W.vret hx hb hr (q_end hK hP hD hS) hS.2.2 dX12_clause_168
                    · skip
                      have h := f_t c47 h
                      refine lv_iload_n hx hb dX12_clause_164 rfl (lv_at hl 1 rfl) ?_
                      refine lv_if_ne (tgt := 169) hx hb dX12_clause_165 (by decide) (fun c48 => ?_) (fun c48 => ?_)
                      · skip
                        have h := f_f c48 h
                        refine lv_aload_n hx hb dX12_clause_169 rfl (lv_at hl 4 rfl) ?_
                        refine lv_iconst (v := 1) hx hb dX12_clause_170 (by decide) ?_
                        refine va_put (D := D) (ci := 12) (v := .int (1 : Int32)) (ty := .boolean) (C := RX12) (T := TX12) (N := 59) hx hb hts inU_X12 tyX12 tyX12_ok nmX12 hown hK hP hD hS _ (mg_200 G Z Y q44.2) rfl 30 (by decide) (hts _ wd_1278) (fun _ h9 => h9) rfl (by decide +kernel) rfl rfl (Nat.le_of_ble_eq_true rfl) dX12_clause_171 (fun H locs hP hD hS => ?_)
                        have hP := wrP (mp_200_30 G Z Y q44.2 (1 : Int32)) hP
                        have hD := wrD (mp_200_30 G Z Y q44.2 (1 : Int32)) hD
                        refine lv_aload_n hx hb dX12_clause_174 rfl (lv_at hl 4 rfl) ?_
                        refine lv_lload_n hx hb dX12_clause_175 rfl (lv_at hl 0 rfl) ?_
                        refine va_put (D := D) (ci := 12) (v := .long q44.1) (ty := .long) (C := RX12) (T := TX12) (N := 59) hx hb hts inU_X12 tyX12 tyX12_ok nmX12 hown hK hP hD hS _ (mg_200 G Z Y (sI q44.2 200 30 (1 : Int32))) rfl 31 (by decide) (hts _ wd_1279) (fun _ h9 => h9) rfl (by decide +kernel) rfl rfl (Nat.le_of_ble_eq_true rfl) dX12_clause_176 (fun H locs hP hD hS => ?_)
                        have hP := wrP (mp_200_31 G Z Y (sI q44.2 200 30 (1 : Int32)) q44.1) hP
                        have hD := wrD (mp_200_31 G Z Y (sI q44.2 200 30 (1 : Int32)) q44.1) hD
                        obtain rfl := Option.some.inj h
                        exact W.vret hx hb hr (q_end hK hP hD hS) hS.2.2 dX12_clause_179
                      · skip
                        have h := f_t c48 h
                        obtain rfl := Option.some.inj h
                        exact W.vret hx hb hr (q_end hK hP hD hS) hS.2.2 dX12_clause_168
              · skip
                have h := f_t c43 h
                obtain rfl := Option.some.inj h
                exact W.vret hx hb hr (q_end hK hP hD hS) hS.2.2 dX12_clause_87
        · skip
          have h := f_t c8 h
          obtain rfl := Option.some.inj h
          exact W.vret hx hb hr (q_end hK hP hD hS) hS.2.2 dX12_clause_46
      · skip
        have h := f_f c6 h
        refine lv_aload_n hx hb dX12_clause_21 rfl (lv_at hl 1 rfl) ?_
        obtain ⟨q49, hq49, h⟩ := f_b h
        refine cl_V (w := (mW G Z Y q1.2)) (w' := (mW G Z Y q49.2)) (rv := some (.int q49.1)) (bytes := cX12_fails) (maxL := 1) (ret := (some .boolean)) (C := RX12) (As := []) (rest := []) (stk := [.int q49.1]) ⟨hx, hb, hml, hown, hts⟩ hK hE hA hP hD hS (c_X12_fails l D G Z Y q1.2 q49 hq49) (cwV 0 hts (gwV wd_1477 wd_1479 wp_54 wd_11 wd_1480) rfl rfl rfl hd_X12_fails ⟨Nat.le_of_ble_eq_true rfl, Nat.le_of_ble_eq_true rfl⟩) (mg_200 G Z Y q1.2) rfl rfl rfl hl.1 rfl (Nat.le_of_ble_eq_true rfl) dX12_clause_22 ⟨Nat.zero_le _, Nat.zero_le _⟩ rfl (fun H locs hP hD hS => ?_)
        refine lv_pop hx hb dX12_clause_25 rfl ?_
        obtain rfl := Option.some.inj h
        exact W.vret hx hb hr (q_end hK hP hD hS) hS.2.2 dX12_clause_26
abbrev rm_X12_goThrough : Room := { frames := 72, cells := 0, slots := 0, locals := 1792 }
set_option maxRecDepth 100000 in
set_option maxHeartbeats 8000000 in
theorem W_X12_goThrough_L63 {p : Program} {e : Env} {s : State} {m : MethodId} {args : Array Value} {below : List Frame} {meth : Method} {c : Code} {A : Nat → Prop} (l : Launch) (D : va_G) (G : hG) (Z : hZ) (Y : va_W) (σ0 : hSt) (F : Nat) (r1 : Nat) (hr1 : isBy r1 = true) (x2 : Int32) (x3 : Int32) (x4 : Int32) (x5 : Int32) (res : (Unit × hSt)) (C0 : Cx p s m args meth c cX12_goThrough none RX12 6 D G A) (hA : ∀ q : Nat, s.heap.size ≤ q → A q) (k97 : hSt → Option (Unit × hSt)) (hk97 : ∀ (σ1 : hSt), k97 σ1 = some res → ∀ (H : Heap) (locs : List Loc) (ls : Array Slot), va_P D vwCl (mW G Z Y σ1) H → va_D A (mW G Z Y σ1) → va_S A s.heap H locs → lv_has ls 6 [(0, .ref (G.2.1 200))] → W p l e rm_X12_goThrough s m args below meth c H locs 0 0 (MQ below (Qg none D (tysG G) (mW G Z Y res.2) A) args s 0 0 A) (F0 m 97 ls [])) : ∀ (n : Nat) (σ1 : hSt), f_X12_goThrough_L63 F Z k97 n σ1 = some res → ∀ (H : Heap) (locs : List Loc) (ls : Array Slot), va_P D vwCl (mW G Z Y σ1) H → va_D A (mW G Z Y σ1) → va_S A s.heap H locs → lv_has ls 6 [(0, .ref (G.2.1 200))] → W p l e rm_X12_goThrough s m args below meth c H locs 0 0 (MQ below (Qg none D (tysG G) (mW G Z Y res.2) A) args s 0 0 A) (F0 m 63 ls []) := by
  obtain ⟨hx, hb, hr, hml, hown, hts, hlocks, hK, hE⟩ := id C0
  intro n
  induction n with
  | zero =>
    intro σ1 h
    cases h
  | succ n ih =>
    intro σ1 h H locs ls hP hD hS hl
    rw [f_X12_goThrough_L63] at h
    refine lv_aload_n hx hb dX12_goThrough_63 rfl (lv_at hl 0 rfl) ?_
    refine va_get (D := D) (ci := 12) (v := .int (σ1.1 200 7)) (C := RX12) (T := TX12) (N := 59) hx hb hts inU_X12 hown hK hP _ (mg_200 G Z Y σ1) rfl 7 (by decide) (hts _ wd_1255) (fun _ h9 => h9) rfl dX12_goThrough_64 ?_
    refine lv_iconst (v := (-1)) hx hb dX12_goThrough_67 (by decide) ?_
    refine lv_icmp_ne (tgt := 97) hx hb dX12_goThrough_68 (by decide) (fun c5 => ?_) (fun c5 => ?_)
    · skip
      have h := f_f c5 h
      exact hk97 σ1 h _ _ _ hP hD hS hl
    · skip
      have h := f_t c5 h
      refine lv_aload_n hx hb dX12_goThrough_71 rfl (lv_at hl 0 rfl) ?_
      obtain ⟨q6, hq6, h⟩ := f_b h
      refine cl_V (w := (mW G Z Y σ1)) (w' := (mW G Z Y q6.2)) (rv := some (.int q6.1)) (bytes := cX12_look) (maxL := 1) (ret := (some .int)) (C := RX12) (As := []) (rest := []) (stk := [.int q6.1]) ⟨hx, hb, hml, hown, hts⟩ hK hE hA hP hD hS (c_X12_look l D G Z Y σ1 F q6 hq6) (cwV 0 hts (gwV wd_1468 wd_1470 wp_52 wd_11 wd_1471) rfl rfl rfl hd_X12_look ⟨Nat.le_of_ble_eq_true rfl, Nat.le_of_ble_eq_true rfl⟩) (mg_200 G Z Y σ1) rfl rfl rfl hl.1 rfl (Nat.le_of_ble_eq_true rfl) dX12_goThrough_72 ⟨Nat.zero_le _, Nat.zero_le _⟩ rfl (fun H locs hP hD hS => ?_)
      refine lv_bipush (v := 59) hx hb dX12_goThrough_75 (by decide) ?_
      refine lv_icmp_ne (tgt := 97) hx hb dX12_goThrough_77 (by decide) (fun c7 => ?_) (fun c7 => ?_)
      · skip
        have h := f_f c7 h
        exact hk97 q6.2 h _ _ _ hP hD hS hl
      · skip
        have h := f_t c7 h
        refine lv_aload_n hx hb dX12_goThrough_80 rfl (lv_at hl 0 rfl) ?_
        refine lv_dup hx hb dX12_goThrough_81 rfl ?_
        refine va_get (D := D) (ci := 12) (v := .int (q6.2.1 200 6)) (C := RX12) (T := TX12) (N := 59) hx hb hts inU_X12 hown hK hP _ (mg_200 G Z Y q6.2) rfl 6 (by decide) (hts _ wd_1254) (fun _ h9 => h9) rfl dX12_goThrough_82 ?_
        refine lv_iconst (v := 1) hx hb dX12_goThrough_85 (by decide) ?_
        refine lv_iadd hx hb dX12_goThrough_86 ?_
        refine va_put (D := D) (ci := 12) (v := .int ((q6.2.1 200 6) + (1 : Int32))) (ty := .int) (C := RX12) (T := TX12) (N := 59) hx hb hts inU_X12 tyX12 tyX12_ok nmX12 hown hK hP hD hS _ (mg_200 G Z Y q6.2) rfl 6 (by decide) (hts _ wd_1254) (fun _ h9 => h9) rfl (by decide +kernel) rfl rfl (Nat.le_of_ble_eq_true rfl) dX12_goThrough_87 (fun H locs hP hD hS => ?_)
        have hP := wrP (mp_200_6 G Z Y q6.2 ((q6.2.1 200 6) + (1 : Int32))) hP
        have hD := wrD (mp_200_6 G Z Y q6.2 ((q6.2.1 200 6) + (1 : Int32))) hD
        refine lv_aload_n hx hb dX12_goThrough_90 rfl (lv_at hl 0 rfl) ?_
        obtain ⟨q8, hq8, h⟩ := f_b h
        refine cl_V (w := (mW G Z Y (sI q6.2 200 6 ((q6.2.1 200 6) + (1 : Int32))))) (w' := (mW G Z Y q8.2)) (rv := none) (bytes := cX12_clause) (maxL := 6) (ret := none) (C := RX12) (As := []) (rest := []) (stk := []) ⟨hx, hb, hml, hown, hts⟩ hK hE hA hP hD hS (c_X12_clause l D G Z Y (sI q6.2 200 6 ((q6.2.1 200 6) + (1 : Int32))) F q8 hq8) (cwV 0 hts (gwV wd_1579 wd_1581 wp_65 wd_11 wd_1582) rfl rfl rfl hd_X12_clause ⟨Nat.le_of_ble_eq_true rfl, Nat.le_of_ble_eq_true rfl⟩) (mg_200 G Z Y (sI q6.2 200 6 ((q6.2.1 200 6) + (1 : Int32)))) rfl rfl rfl hl.1 rfl (Nat.le_of_ble_eq_true rfl) dX12_goThrough_91 ⟨Nat.zero_le _, Nat.zero_le _⟩ rfl (fun H locs hP hD hS => ?_)
        refine lv_goto (tgt := 63) hx hb dX12_goThrough_94 (by decide) ?_
        exact ih q8.2 h _ _ _ hP hD hS hl
set_option maxRecDepth 100000 in
set_option maxHeartbeats 8000000 in
theorem c_X12_goThrough (l : Launch) (D : va_G) (G : hG) (Z : hZ) (Y : va_W) (σ0 : hSt) (F : Nat) (r1 : Nat) (hr1 : isBy r1 = true) (x2 : Int32) (x3 : Int32) (x4 : Int32) (x5 : Int32) (res : (Unit × hSt)) (h : f_X12_goThrough F Z σ0 r1 x2 x3 x4 x5 = some res) : CT l yX12_goThrough cX12_goThrough 6 none rm_X12_goThrough D G 0 0 [.ref (G.2.1 200), .ref (G.2.1 r1), .int x2, .int x3, .int x4, .int x5] (mW G Z Y σ0) (mW G Z Y res.2) none := by
  unfold f_X12_goThrough at h
  refine CT.mk (cc := cX12_goThrough) (maxL := 6) (ret := none) (own := RX12) (plainFor_of_name (by decide)) rfl (Nat.le_of_ble_eq_true rfl) ?_
  intro p e s m args below meth c A ls C0 hnm hA hP hD hl
  obtain ⟨hx, hb, hr, hml, hown, hts, hlocks, hK, hE⟩ := id C0
  have hS : va_S A s.heap s.heap [] := va_S.rf
  have hl : lv_has ls 6 [(0, .ref (G.2.1 200)), (1, .ref (G.2.1 r1)), (2, .int x2), (3, .int x3), (4, .int x4), (5, .int x5)] := hl
  refine lv_aload_n hx hb dX12_goThrough_0 rfl (lv_at hl 0 rfl) ?_
  refine lv_aload_n hx hb dX12_goThrough_1 rfl (lv_at hl 1 rfl) ?_
  refine lv_iload_n hx hb dX12_goThrough_2 rfl (lv_at hl 2 rfl) ?_
  refine lv_iload_n hx hb dX12_goThrough_3 rfl (lv_at hl 3 rfl) ?_
  refine lv_bipush (v := 6) hx hb dX12_goThrough_4 (by decide) ?_
  obtain ⟨q1, hq1, h⟩ := f_b h
  refine cl_V (w := (mW G Z Y σ0)) (w' := (mW G Z Y q1.2)) (rv := none) (bytes := cX12_begin) (maxL := 5) (ret := none) (C := RX12) (As := [.ref (G.2.1 r1), .int x2, .int x3, .int (6 : Int32)]) (rest := []) (stk := []) ⟨hx, hb, hml, hown, hts⟩ hK hE hA hP hD hS (c_X12_begin l D G Z Y σ0 r1 hr1 x2 x3 (6 : Int32) q1 hq1) (cwV 4 hts (gwV wd_1452 wd_1454 wp_48 wd_11 wd_1455) rfl rfl rfl hd_X12_begin ⟨Nat.le_of_ble_eq_true rfl, Nat.le_of_ble_eq_true rfl⟩) (mg_200 G Z Y σ0) rfl rfl rfl hl.1 rfl (Nat.le_of_ble_eq_true rfl) dX12_goThrough_6 ⟨Nat.zero_le _, Nat.zero_le _⟩ rfl (fun H locs hP hD hS => ?_)
  refine lv_aload_n hx hb dX12_goThrough_9 rfl (lv_at hl 0 rfl) ?_
  refine lv_iload hx hb dX12_goThrough_10 (lv_at hl 4 rfl) ?_
  refine lv_if_eq (tgt := 21) hx hb dX12_goThrough_12 (by decide) (fun c2 => ?_) (fun c2 => ?_)
  · skip
    have h := f_t c2 h
    refine va_ldcS hx hb hown (strL_use 5 hE rfl) dX12_goThrough_21 ?_
    refine va_put (D := D) (ci := 12) (v := .ref (G.2.2 0)) (ty := (.object "java/lang/String")) (C := RX12) (T := TX12) (N := 59) hx hb hts inU_X12 tyX12 tyX12_ok nmX12 hown hK hP hD hS _ (mg_200 G Z Y q1.2) rfl 28 (by decide) (hts _ wd_1276) (fun _ h9 => h9) rfl (by decide +kernel) rfl rfl (Nat.le_of_ble_eq_true rfl) dX12_goThrough_23 (fun H locs hP hD hS => ?_)
    have hP := wrP (mp_200_28 G Z Y q1.2 (some 0)) hP
    have hD := wrD (mp_200_28 G Z Y q1.2 (some 0)) hD
    refine lv_aload_n hx hb dX12_goThrough_26 rfl (lv_at hl 0 rfl) ?_
    refine lv_iload hx hb dX12_goThrough_27 (lv_at hl 4 rfl) ?_
    refine lv_if_eq (tgt := 38) hx hb dX12_goThrough_29 (by decide) (fun c3 => ?_) (fun c3 => ?_)
    · skip
      have h := f_t c3 h
      refine va_ldcS hx hb hown (strL_use 6 hE rfl) dX12_goThrough_38 ?_
      refine va_put (D := D) (ci := 12) (v := .ref (G.2.2 1)) (ty := (.object "java/lang/String")) (C := RX12) (T := TX12) (N := 59) hx hb hts inU_X12 tyX12 tyX12_ok nmX12 hown hK hP hD hS _ (mg_200 G Z Y (sR q1.2 200 28 (some 0))) rfl 29 (by decide) (hts _ wd_1277) (fun _ h9 => h9) rfl (by decide +kernel) rfl rfl (Nat.le_of_ble_eq_true rfl) dX12_goThrough_40 (fun H locs hP hD hS => ?_)
      have hP := wrP (mp_200_29 G Z Y (sR q1.2 200 28 (some 0)) (some 1)) hP
      have hD := wrD (mp_200_29 G Z Y (sR q1.2 200 28 (some 0)) (some 1)) hD
      refine lv_aload_n hx hb dX12_goThrough_43 rfl (lv_at hl 0 rfl) ?_
      refine lv_iload hx hb dX12_goThrough_44 (lv_at hl 5 rfl) ?_
      refine va_put (D := D) (ci := 12) (v := .int x5) (ty := .int) (C := RX12) (T := TX12) (N := 59) hx hb hts inU_X12 tyX12 tyX12_ok nmX12 hown hK hP hD hS _ (mg_200 G Z Y (sR (sR q1.2 200 28 (some 0)) 200 29 (some 1))) rfl 27 (by decide) (hts _ wd_1275) (fun _ h9 => h9) rfl (by decide +kernel) rfl rfl (Nat.le_of_ble_eq_true rfl) dX12_goThrough_46 (fun H locs hP hD hS => ?_)
      have hP := wrP (mp_200_27 G Z Y (sR (sR q1.2 200 28 (some 0)) 200 29 (some 1)) x5) hP
      have hD := wrD (mp_200_27 G Z Y (sR (sR q1.2 200 28 (some 0)) 200 29 (some 1)) x5) hD
      refine lv_aload_n hx hb dX12_goThrough_49 rfl (lv_at hl 0 rfl) ?_
      refine lv_iconst (v := 0) hx hb dX12_goThrough_50 (by decide) ?_
      refine va_put (D := D) (ci := 12) (v := .int (0 : Int32)) (ty := .boolean) (C := RX12) (T := TX12) (N := 59) hx hb hts inU_X12 tyX12 tyX12_ok nmX12 hown hK hP hD hS _ (mg_200 G Z Y (sI (sR (sR q1.2 200 28 (some 0)) 200 29 (some 1)) 200 27 x5)) rfl 30 (by decide) (hts _ wd_1278) (fun _ h9 => h9) rfl (by decide +kernel) rfl rfl (Nat.le_of_ble_eq_true rfl) dX12_goThrough_51 (fun H locs hP hD hS => ?_)
      have hP := wrP (mp_200_30 G Z Y (sI (sR (sR q1.2 200 28 (some 0)) 200 29 (some 1)) 200 27 x5) (0 : Int32)) hP
      have hD := wrD (mp_200_30 G Z Y (sI (sR (sR q1.2 200 28 (some 0)) 200 29 (some 1)) 200 27 x5) (0 : Int32)) hD
      refine lv_aload_n hx hb dX12_goThrough_54 rfl (lv_at hl 0 rfl) ?_
      refine lv_lconst (v := 0) hx hb dX12_goThrough_55 (by decide) ?_
      refine va_put (D := D) (ci := 12) (v := .long (0 : Int64)) (ty := .long) (C := RX12) (T := TX12) (N := 59) hx hb hts inU_X12 tyX12 tyX12_ok nmX12 hown hK hP hD hS _ (mg_200 G Z Y (sI (sI (sR (sR q1.2 200 28 (some 0)) 200 29 (some 1)) 200 27 x5) 200 30 (0 : Int32))) rfl 31 (by decide) (hts _ wd_1279) (fun _ h9 => h9) rfl (by decide +kernel) rfl rfl (Nat.le_of_ble_eq_true rfl) dX12_goThrough_56 (fun H locs hP hD hS => ?_)
      have hP := wrP (mp_200_31 G Z Y (sI (sI (sR (sR q1.2 200 28 (some 0)) 200 29 (some 1)) 200 27 x5) 200 30 (0 : Int32)) (0 : Int64)) hP
      have hD := wrD (mp_200_31 G Z Y (sI (sI (sR (sR q1.2 200 28 (some 0)) 200 29 (some 1)) 200 27 x5) 200 30 (0 : Int32)) (0 : Int64)) hD
      refine lv_aload_n hx hb dX12_goThrough_59 rfl (lv_at hl 0 rfl) ?_
      obtain ⟨q4, hq4, h⟩ := f_b h
      refine cl_V (w := (mW G Z Y (sJ (sI (sI (sR (sR q1.2 200 28 (some 0)) 200 29 (some 1)) 200 27 x5) 200 30 (0 : Int32)) 200 31 (0 : Int64)))) (w' := (mW G Z Y q4.2)) (rv := none) (bytes := cX12_clause) (maxL := 6) (ret := none) (C := RX12) (As := []) (rest := []) (stk := []) ⟨hx, hb, hml, hown, hts⟩ hK hE hA hP hD hS (c_X12_clause l D G Z Y (sJ (sI (sI (sR (sR q1.2 200 28 (some 0)) 200 29 (some 1)) 200 27 x5) 200 30 (0 : Int32)) 200 31 (0 : Int64)) F q4 hq4) (cwV 0 hts (gwV wd_1579 wd_1581 wp_65 wd_11 wd_1582) rfl rfl rfl hd_X12_clause ⟨Nat.le_of_ble_eq_true rfl, Nat.le_of_ble_eq_true rfl⟩) (mg_200 G Z Y (sJ (sI (sI (sR (sR q1.2 200 28 (some 0)) 200 29 (some 1)) 200 27 x5) 200 30 (0 : Int32)) 200 31 (0 : Int64))) rfl rfl rfl hl.1 rfl (Nat.le_of_ble_eq_true rfl) dX12_goThrough_60 ⟨Nat.zero_le _, Nat.zero_le _⟩ rfl (fun H locs hP hD hS => ?_)
      refine W_X12_goThrough_L63 l D G Z Y σ0 F r1 hr1 x2 x3 x4 x5 res C0 hA _ ?_ F q4.2 h _ _ _ hP hD hS (lv_sub hl [0] rfl)
      · intro σ1 h H locs ls hP hD hS hl
        refine lv_aload_n hx hb dX12_goThrough_97 rfl (lv_at hl 0 rfl) ?_
        refine va_get (D := D) (ci := 12) (v := .int (σ1.1 200 7)) (C := RX12) (T := TX12) (N := 59) hx hb hts inU_X12 hown hK hP _ (mg_200 G Z Y σ1) rfl 7 (by decide) (hts _ wd_1255) (fun _ h9 => h9) rfl dX12_goThrough_98 ?_
        refine lv_iconst (v := (-1)) hx hb dX12_goThrough_101 (by decide) ?_
        refine lv_icmp_ne (tgt := 118) hx hb dX12_goThrough_102 (by decide) (fun c9 => ?_) (fun c9 => ?_)
        · skip
          have h := f_f c9 h
          obtain rfl := Option.some.inj h
          exact W.vret hx hb hr (q_end hK hP hD hS) hS.2.2 dX12_goThrough_118
        · skip
          have h := f_t c9 h
          refine lv_aload_n hx hb dX12_goThrough_105 rfl (lv_at hl 0 rfl) ?_
          obtain ⟨q10, hq10, h⟩ := f_b h
          refine cl_V (w := (mW G Z Y σ1)) (w' := (mW G Z Y q10.2)) (rv := some (.int q10.1)) (bytes := cX12_look) (maxL := 1) (ret := (some .int)) (C := RX12) (As := []) (rest := []) (stk := [.int q10.1]) ⟨hx, hb, hml, hown, hts⟩ hK hE hA hP hD hS (c_X12_look l D G Z Y σ1 F q10 hq10) (cwV 0 hts (gwV wd_1468 wd_1470 wp_52 wd_11 wd_1471) rfl rfl rfl hd_X12_look ⟨Nat.le_of_ble_eq_true rfl, Nat.le_of_ble_eq_true rfl⟩) (mg_200 G Z Y σ1) rfl rfl rfl hl.1 rfl (Nat.le_of_ble_eq_true rfl) dX12_goThrough_106 ⟨Nat.zero_le _, Nat.zero_le _⟩ rfl (fun H locs hP hD hS => ?_)
          refine lv_iconst (v := (-1)) hx hb dX12_goThrough_109 (by decide) ?_
          refine lv_icmp_eq (tgt := 118) hx hb dX12_goThrough_110 (by decide) (fun c11 => ?_) (fun c11 => ?_)
          · skip
            have h := f_t c11 h
            obtain rfl := Option.some.inj h
            exact W.vret hx hb hr (q_end hK hP hD hS) hS.2.2 dX12_goThrough_118
          · skip
            have h := f_f c11 h
            refine lv_aload_n hx hb dX12_goThrough_113 rfl (lv_at hl 0 rfl) ?_
            obtain ⟨q12, hq12, h⟩ := f_b h
            refine cl_V (w := (mW G Z Y q10.2)) (w' := (mW G Z Y q12.2)) (rv := some (.int q12.1)) (bytes := cX12_fails) (maxL := 1) (ret := (some .boolean)) (C := RX12) (As := []) (rest := []) (stk := [.int q12.1]) ⟨hx, hb, hml, hown, hts⟩ hK hE hA hP hD hS (c_X12_fails l D G Z Y q10.2 q12 hq12) (cwV 0 hts (gwV wd_1477 wd_1479 wp_54 wd_11 wd_1480) rfl rfl rfl hd_X12_fails ⟨Nat.le_of_ble_eq_true rfl, Nat.le_of_ble_eq_true rfl⟩) (mg_200 G Z Y q10.2) rfl rfl rfl hl.1 rfl (Nat.le_of_ble_eq_true rfl) dX12_goThrough_114 ⟨Nat.zero_le _, Nat.zero_le _⟩ rfl (fun H locs hP hD hS => ?_)
            refine lv_pop hx hb dX12_goThrough_117 rfl ?_
            obtain rfl := Option.some.inj h
            exact W.vret hx hb hr (q_end hK hP hD hS) hS.2.2 dX12_goThrough_118
    · skip
      have h := f_f c3 h
      refine va_ldcSW hx hb hown (strL_use 8 hE rfl) dX12_goThrough_32 ?_
      refine lv_goto (tgt := 40) hx hb dX12_goThrough_35 (by decide) ?_
      refine va_put (D := D) (ci := 12) (v := .ref (G.2.2 3)) (ty := (.object "java/lang/String")) (C := RX12) (T := TX12) (N := 59) hx hb hts inU_X12 tyX12 tyX12_ok nmX12 hown hK hP hD hS _ (mg_200 G Z Y (sR q1.2 200 28 (some 0))) rfl 29 (by decide) (hts _ wd_1277) (fun _ h9 => h9) rfl (by decide +kernel) rfl rfl (Nat.le_of_ble_eq_true rfl) dX12_goThrough_40 (fun H locs hP hD hS => ?_)
      have hP := wrP (mp_200_29 G Z Y (sR q1.2 200 28 (some 0)) (some 3)) hP
      have hD := wrD (mp_200_29 G Z Y (sR q1.2 200 28 (some 0)) (some 3)) hD
      refine lv_aload_n hx hb dX12_goThrough_43 rfl (lv_at hl 0 rfl) ?_
      refine lv_iload hx hb dX12_goThrough_44 (lv_at hl 5 rfl) ?_
      refine va_put (D := D) (ci := 12) (v := .int x5) (ty := .int) (C := RX12) (T := TX12) (N := 59) hx hb hts inU_X12 tyX12 tyX12_ok nmX12 hown hK hP hD hS _ (mg_200 G Z Y (sR (sR q1.2 200 28 (some 0)) 200 29 (some 3))) rfl 27 (by decide) (hts _ wd_1275) (fun _ h9 => h9) rfl (by decide +kernel) rfl rfl (Nat.le_of_ble_eq_true rfl) dX12_goThrough_46 (fun H locs hP hD hS => ?_)
      have hP := wrP (mp_200_27 G Z Y (sR (sR q1.2 200 28 (some 0)) 200 29 (some 3)) x5) hP
      have hD := wrD (mp_200_27 G Z Y (sR (sR q1.2 200 28 (some 0)) 200 29 (some 3)) x5) hD
      refine lv_aload_n hx hb dX12_goThrough_49 rfl (lv_at hl 0 rfl) ?_
      refine lv_iconst (v := 0) hx hb dX12_goThrough_50 (by decide) ?_
      refine va_put (D := D) (ci := 12) (v := .int (0 : Int32)) (ty := .boolean) (C := RX12) (T := TX12) (N := 59) hx hb hts inU_X12 tyX12 tyX12_ok nmX12 hown hK hP hD hS _ (mg_200 G Z Y (sI (sR (sR q1.2 200 28 (some 0)) 200 29 (some 3)) 200 27 x5)) rfl 30 (by decide) (hts _ wd_1278) (fun _ h9 => h9) rfl (by decide +kernel) rfl rfl (Nat.le_of_ble_eq_true rfl) dX12_goThrough_51 (fun H locs hP hD hS => ?_)
      have hP := wrP (mp_200_30 G Z Y (sI (sR (sR q1.2 200 28 (some 0)) 200 29 (some 3)) 200 27 x5) (0 : Int32)) hP
      have hD := wrD (mp_200_30 G Z Y (sI (sR (sR q1.2 200 28 (some 0)) 200 29 (some 3)) 200 27 x5) (0 : Int32)) hD
      refine lv_aload_n hx hb dX12_goThrough_54 rfl (lv_at hl 0 rfl) ?_
      refine lv_lconst (v := 0) hx hb dX12_goThrough_55 (by decide) ?_
      refine va_put (D := D) (ci := 12) (v := .long (0 : Int64)) (ty := .long) (C := RX12) (T := TX12) (N := 59) hx hb hts inU_X12 tyX12 tyX12_ok nmX12 hown hK hP hD hS _ (mg_200 G Z Y (sI (sI (sR (sR q1.2 200 28 (some 0)) 200 29 (some 3)) 200 27 x5) 200 30 (0 : Int32))) rfl 31 (by decide) (hts _ wd_1279) (fun _ h9 => h9) rfl (by decide +kernel) rfl rfl (Nat.le_of_ble_eq_true rfl) dX12_goThrough_56 (fun H locs hP hD hS => ?_)
      have hP := wrP (mp_200_31 G Z Y (sI (sI (sR (sR q1.2 200 28 (some 0)) 200 29 (some 3)) 200 27 x5) 200 30 (0 : Int32)) (0 : Int64)) hP
      have hD := wrD (mp_200_31 G Z Y (sI (sI (sR (sR q1.2 200 28 (some 0)) 200 29 (some 3)) 200 27 x5) 200 30 (0 : Int32)) (0 : Int64)) hD
      refine lv_aload_n hx hb dX12_goThrough_59 rfl (lv_at hl 0 rfl) ?_
      obtain ⟨q13, hq13, h⟩ := f_b h
      refine cl_V (w := (mW G Z Y (sJ (sI (sI (sR (sR q1.2 200 28 (some 0)) 200 29 (some 3)) 200 27 x5) 200 30 (0 : Int32)) 200 31 (0 : Int64)))) (w' := (mW G Z Y q13.2)) (rv := none) (bytes := cX12_clause) (maxL := 6) (ret := none) (C := RX12) (As := []) (rest := []) (stk := []) ⟨hx, hb, hml, hown, hts⟩ hK hE hA hP hD hS (c_X12_clause l D G Z Y (sJ (sI (sI (sR (sR q1.2 200 28 (some 0)) 200 29 (some 3)) 200 27 x5) 200 30 (0 : Int32)) 200 31 (0 : Int64)) F q13 hq13) (cwV 0 hts (gwV wd_1579 wd_1581 wp_65 wd_11 wd_1582) rfl rfl rfl hd_X12_clause ⟨Nat.le_of_ble_eq_true rfl, Nat.le_of_ble_eq_true rfl⟩) (mg_200 G Z Y (sJ (sI (sI (sR (sR q1.2 200 28 (some 0)) 200 29 (some 3)) 200 27 x5) 200 30 (0 : Int32)) 200 31 (0 : Int64))) rfl rfl rfl hl.1 rfl (Nat.le_of_ble_eq_true rfl) dX12_goThrough_60 ⟨Nat.zero_le _, Nat.zero_le _⟩ rfl (fun H locs hP hD hS => ?_)
      refine W_X12_goThrough_L63 l D G Z Y σ0 F r1 hr1 x2 x3 x4 x5 res C0 hA _ ?_ F q13.2 h _ _ _ hP hD hS (lv_sub hl [0] rfl)
      · intro σ1 h H locs ls hP hD hS hl
        refine lv_aload_n hx hb dX12_goThrough_97 rfl (lv_at hl 0 rfl) ?_
        refine va_get (D := D) (ci := 12) (v := .int (σ1.1 200 7)) (C := RX12) (T := TX12) (N := 59) hx hb hts inU_X12 hown hK hP _ (mg_200 G Z Y σ1) rfl 7 (by decide) (hts _ wd_1255) (fun _ h9 => h9) rfl dX12_goThrough_98 ?_
        refine lv_iconst (v := (-1)) hx hb dX12_goThrough_101 (by decide) ?_
        refine lv_icmp_ne (tgt := 118) hx hb dX12_goThrough_102 (by decide) (fun c14 => ?_) (fun c14 => ?_)
        · skip
          have h := f_f c14 h
          obtain rfl := Option.some.inj h
          exact W.vret hx hb hr (q_end hK hP hD hS) hS.2.2 dX12_goThrough_118
        · skip
          have h := f_t c14 h
          refine lv_aload_n hx hb dX12_goThrough_105 rfl (lv_at hl 0 rfl) ?_
          obtain ⟨q15, hq15, h⟩ := f_b h
          refine cl_V (w := (mW G Z Y σ1)) (w' := (mW G Z Y q15.2)) (rv := some (.int q15.1)) (bytes := cX12_look) (maxL := 1) (ret := (some .int)) (C := RX12) (As := []) (rest := []) (stk := [.int q15.1]) ⟨hx, hb, hml, hown, hts⟩ hK hE hA hP hD hS (c_X12_look l D G Z Y σ1 F q15 hq15) (cwV 0 hts (gwV wd_1468 wd_1470 wp_52 wd_11 wd_1471) rfl rfl rfl hd_X12_look ⟨Nat.le_of_ble_eq_true rfl, Nat.le_of_ble_eq_true rfl⟩) (mg_200 G Z Y σ1) rfl rfl rfl hl.1 rfl (Nat.le_of_ble_eq_true rfl) dX12_goThrough_106 ⟨Nat.zero_le _, Nat.zero_le _⟩ rfl (fun H locs hP hD hS => ?_)
          refine lv_iconst (v := (-1)) hx hb dX12_goThrough_109 (by decide) ?_
          refine lv_icmp_eq (tgt := 118) hx hb dX12_goThrough_110 (by decide) (fun c16 => ?_) (fun c16 => ?_)
          · skip
            have h := f_t c16 h
            obtain rfl := Option.some.inj h
            exact W.vret hx hb hr (q_end hK hP hD hS) hS.2.2 dX12_goThrough_118
          · skip
            have h := f_f c16 h
            refine lv_aload_n hx hb dX12_goThrough_113 rfl (lv_at hl 0 rfl) ?_
            obtain ⟨q17, hq17, h⟩ := f_b h
            refine cl_V (w := (mW G Z Y q15.2)) (w' := (mW G Z Y q17.2)) (rv := some (.int q17.1)) (bytes := cX12_fails) (maxL := 1) (ret := (some .boolean)) (C := RX12) (As := []) (rest := []) (stk := [.int q17.1]) ⟨hx, hb, hml, hown, hts⟩ hK hE hA hP hD hS (c_X12_fails l D G Z Y q15.2 q17 hq17) (cwV 0 hts (gwV wd_1477 wd_1479 wp_54 wd_11 wd_1480) rfl rfl rfl hd_X12_fails ⟨Nat.le_of_ble_eq_true rfl, Nat.le_of_ble_eq_true rfl⟩) (mg_200 G Z Y q15.2) rfl rfl rfl hl.1 rfl (Nat.le_of_ble_eq_true rfl) dX12_goThrough_114 ⟨Nat.zero_le _, Nat.zero_le _⟩ rfl (fun H locs hP hD hS => ?_)
            refine lv_pop hx hb dX12_goThrough_117 rfl ?_
            obtain rfl := Option.some.inj h
            exact W.vret hx hb hr (q_end hK hP hD hS) hS.2.2 dX12_goThrough_118
  · skip
    have h := f_f c2 h
    refine va_ldcSW hx hb hown (strL_use 7 hE rfl) dX12_goThrough_15 ?_
    refine lv_goto (tgt := 23) hx hb dX12_goThrough_18 (by decide) ?_
    refine va_put (D := D) (ci := 12) (v := .ref (G.2.2 2)) (ty := (.object "java/lang/String")) (C := RX12) (T := TX12) (N := 59) hx hb hts inU_X12 tyX12 tyX12_ok nmX12 hown hK hP hD hS _ (mg_200 G Z Y q1.2) rfl 28 (by decide) (hts _ wd_1276) (fun _ h9 => h9) rfl (by decide +kernel) rfl rfl (Nat.le_of_ble_eq_true rfl) dX12_goThrough_23 (fun H locs hP hD hS => ?_)
    have hP := wrP (mp_200_28 G Z Y q1.2 (some 2)) hP
    have hD := wrD (mp_200_28 G Z Y q1.2 (some 2)) hD
    refine lv_aload_n hx hb dX12_goThrough_26 rfl (lv_at hl 0 rfl) ?_
    refine lv_iload hx hb dX12_goThrough_27 (lv_at hl 4 rfl) ?_
    refine lv_if_eq (tgt := 38) hx hb dX12_goThrough_29 (by decide) (fun c18 => ?_) (fun c18 => ?_)
    · skip
      have h := f_t c18 h
      refine va_ldcS hx hb hown (strL_use 6 hE rfl) dX12_goThrough_38 ?_
      refine va_put (D := D) (ci := 12) (v := .ref (G.2.2 1)) (ty := (.object "java/lang/String")) (C := RX12) (T := TX12) (N := 59) hx hb hts inU_X12 tyX12 tyX12_ok nmX12 hown hK hP hD hS _ (mg_200 G Z Y (sR q1.2 200 28 (some 2))) rfl 29 (by decide) (hts _ wd_1277) (fun _ h9 => h9) rfl (by decide +kernel) rfl rfl (Nat.le_of_ble_eq_true rfl) dX12_goThrough_40 (fun H locs hP hD hS => ?_)
      have hP := wrP (mp_200_29 G Z Y (sR q1.2 200 28 (some 2)) (some 1)) hP
      have hD := wrD (mp_200_29 G Z Y (sR q1.2 200 28 (some 2)) (some 1)) hD
      refine lv_aload_n hx hb dX12_goThrough_43 rfl (lv_at hl 0 rfl) ?_
      refine lv_iload hx hb dX12_goThrough_44 (lv_at hl 5 rfl) ?_
      refine va_put (D := D) (ci := 12) (v := .int x5) (ty := .int) (C := RX12) (T := TX12) (N := 59) hx hb hts inU_X12 tyX12 tyX12_ok nmX12 hown hK hP hD hS _ (mg_200 G Z Y (sR (sR q1.2 200 28 (some 2)) 200 29 (some 1))) rfl 27 (by decide) (hts _ wd_1275) (fun _ h9 => h9) rfl (by decide +kernel) rfl rfl (Nat.le_of_ble_eq_true rfl) dX12_goThrough_46 (fun H locs hP hD hS => ?_)
      have hP := wrP (mp_200_27 G Z Y (sR (sR q1.2 200 28 (some 2)) 200 29 (some 1)) x5) hP
      have hD := wrD (mp_200_27 G Z Y (sR (sR q1.2 200 28 (some 2)) 200 29 (some 1)) x5) hD
      refine lv_aload_n hx hb dX12_goThrough_49 rfl (lv_at hl 0 rfl) ?_
      refine lv_iconst (v := 0) hx hb dX12_goThrough_50 (by decide) ?_
      refine va_put (D := D) (ci := 12) (v := .int (0 : Int32)) (ty := .boolean) (C := RX12) (T := TX12) (N := 59) hx hb hts inU_X12 tyX12 tyX12_ok nmX12 hown hK hP hD hS _ (mg_200 G Z Y (sI (sR (sR q1.2 200 28 (some 2)) 200 29 (some 1)) 200 27 x5)) rfl 30 (by decide) (hts _ wd_1278) (fun _ h9 => h9) rfl (by decide +kernel) rfl rfl (Nat.le_of_ble_eq_true rfl) dX12_goThrough_51 (fun H locs hP hD hS => ?_)
      have hP := wrP (mp_200_30 G Z Y (sI (sR (sR q1.2 200 28 (some 2)) 200 29 (some 1)) 200 27 x5) (0 : Int32)) hP
      have hD := wrD (mp_200_30 G Z Y (sI (sR (sR q1.2 200 28 (some 2)) 200 29 (some 1)) 200 27 x5) (0 : Int32)) hD
      refine lv_aload_n hx hb dX12_goThrough_54 rfl (lv_at hl 0 rfl) ?_
      refine lv_lconst (v := 0) hx hb dX12_goThrough_55 (by decide) ?_
      refine va_put (D := D) (ci := 12) (v := .long (0 : Int64)) (ty := .long) (C := RX12) (T := TX12) (N := 59) hx hb hts inU_X12 tyX12 tyX12_ok nmX12 hown hK hP hD hS _ (mg_200 G Z Y (sI (sI (sR (sR q1.2 200 28 (some 2)) 200 29 (some 1)) 200 27 x5) 200 30 (0 : Int32))) rfl 31 (by decide) (hts _ wd_1279) (fun _ h9 => h9) rfl (by decide +kernel) rfl rfl (Nat.le_of_ble_eq_true rfl) dX12_goThrough_56 (fun H locs hP hD hS => ?_)
      have hP := wrP (mp_200_31 G Z Y (sI (sI (sR (sR q1.2 200 28 (some 2)) 200 29 (some 1)) 200 27 x5) 200 30 (0 : Int32)) (0 : Int64)) hP
      have hD := wrD (mp_200_31 G Z Y (sI (sI (sR (sR q1.2 200 28 (some 2)) 200 29 (some 1)) 200 27 x5) 200 30 (0 : Int32)) (0 : Int64)) hD
      refine lv_aload_n hx hb dX12_goThrough_59 rfl (lv_at hl 0 rfl) ?_
      obtain ⟨q19, hq19, h⟩ := f_b h
      refine cl_V (w := (mW G Z Y (sJ (sI (sI (sR (sR q1.2 200 28 (some 2)) 200 29 (some 1)) 200 27 x5) 200 30 (0 : Int32)) 200 31 (0 : Int64)))) (w' := (mW G Z Y q19.2)) (rv := none) (bytes := cX12_clause) (maxL := 6) (ret := none) (C := RX12) (As := []) (rest := []) (stk := []) ⟨hx, hb, hml, hown, hts⟩ hK hE hA hP hD hS (c_X12_clause l D G Z Y (sJ (sI (sI (sR (sR q1.2 200 28 (some 2)) 200 29 (some 1)) 200 27 x5) 200 30 (0 : Int32)) 200 31 (0 : Int64)) F q19 hq19) (cwV 0 hts (gwV wd_1579 wd_1581 wp_65 wd_11 wd_1582) rfl rfl rfl hd_X12_clause ⟨Nat.le_of_ble_eq_true rfl, Nat.le_of_ble_eq_true rfl⟩) (mg_200 G Z Y (sJ (sI (sI (sR (sR q1.2 200 28 (some 2)) 200 29 (some 1)) 200 27 x5) 200 30 (0 : Int32)) 200 31 (0 : Int64))) rfl rfl rfl hl.1 rfl (Nat.le_of_ble_eq_true rfl) dX12_goThrough_60 ⟨Nat.zero_le _, Nat.zero_le _⟩ rfl (fun H locs hP hD hS => ?_)
      refine W_X12_goThrough_L63 l D G Z Y σ0 F r1 hr1 x2 x3 x4 x5 res C0 hA _ ?_ F q19.2 h _ _ _ hP hD hS (lv_sub hl [0] rfl)
      · intro σ1 h H locs ls hP hD hS hl
        refine lv_aload_n hx hb dX12_goThrough_97 rfl (lv_at hl 0 rfl) ?_
        refine va_get (D := D) (ci := 12) (v := .int (σ1.1 200 7)) (C := RX12) (T := TX12) (N := 59) hx hb hts inU_X12 hown hK hP _ (mg_200 G Z Y σ1) rfl 7 (by decide) (hts _ wd_1255) (fun _ h9 => h9) rfl dX12_goThrough_98 ?_
        refine lv_iconst (v := (-1)) hx hb dX12_goThrough_101 (by decide) ?_
        refine lv_icmp_ne (tgt := 118) hx hb dX12_goThrough_102 (by decide) (fun c20 => ?_) (fun c20 => ?_)
        · skip
          have h := f_f c20 h
          obtain rfl := Option.some.inj h
          exact W.vret hx hb hr (q_end hK hP hD hS) hS.2.2 dX12_goThrough_118
        · skip
          have h := f_t c20 h
          refine lv_aload_n hx hb dX12_goThrough_105 rfl (lv_at hl 0 rfl) ?_
          obtain ⟨q21, hq21, h⟩ := f_b h
          refine cl_V (w := (mW G Z Y σ1)) (w' := (mW G Z Y q21.2)) (rv := some (.int q21.1)) (bytes := cX12_look) (maxL := 1) (ret := (some .int)) (C := RX12) (As := []) (rest := []) (stk := [.int q21.1]) ⟨hx, hb, hml, hown, hts⟩ hK hE hA hP hD hS (c_X12_look l D G Z Y σ1 F q21 hq21) (cwV 0 hts (gwV wd_1468 wd_1470 wp_52 wd_11 wd_1471) rfl rfl rfl hd_X12_look ⟨Nat.le_of_ble_eq_true rfl, Nat.le_of_ble_eq_true rfl⟩) (mg_200 G Z Y σ1) rfl rfl rfl hl.1 rfl (Nat.le_of_ble_eq_true rfl) dX12_goThrough_106 ⟨Nat.zero_le _, Nat.zero_le _⟩ rfl (fun H locs hP hD hS => ?_)
          refine lv_iconst (v := (-1)) hx hb dX12_goThrough_109 (by decide) ?_
          refine lv_icmp_eq (tgt := 118) hx hb dX12_goThrough_110 (by decide) (fun c22 => ?_) (fun c22 => ?_)
          · skip
            have h := f_t c22 h
            obtain rfl := Option.some.inj h
            exact W.vret hx hb hr (q_end hK hP hD hS) hS.2.2 dX12_goThrough_118
          · skip
            have h := f_f c22 h
            refine lv_aload_n hx hb dX12_goThrough_113 rfl (lv_at hl 0 rfl) ?_
            obtain ⟨q23, hq23, h⟩ := f_b h
            refine cl_V (w := (mW G Z Y q21.2)) (w' := (mW G Z Y q23.2)) (rv := some (.int q23.1)) (bytes := cX12_fails) (maxL := 1) (ret := (some .boolean)) (C := RX12) (As := []) (rest := []) (stk := [.int q23.1]) ⟨hx, hb, hml, hown, hts⟩ hK hE hA hP hD hS (c_X12_fails l D G Z Y q21.2 q23 hq23) (cwV 0 hts (gwV wd_1477 wd_1479 wp_54 wd_11 wd_1480) rfl rfl rfl hd_X12_fails ⟨Nat.le_of_ble_eq_true rfl, Nat.le_of_ble_eq_true rfl⟩) (mg_200 G Z Y q21.2) rfl rfl rfl hl.1 rfl (Nat.le_of_ble_eq_true rfl) dX12_goThrough_114 ⟨Nat.zero_le _, Nat.zero_le _⟩ rfl (fun H locs hP hD hS => ?_)
            refine lv_pop hx hb dX12_goThrough_117 rfl ?_
            obtain rfl := Option.some.inj h
            exact W.vret hx hb hr (q_end hK hP hD hS) hS.2.2 dX12_goThrough_118
    · skip
      have h := f_f c18 h
      refine va_ldcSW hx hb hown (strL_use 8 hE rfl) dX12_goThrough_32 ?_
      refine lv_goto (tgt := 40) hx hb dX12_goThrough_35 (by decide) ?_
      refine va_put (D := D) (ci := 12) (v := .ref (G.2.2 3)) (ty := (.object "java/lang/String")) (C := RX12) (T := TX12) (N := 59) hx hb hts inU_X12 tyX12 tyX12_ok nmX12 hown hK hP hD hS _ (mg_200 G Z Y (sR q1.2 200 28 (some 2))) rfl 29 (by decide) (hts _ wd_1277) (fun _ h9 => h9) rfl (by decide +kernel) rfl rfl (Nat.le_of_ble_eq_true rfl) dX12_goThrough_40 (fun H locs hP hD hS => ?_)
      have hP := wrP (mp_200_29 G Z Y (sR q1.2 200 28 (some 2)) (some 3)) hP
      have hD := wrD (mp_200_29 G Z Y (sR q1.2 200 28 (some 2)) (some 3)) hD
      refine lv_aload_n hx hb dX12_goThrough_43 rfl (lv_at hl 0 rfl) ?_
      refine lv_iload hx hb dX12_goThrough_44 (lv_at hl 5 rfl) ?_
      refine va_put (D := D) (ci := 12) (v := .int x5) (ty := .int) (C := RX12) (T := TX12) (N := 59) hx hb hts inU_X12 tyX12 tyX12_ok nmX12 hown hK hP hD hS _ (mg_200 G Z Y (sR (sR q1.2 200 28 (some 2)) 200 29 (some 3))) rfl 27 (by decide) (hts _ wd_1275) (fun _ h9 => h9) rfl (by decide +kernel) rfl rfl (Nat.le_of_ble_eq_true rfl) dX12_goThrough_46 (fun H locs hP hD hS => ?_)
      have hP := wrP (mp_200_27 G Z Y (sR (sR q1.2 200 28 (some 2)) 200 29 (some 3)) x5) hP
      have hD := wrD (mp_200_27 G Z Y (sR (sR q1.2 200 28 (some 2)) 200 29 (some 3)) x5) hD
      refine lv_aload_n hx hb dX12_goThrough_49 rfl (lv_at hl 0 rfl) ?_
      refine lv_iconst (v := 0) hx hb dX12_goThrough_50 (by decide) ?_
      refine va_put (D := D) (ci := 12) (v := .int (0 : Int32)) (ty := .boolean) (C := RX12) (T := TX12) (N := 59) hx hb hts inU_X12 tyX12 tyX12_ok nmX12 hown hK hP hD hS _ (mg_200 G Z Y (sI (sR (sR q1.2 200 28 (some 2)) 200 29 (some 3)) 200 27 x5)) rfl 30 (by decide) (hts _ wd_1278) (fun _ h9 => h9) rfl (by decide +kernel) rfl rfl (Nat.le_of_ble_eq_true rfl) dX12_goThrough_51 (fun H locs hP hD hS => ?_)
      have hP := wrP (mp_200_30 G Z Y (sI (sR (sR q1.2 200 28 (some 2)) 200 29 (some 3)) 200 27 x5) (0 : Int32)) hP
      have hD := wrD (mp_200_30 G Z Y (sI (sR (sR q1.2 200 28 (some 2)) 200 29 (some 3)) 200 27 x5) (0 : Int32)) hD
      refine lv_aload_n hx hb dX12_goThrough_54 rfl (lv_at hl 0 rfl) ?_
      refine lv_lconst (v := 0) hx hb dX12_goThrough_55 (by decide) ?_
      refine va_put (D := D) (ci := 12) (v := .long (0 : Int64)) (ty := .long) (C := RX12) (T := TX12) (N := 59) hx hb hts inU_X12 tyX12 tyX12_ok nmX12 hown hK hP hD hS _ (mg_200 G Z Y (sI (sI (sR (sR q1.2 200 28 (some 2)) 200 29 (some 3)) 200 27 x5) 200 30 (0 : Int32))) rfl 31 (by decide) (hts _ wd_1279) (fun _ h9 => h9) rfl (by decide +kernel) rfl rfl (Nat.le_of_ble_eq_true rfl) dX12_goThrough_56 (fun H locs hP hD hS => ?_)
      have hP := wrP (mp_200_31 G Z Y (sI (sI (sR (sR q1.2 200 28 (some 2)) 200 29 (some 3)) 200 27 x5) 200 30 (0 : Int32)) (0 : Int64)) hP
      have hD := wrD (mp_200_31 G Z Y (sI (sI (sR (sR q1.2 200 28 (some 2)) 200 29 (some 3)) 200 27 x5) 200 30 (0 : Int32)) (0 : Int64)) hD
      refine lv_aload_n hx hb dX12_goThrough_59 rfl (lv_at hl 0 rfl) ?_
      obtain ⟨q24, hq24, h⟩ := f_b h
      refine cl_V (w := (mW G Z Y (sJ (sI (sI (sR (sR q1.2 200 28 (some 2)) 200 29 (some 3)) 200 27 x5) 200 30 (0 : Int32)) 200 31 (0 : Int64)))) (w' := (mW G Z Y q24.2)) (rv := none) (bytes := cX12_clause) (maxL := 6) (ret := none) (C := RX12) (As := []) (rest := []) (stk := []) ⟨hx, hb, hml, hown, hts⟩ hK hE hA hP hD hS (c_X12_clause l D G Z Y (sJ (sI (sI (sR (sR q1.2 200 28 (some 2)) 200 29 (some 3)) 200 27 x5) 200 30 (0 : Int32)) 200 31 (0 : Int64)) F q24 hq24) (cwV 0 hts (gwV wd_1579 wd_1581 wp_65 wd_11 wd_1582) rfl rfl rfl hd_X12_clause ⟨Nat.le_of_ble_eq_true rfl, Nat.le_of_ble_eq_true rfl⟩) (mg_200 G Z Y (sJ (sI (sI (sR (sR q1.2 200 28 (some 2)) 200 29 (some 3)) 200 27 x5) 200 30 (0 : Int32)) 200 31 (0 : Int64))) rfl rfl rfl hl.1 rfl (Nat.le_of_ble_eq_true rfl) dX12_goThrough_60 ⟨Nat.zero_le _, Nat.zero_le _⟩ rfl (fun H locs hP hD hS => ?_)
      refine W_X12_goThrough_L63 l D G Z Y σ0 F r1 hr1 x2 x3 x4 x5 res C0 hA _ ?_ F q24.2 h _ _ _ hP hD hS (lv_sub hl [0] rfl)
      · intro σ1 h H locs ls hP hD hS hl
        refine lv_aload_n hx hb dX12_goThrough_97 rfl (lv_at hl 0 rfl) ?_
        refine va_get (D := D) (ci := 12) (v := .int (σ1.1 200 7)) (C := RX12) (T := TX12) (N := 59) hx hb hts inU_X12 hown hK hP _ (mg_200 G Z Y σ1) rfl 7 (by decide) (hts _ wd_1255) (fun _ h9 => h9) rfl dX12_goThrough_98 ?_
        refine lv_iconst (v := (-1)) hx hb dX12_goThrough_101 (by decide) ?_
        refine lv_icmp_ne (tgt := 118) hx hb dX12_goThrough_102 (by decide) (fun c25 => ?_) (fun c25 => ?_)
        · skip
          have h := f_f c25 h
          obtain rfl := Option.some.inj h
          exact W.vret hx hb hr (q_end hK hP hD hS) hS.2.2 dX12_goThrough_118
        · skip
          have h := f_t c25 h
          refine lv_aload_n hx hb dX12_goThrough_105 rfl (lv_at hl 0 rfl) ?_
          obtain ⟨q26, hq26, h⟩ := f_b h
          refine cl_V (w := (mW G Z Y σ1)) (w' := (mW G Z Y q26.2)) (rv := some (.int q26.1)) (bytes := cX12_look) (maxL := 1) (ret := (some .int)) (C := RX12) (As := []) (rest := []) (stk := [.int q26.1]) ⟨hx, hb, hml, hown, hts⟩ hK hE hA hP hD hS (c_X12_look l D G Z Y σ1 F q26 hq26) (cwV 0 hts (gwV wd_1468 wd_1470 wp_52 wd_11 wd_1471) rfl rfl rfl hd_X12_look ⟨Nat.le_of_ble_eq_true rfl, Nat.le_of_ble_eq_true rfl⟩) (mg_200 G Z Y σ1) rfl rfl rfl hl.1 rfl (Nat.le_of_ble_eq_true rfl) dX12_goThrough_106 ⟨Nat.zero_le _, Nat.zero_le _⟩ rfl (fun H locs hP hD hS => ?_)
          refine lv_iconst (v := (-1)) hx hb dX12_goThrough_109 (by decide) ?_
          refine lv_icmp_eq (tgt := 118) hx hb dX12_goThrough_110 (by decide) (fun c27 => ?_) (fun c27 => ?_)
          · skip
            have h := f_t c27 h
            obtain rfl := Option.some.inj h
            exact W.vret hx hb hr (q_end hK hP hD hS) hS.2.2 dX12_goThrough_118
          · skip
            have h := f_f c27 h
            refine lv_aload_n hx hb dX12_goThrough_113 rfl (lv_at hl 0 rfl) ?_
            obtain ⟨q28, hq28, h⟩ := f_b h
            refine cl_V (w := (mW G Z Y q26.2)) (w' := (mW G Z Y q28.2)) (rv := some (.int q28.1)) (bytes := cX12_fails) (maxL := 1) (ret := (some .boolean)) (C := RX12) (As := []) (rest := []) (stk := [.int q28.1]) ⟨hx, hb, hml, hown, hts⟩ hK hE hA hP hD hS (c_X12_fails l D G Z Y q26.2 q28 hq28) (cwV 0 hts (gwV wd_1477 wd_1479 wp_54 wd_11 wd_1480) rfl rfl rfl hd_X12_fails ⟨Nat.le_of_ble_eq_true rfl, Nat.le_of_ble_eq_true rfl⟩) (mg_200 G Z Y q26.2) rfl rfl rfl hl.1 rfl (Nat.le_of_ble_eq_true rfl) dX12_goThrough_114 ⟨Nat.zero_le _, Nat.zero_le _⟩ rfl (fun H locs hP hD hS => ?_)
            refine lv_pop hx hb dX12_goThrough_117 rfl ?_
            obtain rfl := Option.some.inj h
            exact W.vret hx hb hr (q_end hK hP hD hS) hS.2.2 dX12_goThrough_118
abbrev rm_X12_fault : Room := { frames := 73, cells := 0, slots := 0, locals := 1817 }
set_option maxRecDepth 100000 in
set_option maxHeartbeats 8000000 in
theorem c_X12_fault (l : Launch) (D : va_G) (G : hG) (Z : hZ) (Y : va_W) (σ0 : hSt) (F : Nat) (x1 : Int32) (res : (Int32 × hSt)) (h : f_X12_fault F Z σ0 x1 = some res) : CT l yX12_fault cX12_fault 3 (some .int) rm_X12_fault D G 0 0 [.ref (G.2.1 200), .int x1] (mW G Z Y σ0) (mW G Z Y res.2) (some (.int res.1)) := by
  unfold f_X12_fault at h
  refine CT.mk (cc := cX12_fault) (maxL := 3) (ret := (some .int)) (own := RX12) (plainFor_of_name (by decide)) rfl (Nat.le_of_ble_eq_true rfl) ?_
  intro p e s m args below meth c A ls C0 hnm hA hP hD hl
  obtain ⟨hx, hb, hr, hml, hown, hts, hlocks, hK, hE⟩ := id C0
  have hS : va_S A s.heap s.heap [] := va_S.rf
  have hl : lv_has ls 3 [(0, .ref (G.2.1 200)), (1, .int x1)] := hl
  refine lv_aload_n hx hb dX12_fault_0 rfl (lv_at hl 0 rfl) ?_
  refine lv_iconst (v := 0) hx hb dX12_fault_1 (by decide) ?_
  refine va_put (D := D) (ci := 12) (v := .int (0 : Int32)) (ty := .int) (C := RX12) (T := TX12) (N := 59) hx hb hts inU_X12 tyX12 tyX12_ok nmX12 hown hK hP hD hS _ (mg_200 G Z Y σ0) rfl 0 (by decide) (hts _ wd_1248) (fun _ h9 => h9) rfl (by decide +kernel) rfl rfl (Nat.le_of_ble_eq_true rfl) dX12_fault_2 (fun H locs hP hD hS => ?_)
  have hP := wrP (mp_200_0 G Z Y σ0 (0 : Int32)) hP
  have hD := wrD (mp_200_0 G Z Y σ0 (0 : Int32)) hD
  refine lv_iload_n hx hb dX12_fault_5 rfl (lv_at hl 1 rfl) ?_
  refine lv_i2l (v := (x1 : Int32).toInt64) hx hb dX12_fault_6 rfl ?_
  refine lv_lconst (v := 0) hx hb dX12_fault_7 (by decide) ?_
  refine lv_ldc2 (v := 2) hx hb hown (hts _ wd_1541) dX12_fault_8 ?_
  obtain ⟨q1, hq1, h⟩ := f_b h
  refine cl_S (w := (mW G Z Y (sI σ0 200 0 (0 : Int32)))) (w' := (mW G Z Y (sI σ0 200 0 (0 : Int32)))) (rv := some (.int q1)) (bytes := cX12_isIn) (maxL := 6) (ret := (some .boolean)) (As := [.long (x1 : Int32).toInt64, .long (0 : Int64), .long (2 : Int64)]) (rest := []) (stk := [.int q1]) ⟨hx, hb, hml, hown, hts⟩ hK hE hA hP hD hS (c_X12_isIn l D G (mW G Z Y (sI σ0 200 0 (0 : Int32))) ((x1 : Int32).toInt64) (0 : Int64) (2 : Int64) q1 hq1) (mkS hts wd_1498 wd_1499 wd_11 wd_1500 rfl rfl hd_X12_isIn ⟨Nat.le_of_ble_eq_true rfl, Nat.le_of_ble_eq_true rfl⟩) rfl hl.1 rfl (Nat.le_of_ble_eq_true rfl) dX12_fault_11 ⟨Nat.zero_le _, Nat.zero_le _⟩ rfl (fun H locs hP hD hS => ?_)
  refine lv_if_ne (tgt := 20) hx hb dX12_fault_14 (by decide) (fun c2 => ?_) (fun c2 => ?_)
  · skip
    have h := f_f c2 h
    refine lv_iload_n hx hb dX12_fault_20 rfl (lv_at hl 1 rfl) ?_
    refine lv_if_ne (tgt := 35) hx hb dX12_fault_21 (by decide) (fun c3 => ?_) (fun c3 => ?_)
    · skip
      have h := f_f c3 h
      refine lv_iconst (v := 0) hx hb dX12_fault_35 (by decide) ?_
      refine lv_istore_n (lv' := [(2, .int (0 : Int32)), (0, .ref (G.2.1 200)), (1, .int x1)]) hx hb dX12_fault_36 rfl hl (by decide) rfl (fun ls hl => ?_)
      refine lv_iload_n hx hb dX12_fault_37 rfl (lv_at hl 2 rfl) ?_
      refine lv_if_le (tgt := 65) hx hb dX12_fault_38 (by decide) (fun c4 => ?_) (fun c4 => ?_)
      · skip
        have h := f_t c4 h
        refine lv_aload_n hx hb dX12_fault_65 rfl (lv_at hl 1 rfl) ?_
        refine va_get (D := D) (ci := 12) (v := .int (σ0.1 200 7)) (C := RX12) (T := TX12) (N := 59) hx hb hts inU_X12 hown hK hP _ (mg_200 G Z Y (sI σ0 200 0 (0 : Int32))) rfl 7 (by decide) (hts _ wd_1255) (fun _ h9 => h9) rfl dX12_fault_66 ?_
        obtain rfl := Option.some.inj h
        exact W.iret (v := (σ0.1 200 7)) hx hb hr (q_end hK hP hD hS) hS.2.2 dX12_fault_69
      · skip
        have h := f_f c4 h
        refine lv_aload_n hx hb dX12_fault_41 rfl (lv_at hl 1 rfl) ?_
        refine lv_aload_n hx hb dX12_fault_42 rfl (lv_at hl 1 rfl) ?_
        refine va_get (D := D) (ci := 12) (v := .ref (G.2.1 201)) (C := RX12) (T := TX12) (N := 59) hx hb hts inU_X12 hown hK hP _ (mg_200 G Z Y (sI σ0 200 0 (0 : Int32))) rfl 1 (by decide) (hts _ wd_1249) (fun _ h9 => h9) rfl dX12_fault_43 ?_
        refine lv_iconst (v := 0) hx hb dX12_fault_46 (by decide) ?_
        refine lv_aload_n hx hb dX12_fault_47 rfl (lv_at hl 1 rfl) ?_
        refine va_get (D := D) (ci := 12) (v := .int (σ0.1 200 3)) (C := RX12) (T := TX12) (N := 59) hx hb hts inU_X12 hown hK hP _ (mg_200 G Z Y (sI σ0 200 0 (0 : Int32))) rfl 3 (by decide) (hts _ wd_1251) (fun _ h9 => h9) rfl dX12_fault_48 ?_
        refine lv_iload_n hx hb dX12_fault_51 rfl (lv_at hl 2 rfl) ?_
        refine lv_iconst (v := 2) hx hb dX12_fault_52 (by decide) ?_
        refine lv_icmp_ne (tgt := 60) hx hb dX12_fault_53 (by decide) (fun c5 => ?_) (fun c5 => ?_)
        · skip
          have h := f_f c5 h
          refine lv_iconst (v := 0) hx hb dX12_fault_60 (by decide) ?_
          refine lv_iconst (v := 0) hx hb dX12_fault_61 (by decide) ?_
          obtain ⟨q6, hq6, h⟩ := f_b h
          refine cl_V (w := (mW G Z Y (sI σ0 200 0 (0 : Int32)))) (w' := (mW G Z Y q6.2)) (rv := none) (bytes := cX12_goThrough) (maxL := 6) (ret := none) (C := RX12) (As := [.ref (G.2.1 201), .int (0 : Int32), .int (σ0.1 200 3), .int (0 : Int32), .int (0 : Int32)]) (rest := []) (stk := []) ⟨hx, hb, hml, hown, hts⟩ hK hE hA hP hD hS (c_X12_goThrough l D G Z Y (sI σ0 200 0 (0 : Int32)) F 201 (rfl : isBy 201 = true) (0 : Int32) (σ0.1 200 3) (0 : Int32) (0 : Int32) q6 hq6) (cwV 5 hts (gwV wd_1573 wd_1575 wp_64 wd_11 wd_1576) rfl rfl rfl hd_X12_goThrough ⟨Nat.le_of_ble_eq_true rfl, Nat.le_of_ble_eq_true rfl⟩) (mg_200 G Z Y (sI σ0 200 0 (0 : Int32))) rfl rfl rfl hl.1 rfl (Nat.le_of_ble_eq_true rfl) dX12_fault_62 ⟨Nat.zero_le _, Nat.zero_le _⟩ rfl (fun H locs hP hD hS => ?_)
          refine lv_aload_n hx hb dX12_fault_65 rfl (lv_at hl 1 rfl) ?_
          refine va_get (D := D) (ci := 12) (v := .int (q6.2.1 200 7)) (C := RX12) (T := TX12) (N := 59) hx hb hts inU_X12 hown hK hP _ (mg_200 G Z Y q6.2) rfl 7 (by decide) (hts _ wd_1255) (fun _ h9 => h9) rfl dX12_fault_66 ?_
          obtain rfl := Option.some.inj h
          exact W.iret (v := (q6.2.1 200 7)) hx hb hr (q_end hK hP hD hS) hS.2.2 dX12_fault_69
        · skip
          have h := f_t c5 h
          refine lv_iconst (v := 1) hx hb dX12_fault_56 (by decide) ?_
          refine lv_goto (tgt := 61) hx hb dX12_fault_57 (by decide) ?_
          refine lv_iconst (v := 0) hx hb dX12_fault_61 (by decide) ?_
          obtain ⟨q7, hq7, h⟩ := f_b h
          refine cl_V (w := (mW G Z Y (sI σ0 200 0 (0 : Int32)))) (w' := (mW G Z Y q7.2)) (rv := none) (bytes := cX12_goThrough) (maxL := 6) (ret := none) (C := RX12) (As := [.ref (G.2.1 201), .int (0 : Int32), .int (σ0.1 200 3), .int (1 : Int32), .int (0 : Int32)]) (rest := []) (stk := []) ⟨hx, hb, hml, hown, hts⟩ hK hE hA hP hD hS (c_X12_goThrough l D G Z Y (sI σ0 200 0 (0 : Int32)) F 201 (rfl : isBy 201 = true) (0 : Int32) (σ0.1 200 3) (1 : Int32) (0 : Int32) q7 hq7) (cwV 5 hts (gwV wd_1573 wd_1575 wp_64 wd_11 wd_1576) rfl rfl rfl hd_X12_goThrough ⟨Nat.le_of_ble_eq_true rfl, Nat.le_of_ble_eq_true rfl⟩) (mg_200 G Z Y (sI σ0 200 0 (0 : Int32))) rfl rfl rfl hl.1 rfl (Nat.le_of_ble_eq_true rfl) dX12_fault_62 ⟨Nat.zero_le _, Nat.zero_le _⟩ rfl (fun H locs hP hD hS => ?_)
          refine lv_aload_n hx hb dX12_fault_65 rfl (lv_at hl 1 rfl) ?_
          refine va_get (D := D) (ci := 12) (v := .int (q7.2.1 200 7)) (C := RX12) (T := TX12) (N := 59) hx hb hts inU_X12 hown hK hP _ (mg_200 G Z Y q7.2) rfl 7 (by decide) (hts _ wd_1255) (fun _ h9 => h9) rfl dX12_fault_66 ?_
          obtain rfl := Option.some.inj h
          exact W.iret (v := (q7.2.1 200 7)) hx hb hr (q_end hK hP hD hS) hS.2.2 dX12_fault_69
    · skip
      have h := f_t c3 h
      refine lv_aload_n hx hb dX12_fault_24 rfl (lv_at hl 0 rfl) ?_
      obtain ⟨q8, hq8, h⟩ := f_b h
      refine cl_V (w := (mW G Z Y (sI σ0 200 0 (0 : Int32)))) (w' := (mW G Z Y q8.2)) (rv := some (.int q8.1)) (bytes := cX12_readSaying) (maxL := 2) (ret := (some .boolean)) (C := RX12) (As := []) (rest := []) (stk := [.int q8.1]) ⟨hx, hb, hml, hown, hts⟩ hK hE hA hP hD hS (c_X12_readSaying l D G Z Y (sI σ0 200 0 (0 : Int32)) F q8 hq8) (cwV 0 hts (gwV wd_1448 wd_1450 wp_47 wd_11 wd_1451) rfl rfl rfl hd_X12_readSaying ⟨Nat.le_of_ble_eq_true rfl, Nat.le_of_ble_eq_true rfl⟩) (mg_200 G Z Y (sI σ0 200 0 (0 : Int32))) rfl rfl rfl hl.1 rfl (Nat.le_of_ble_eq_true rfl) dX12_fault_25 ⟨Nat.zero_le _, Nat.zero_le _⟩ rfl (fun H locs hP hD hS => ?_)
      refine lv_if_eq (tgt := 35) hx hb dX12_fault_28 (by decide) (fun c9 => ?_) (fun c9 => ?_)
      · skip
        have h := f_t c9 h
        refine lv_iconst (v := 0) hx hb dX12_fault_35 (by decide) ?_
        refine lv_istore_n (lv' := [(2, .int (0 : Int32)), (0, .ref (G.2.1 200)), (1, .int x1)]) hx hb dX12_fault_36 rfl hl (by decide) rfl (fun ls hl => ?_)
        refine lv_iload_n hx hb dX12_fault_37 rfl (lv_at hl 2 rfl) ?_
        refine lv_if_le (tgt := 65) hx hb dX12_fault_38 (by decide) (fun c10 => ?_) (fun c10 => ?_)
        · skip
          have h := f_t c10 h
          refine lv_aload_n hx hb dX12_fault_65 rfl (lv_at hl 1 rfl) ?_
          refine va_get (D := D) (ci := 12) (v := .int (q8.2.1 200 7)) (C := RX12) (T := TX12) (N := 59) hx hb hts inU_X12 hown hK hP _ (mg_200 G Z Y q8.2) rfl 7 (by decide) (hts _ wd_1255) (fun _ h9 => h9) rfl dX12_fault_66 ?_
          obtain rfl := Option.some.inj h
          exact W.iret (v := (q8.2.1 200 7)) hx hb hr (q_end hK hP hD hS) hS.2.2 dX12_fault_69
        · skip
          have h := f_f c10 h
          refine lv_aload_n hx hb dX12_fault_41 rfl (lv_at hl 1 rfl) ?_
          refine lv_aload_n hx hb dX12_fault_42 rfl (lv_at hl 1 rfl) ?_
          refine va_get (D := D) (ci := 12) (v := .ref (G.2.1 201)) (C := RX12) (T := TX12) (N := 59) hx hb hts inU_X12 hown hK hP _ (mg_200 G Z Y q8.2) rfl 1 (by decide) (hts _ wd_1249) (fun _ h9 => h9) rfl dX12_fault_43 ?_
          refine lv_iconst (v := 0) hx hb dX12_fault_46 (by decide) ?_
          refine lv_aload_n hx hb dX12_fault_47 rfl (lv_at hl 1 rfl) ?_
          refine va_get (D := D) (ci := 12) (v := .int (q8.2.1 200 3)) (C := RX12) (T := TX12) (N := 59) hx hb hts inU_X12 hown hK hP _ (mg_200 G Z Y q8.2) rfl 3 (by decide) (hts _ wd_1251) (fun _ h9 => h9) rfl dX12_fault_48 ?_
          refine lv_iload_n hx hb dX12_fault_51 rfl (lv_at hl 2 rfl) ?_
          refine lv_iconst (v := 2) hx hb dX12_fault_52 (by decide) ?_
          refine lv_icmp_ne (tgt := 60) hx hb dX12_fault_53 (by decide) (fun c11 => ?_) (fun c11 => ?_)
          · skip
            have h := f_f c11 h
            refine lv_iconst (v := 0) hx hb dX12_fault_60 (by decide) ?_
            refine lv_iconst (v := 0) hx hb dX12_fault_61 (by decide) ?_
            obtain ⟨q12, hq12, h⟩ := f_b h
            refine cl_V (w := (mW G Z Y q8.2)) (w' := (mW G Z Y q12.2)) (rv := none) (bytes := cX12_goThrough) (maxL := 6) (ret := none) (C := RX12) (As := [.ref (G.2.1 201), .int (0 : Int32), .int (q8.2.1 200 3), .int (0 : Int32), .int (0 : Int32)]) (rest := []) (stk := []) ⟨hx, hb, hml, hown, hts⟩ hK hE hA hP hD hS (c_X12_goThrough l D G Z Y q8.2 F 201 (rfl : isBy 201 = true) (0 : Int32) (q8.2.1 200 3) (0 : Int32) (0 : Int32) q12 hq12) (cwV 5 hts (gwV wd_1573 wd_1575 wp_64 wd_11 wd_1576) rfl rfl rfl hd_X12_goThrough ⟨Nat.le_of_ble_eq_true rfl, Nat.le_of_ble_eq_true rfl⟩) (mg_200 G Z Y q8.2) rfl rfl rfl hl.1 rfl (Nat.le_of_ble_eq_true rfl) dX12_fault_62 ⟨Nat.zero_le _, Nat.zero_le _⟩ rfl (fun H locs hP hD hS => ?_)
            refine lv_aload_n hx hb dX12_fault_65 rfl (lv_at hl 1 rfl) ?_
            refine va_get (D := D) (ci := 12) (v := .int (q12.2.1 200 7)) (C := RX12) (T := TX12) (N := 59) hx hb hts inU_X12 hown hK hP _ (mg_200 G Z Y q12.2) rfl 7 (by decide) (hts _ wd_1255) (fun _ h9 => h9) rfl dX12_fault_66 ?_
            obtain rfl := Option.some.inj h
            exact W.iret (v := (q12.2.1 200 7)) hx hb hr (q_end hK hP hD hS) hS.2.2 dX12_fault_69
          · skip
            have h := f_t c11 h
            refine lv_iconst (v := 1) hx hb dX12_fault_56 (by decide) ?_
            refine lv_goto (tgt := 61) hx hb dX12_fault_57 (by decide) ?_
            refine lv_iconst (v := 0) hx hb dX12_fault_61 (by decide) ?_
            obtain ⟨q13, hq13, h⟩ := f_b h
            refine cl_V (w := (mW G Z Y q8.2)) (w' := (mW G Z Y q13.2)) (rv := none) (bytes := cX12_goThrough) (maxL := 6) (ret := none) (C := RX12) (As := [.ref (G.2.1 201), .int (0 : Int32), .int (q8.2.1 200 3), .int (1 : Int32), .int (0 : Int32)]) (rest := []) (stk := []) ⟨hx, hb, hml, hown, hts⟩ hK hE hA hP hD hS (c_X12_goThrough l D G Z Y q8.2 F 201 (rfl : isBy 201 = true) (0 : Int32) (q8.2.1 200 3) (1 : Int32) (0 : Int32) q13 hq13) (cwV 5 hts (gwV wd_1573 wd_1575 wp_64 wd_11 wd_1576) rfl rfl rfl hd_X12_goThrough ⟨Nat.le_of_ble_eq_true rfl, Nat.le_of_ble_eq_true rfl⟩) (mg_200 G Z Y q8.2) rfl rfl rfl hl.1 rfl (Nat.le_of_ble_eq_true rfl) dX12_fault_62 ⟨Nat.zero_le _, Nat.zero_le _⟩ rfl (fun H locs hP hD hS => ?_)
            refine lv_aload_n hx hb dX12_fault_65 rfl (lv_at hl 1 rfl) ?_
            refine va_get (D := D) (ci := 12) (v := .int (q13.2.1 200 7)) (C := RX12) (T := TX12) (N := 59) hx hb hts inU_X12 hown hK hP _ (mg_200 G Z Y q13.2) rfl 7 (by decide) (hts _ wd_1255) (fun _ h9 => h9) rfl dX12_fault_66 ?_
            obtain rfl := Option.some.inj h
            exact W.iret (v := (q13.2.1 200 7)) hx hb hr (q_end hK hP hD hS) hS.2.2 dX12_fault_69
      · skip
        have h := f_f c9 h
        refine lv_iconst (v := 1) hx hb dX12_fault_31 (by decide) ?_
        refine lv_goto (tgt := 36) hx hb dX12_fault_32 (by decide) ?_
        refine lv_istore_n (lv' := [(2, .int (1 : Int32)), (0, .ref (G.2.1 200)), (1, .int x1)]) hx hb dX12_fault_36 rfl hl (by decide) rfl (fun ls hl => ?_)
        refine lv_iload_n hx hb dX12_fault_37 rfl (lv_at hl 2 rfl) ?_
        refine lv_if_le (tgt := 65) hx hb dX12_fault_38 (by decide) (fun c14 => ?_) (fun c14 => ?_)
        · skip
          have h := f_t c14 h
          refine lv_aload_n hx hb dX12_fault_65 rfl (lv_at hl 1 rfl) ?_
          refine va_get (D := D) (ci := 12) (v := .int (q8.2.1 200 7)) (C := RX12) (T := TX12) (N := 59) hx hb hts inU_X12 hown hK hP _ (mg_200 G Z Y q8.2) rfl 7 (by decide) (hts _ wd_1255) (fun _ h9 => h9) rfl dX12_fault_66 ?_
          obtain rfl := Option.some.inj h
          exact W.iret (v := (q8.2.1 200 7)) hx hb hr (q_end hK hP hD hS) hS.2.2 dX12_fault_69
        · skip
          have h := f_f c14 h
          refine lv_aload_n hx hb dX12_fault_41 rfl (lv_at hl 1 rfl) ?_
          refine lv_aload_n hx hb dX12_fault_42 rfl (lv_at hl 1 rfl) ?_
          refine va_get (D := D) (ci := 12) (v := .ref (G.2.1 201)) (C := RX12) (T := TX12) (N := 59) hx hb hts inU_X12 hown hK hP _ (mg_200 G Z Y q8.2) rfl 1 (by decide) (hts _ wd_1249) (fun _ h9 => h9) rfl dX12_fault_43 ?_
          refine lv_iconst (v := 0) hx hb dX12_fault_46 (by decide) ?_
          refine lv_aload_n hx hb dX12_fault_47 rfl (lv_at hl 1 rfl) ?_
          refine va_get (D := D) (ci := 12) (v := .int (q8.2.1 200 3)) (C := RX12) (T := TX12) (N := 59) hx hb hts inU_X12 hown hK hP _ (mg_200 G Z Y q8.2) rfl 3 (by decide) (hts _ wd_1251) (fun _ h9 => h9) rfl dX12_fault_48 ?_
          refine lv_iload_n hx hb dX12_fault_51 rfl (lv_at hl 2 rfl) ?_
          refine lv_iconst (v := 2) hx hb dX12_fault_52 (by decide) ?_
          refine lv_icmp_ne (tgt := 60) hx hb dX12_fault_53 (by decide) (fun c15 => ?_) (fun c15 => ?_)
          · skip
            have h := f_f c15 h
            refine lv_iconst (v := 0) hx hb dX12_fault_60 (by decide) ?_
            refine lv_iconst (v := 0) hx hb dX12_fault_61 (by decide) ?_
            obtain ⟨q16, hq16, h⟩ := f_b h
            refine cl_V (w := (mW G Z Y q8.2)) (w' := (mW G Z Y q16.2)) (rv := none) (bytes := cX12_goThrough) (maxL := 6) (ret := none) (C := RX12) (As := [.ref (G.2.1 201), .int (0 : Int32), .int (q8.2.1 200 3), .int (0 : Int32), .int (0 : Int32)]) (rest := []) (stk := []) ⟨hx, hb, hml, hown, hts⟩ hK hE hA hP hD hS (c_X12_goThrough l D G Z Y q8.2 F 201 (rfl : isBy 201 = true) (0 : Int32) (q8.2.1 200 3) (0 : Int32) (0 : Int32) q16 hq16) (cwV 5 hts (gwV wd_1573 wd_1575 wp_64 wd_11 wd_1576) rfl rfl rfl hd_X12_goThrough ⟨Nat.le_of_ble_eq_true rfl, Nat.le_of_ble_eq_true rfl⟩) (mg_200 G Z Y q8.2) rfl rfl rfl hl.1 rfl (Nat.le_of_ble_eq_true rfl) dX12_fault_62 ⟨Nat.zero_le _, Nat.zero_le _⟩ rfl (fun H locs hP hD hS => ?_)
            refine lv_aload_n hx hb dX12_fault_65 rfl (lv_at hl 1 rfl) ?_
            refine va_get (D := D) (ci := 12) (v := .int (q16.2.1 200 7)) (C := RX12) (T := TX12) (N := 59) hx hb hts inU_X12 hown hK hP _ (mg_200 G Z Y q16.2) rfl 7 (by decide) (hts _ wd_1255) (fun _ h9 => h9) rfl dX12_fault_66 ?_
            obtain rfl := Option.some.inj h
            exact W.iret (v := (q16.2.1 200 7)) hx hb hr (q_end hK hP hD hS) hS.2.2 dX12_fault_69
          · skip
            have h := f_t c15 h
            refine lv_iconst (v := 1) hx hb dX12_fault_56 (by decide) ?_
            refine lv_goto (tgt := 61) hx hb dX12_fault_57 (by decide) ?_
            refine lv_iconst (v := 0) hx hb dX12_fault_61 (by decide) ?_
            obtain ⟨q17, hq17, h⟩ := f_b h
            refine cl_V (w := (mW G Z Y q8.2)) (w' := (mW G Z Y q17.2)) (rv := none) (bytes := cX12_goThrough) (maxL := 6) (ret := none) (C := RX12) (As := [.ref (G.2.1 201), .int (0 : Int32), .int (q8.2.1 200 3), .int (1 : Int32), .int (0 : Int32)]) (rest := []) (stk := []) ⟨hx, hb, hml, hown, hts⟩ hK hE hA hP hD hS (c_X12_goThrough l D G Z Y q8.2 F 201 (rfl : isBy 201 = true) (0 : Int32) (q8.2.1 200 3) (1 : Int32) (0 : Int32) q17 hq17) (cwV 5 hts (gwV wd_1573 wd_1575 wp_64 wd_11 wd_1576) rfl rfl rfl hd_X12_goThrough ⟨Nat.le_of_ble_eq_true rfl, Nat.le_of_ble_eq_true rfl⟩) (mg_200 G Z Y q8.2) rfl rfl rfl hl.1 rfl (Nat.le_of_ble_eq_true rfl) dX12_fault_62 ⟨Nat.zero_le _, Nat.zero_le _⟩ rfl (fun H locs hP hD hS => ?_)
            refine lv_aload_n hx hb dX12_fault_65 rfl (lv_at hl 1 rfl) ?_
            refine va_get (D := D) (ci := 12) (v := .int (q17.2.1 200 7)) (C := RX12) (T := TX12) (N := 59) hx hb hts inU_X12 hown hK hP _ (mg_200 G Z Y q17.2) rfl 7 (by decide) (hts _ wd_1255) (fun _ h9 => h9) rfl dX12_fault_66 ?_
            obtain rfl := Option.some.inj h
            exact W.iret (v := (q17.2.1 200 7)) hx hb hr (q_end hK hP hD hS) hS.2.2 dX12_fault_69
  · skip
    have h := f_t c2 h
    refine lv_bipush (v := (-2)) hx hb dX12_fault_17 (by decide) ?_
    obtain rfl := Option.some.inj h
    exact W.iret (v := (-2 : Int32)) hx hb hr (q_end hK hP hD hS) hS.2.2 dX12_fault_19
abbrev rm_X12_keeps : Room := { frames := 73, cells := 0, slots := 0, locals := 1817 }
set_option maxRecDepth 100000 in
set_option maxHeartbeats 8000000 in
theorem W_X12_keeps_L27 {p : Program} {e : Env} {s : State} {m : MethodId} {args : Array Value} {below : List Frame} {meth : Method} {c : Code} {A : Nat → Prop} (l : Launch) (D : va_G) (G : hG) (Z : hZ) (Y : va_W) (σ0 : hSt) (F : Nat) (x1 : Int32) (x2 : Int32) (y1 : Int32) (res : (Int32 × hSt)) (C0 : Cx p s m args meth c cX12_keeps (some .boolean) RX12 4 D G A) (hA : ∀ q : Nat, s.heap.size ≤ q → A q) (k59 : hSt → Option (Int32 × hSt)) (hk59 : ∀ (σ1 : hSt), k59 σ1 = some res → ∀ (H : Heap) (locs : List Loc) (ls : Array Slot), va_P D vwCl (mW G Z Y σ1) H → va_D A (mW G Z Y σ1) → va_S A s.heap H locs → lv_has ls 4 [(0, .ref (G.2.1 200)), (1, .int y1)] → W p l e rm_X12_keeps s m args below meth c H locs 0 0 (MQ below (Qg (some (.int res.1)) D (tysG G) (mW G Z Y res.2) A) args s 0 0 A) (F0 m 59 ls [])) : ∀ (n : Nat) (σ1 : hSt) (z3 : Int32), f_X12_keeps_L27 y1 k59 n σ1 z3 = some res → ∀ (H : Heap) (locs : List Loc) (ls : Array Slot), va_P D vwCl (mW G Z Y σ1) H → va_D A (mW G Z Y σ1) → va_S A s.heap H locs → lv_has ls 4 [(0, .ref (G.2.1 200)), (1, .int y1), (3, .int z3)] → W p l e rm_X12_keeps s m args below meth c H locs 0 0 (MQ below (Qg (some (.int res.1)) D (tysG G) (mW G Z Y res.2) A) args s 0 0 A) (F0 m 27 ls []) := by
  obtain ⟨hx, hb, hr, hml, hown, hts, hlocks, hK, hE⟩ := id C0
  intro n
  induction n with
  | zero =>
    intro σ1 z3 h
    cases h
  | succ n ih =>
    intro σ1 z3 h H locs ls hP hD hS hl
    rw [f_X12_keeps_L27] at h
    refine lv_iload_n hx hb dX12_keeps_27 rfl (lv_at hl 2 rfl) ?_
    refine lv_aload_n hx hb dX12_keeps_28 rfl (lv_at hl 0 rfl) ?_
    refine va_get (D := D) (ci := 12) (v := .int (σ1.1 200 3)) (C := RX12) (T := TX12) (N := 59) hx hb hts inU_X12 hown hK hP _ (mg_200 G Z Y σ1) rfl 3 (by decide) (hts _ wd_1251) (fun _ h9 => h9) rfl dX12_keeps_29 ?_
    refine lv_icmp_ge (tgt := 59) hx hb dX12_keeps_32 (by decide) (fun c3 => ?_) (fun c3 => ?_)
    · skip
      have h := f_t c3 h
      exact hk59 σ1 h _ _ _ hP hD hS (lv_sub hl [0, 1] rfl)
    · skip
      have h := f_f c3 h
      refine lv_aload_n hx hb dX12_keeps_35 rfl (lv_at hl 0 rfl) ?_
      refine va_get (D := D) (ci := 12) (v := .ref (G.2.1 211)) (C := RX12) (T := TX12) (N := 59) hx hb hts inU_X12 hown hK hP _ (mg_200 G Z Y σ1) rfl 22 (by decide) (hts _ wd_1270) (fun _ h9 => h9) rfl dX12_keeps_36 ?_
      refine lv_sipush (v := 200) hx hb dX12_keeps_39 (by decide) ?_
      refine lv_iload_n hx hb dX12_keeps_42 rfl (lv_at hl 1 rfl) ?_
      refine lv_imul hx hb dX12_keeps_43 ?_
      refine lv_iload_n hx hb dX12_keeps_44 rfl (lv_at hl 2 rfl) ?_
      refine lv_iadd hx hb dX12_keeps_45 ?_
      refine lv_aload_n hx hb dX12_keeps_46 rfl (lv_at hl 0 rfl) ?_
      refine va_get (D := D) (ci := 12) (v := .ref (G.2.1 201)) (C := RX12) (T := TX12) (N := 59) hx hb hts inU_X12 hown hK hP _ (mg_200 G Z Y σ1) rfl 1 (by decide) (hts _ wd_1249) (fun _ h9 => h9) rfl dX12_keeps_47 ?_
      refine lv_iload_n hx hb dX12_keeps_50 rfl (lv_at hl 2 rfl) ?_
      obtain ⟨c4, h⟩ := f_n h
      refine va_baldE (v := (σ1.1 201 ((z3 : Int32).toNatClampNeg))) hx hb hK hP _ 2 (mg_201 G Z Y σ1) rfl c4 dX12_keeps_51 rfl ?_
      obtain ⟨c5, h⟩ := f_n h
      refine va_bast hx hb hK hP hD hS _ 2 (mg_211 G Z Y σ1) rfl c5 dX12_keeps_52 (fun H locs hP hD hS => ?_)
      have hP := wrP (mp_211 G Z Y σ1 _ _) hP
      have hD := wrD (mp_211 G Z Y σ1 _ _) hD
      refine lv_iinc (v := (z3 + 1)) (lv' := [(3, .int (z3 + 1)), (0, .ref (G.2.1 200)), (1, .int y1)]) hx hb dX12_keeps_53 hl (k := 2) rfl rfl (by decide) rfl (fun ls hl => ?_)
      refine lv_goto (tgt := 27) hx hb dX12_keeps_56 (by decide) ?_
      exact ih (sI σ1 211 (((((200 : Int32) * y1) + z3) : Int32).toNatClampNeg) (vp_nar .byte (σ1.1 201 ((z3 : Int32).toNatClampNeg)))) (z3 + 1) h _ _ _ hP hD hS (lv_sub hl [1, 2, 0] rfl)
set_option maxRecDepth 100000 in
set_option maxHeartbeats 8000000 in
theorem c_X12_keeps (l : Launch) (D : va_G) (G : hG) (Z : hZ) (Y : va_W) (σ0 : hSt) (F : Nat) (x1 : Int32) (x2 : Int32) (res : (Int32 × hSt)) (h : f_X12_keeps F Z σ0 x1 x2 = some res) : CT l yX12_keeps cX12_keeps 4 (some .boolean) rm_X12_keeps D G 0 0 [.ref (G.2.1 200), .int x1, .int x2] (mW G Z Y σ0) (mW G Z Y res.2) (some (.int res.1)) := by
  unfold f_X12_keeps at h
  refine CT.mk (cc := cX12_keeps) (maxL := 4) (ret := (some .boolean)) (own := RX12) (plainFor_of_name (by decide)) rfl (Nat.le_of_ble_eq_true rfl) ?_
  intro p e s m args below meth c A ls C0 hnm hA hP hD hl
  obtain ⟨hx, hb, hr, hml, hown, hts, hlocks, hK, hE⟩ := id C0
  have hS : va_S A s.heap s.heap [] := va_S.rf
  have hl : lv_has ls 4 [(0, .ref (G.2.1 200)), (1, .int x1), (2, .int x2)] := hl
  refine lv_aload_n hx hb dX12_keeps_0 rfl (lv_at hl 0 rfl) ?_
  refine lv_aload_n hx hb dX12_keeps_1 rfl (lv_at hl 0 rfl) ?_
  refine va_get (D := D) (ci := 12) (v := .ref (G.2.1 201)) (C := RX12) (T := TX12) (N := 59) hx hb hts inU_X12 hown hK hP _ (mg_200 G Z Y σ0) rfl 1 (by decide) (hts _ wd_1249) (fun _ h9 => h9) rfl dX12_keeps_2 ?_
  refine lv_iconst (v := 0) hx hb dX12_keeps_5 (by decide) ?_
  refine lv_aload_n hx hb dX12_keeps_6 rfl (lv_at hl 0 rfl) ?_
  refine va_get (D := D) (ci := 12) (v := .int (σ0.1 200 3)) (C := RX12) (T := TX12) (N := 59) hx hb hts inU_X12 hown hK hP _ (mg_200 G Z Y σ0) rfl 3 (by decide) (hts _ wd_1251) (fun _ h9 => h9) rfl dX12_keeps_7 ?_
  refine lv_iload_n hx hb dX12_keeps_10 rfl (lv_at hl 2 rfl) ?_
  refine lv_iconst (v := 0) hx hb dX12_keeps_11 (by decide) ?_
  obtain ⟨q1, hq1, h⟩ := f_b h
  refine cl_V (w := (mW G Z Y σ0)) (w' := (mW G Z Y q1.2)) (rv := none) (bytes := cX12_goThrough) (maxL := 6) (ret := none) (C := RX12) (As := [.ref (G.2.1 201), .int (0 : Int32), .int (σ0.1 200 3), .int x2, .int (0 : Int32)]) (rest := []) (stk := []) ⟨hx, hb, hml, hown, hts⟩ hK hE hA hP hD hS (c_X12_goThrough l D G Z Y σ0 F 201 (rfl : isBy 201 = true) (0 : Int32) (σ0.1 200 3) x2 (0 : Int32) q1 hq1) (cwV 5 hts (gwV wd_1573 wd_1575 wp_64 wd_11 wd_1576) rfl rfl rfl hd_X12_goThrough ⟨Nat.le_of_ble_eq_true rfl, Nat.le_of_ble_eq_true rfl⟩) (mg_200 G Z Y σ0) rfl rfl rfl hl.1 rfl (Nat.le_of_ble_eq_true rfl) dX12_keeps_12 ⟨Nat.zero_le _, Nat.zero_le _⟩ rfl (fun H locs hP hD hS => ?_)
  refine lv_aload_n hx hb dX12_keeps_15 rfl (lv_at hl 0 rfl) ?_
  refine va_get (D := D) (ci := 12) (v := .int (q1.2.1 200 7)) (C := RX12) (T := TX12) (N := 59) hx hb hts inU_X12 hown hK hP _ (mg_200 G Z Y q1.2) rfl 7 (by decide) (hts _ wd_1255) (fun _ h9 => h9) rfl dX12_keeps_16 ?_
  refine lv_iconst (v := (-1)) hx hb dX12_keeps_19 (by decide) ?_
  refine lv_icmp_eq (tgt := 25) hx hb dX12_keeps_20 (by decide) (fun c2 => ?_) (fun c2 => ?_)
  · skip
    have h := f_t c2 h
    refine lv_iconst (v := 0) hx hb dX12_keeps_25 (by decide) ?_
    refine lv_istore_n (lv' := [(3, .int (0 : Int32)), (0, .ref (G.2.1 200)), (1, .int x1), (2, .int x2)]) hx hb dX12_keeps_26 rfl hl (by decide) rfl (fun ls hl => ?_)
    refine W_X12_keeps_L27 l D G Z Y σ0 F x1 x2 x1 res C0 hA _ ?_ F q1.2 (0 : Int32) h _ _ _ hP hD hS (lv_sub hl [1, 2, 0] rfl)
    · intro σ1 h H locs ls hP hD hS hl
      refine lv_aload_n hx hb dX12_keeps_59 rfl (lv_at hl 0 rfl) ?_
      refine va_get (D := D) (ci := 12) (v := .ref (G.2.1 212)) (C := RX12) (T := TX12) (N := 59) hx hb hts inU_X12 hown hK hP _ (mg_200 G Z Y σ1) rfl 23 (by decide) (hts _ wd_1271) (fun _ h9 => h9) rfl dX12_keeps_60 ?_
      refine lv_iload_n hx hb dX12_keeps_63 rfl (lv_at hl 1 rfl) ?_
      refine lv_aload_n hx hb dX12_keeps_64 rfl (lv_at hl 0 rfl) ?_
      refine va_get (D := D) (ci := 12) (v := .int (σ1.1 200 3)) (C := RX12) (T := TX12) (N := 59) hx hb hts inU_X12 hown hK hP _ (mg_200 G Z Y σ1) rfl 3 (by decide) (hts _ wd_1251) (fun _ h9 => h9) rfl dX12_keeps_65 ?_
      obtain ⟨c6, h⟩ := f_n h
      refine va_iast hx hb hK hP hD hS _ 0 (mg_212 G Z Y σ1) rfl c6 dX12_keeps_68 (fun H locs hP hD hS => ?_)
      have hP := wrP (mp_212 G Z Y σ1 _ _) hP
      have hD := wrD (mp_212 G Z Y σ1 _ _) hD
      refine lv_aload_n hx hb dX12_keeps_69 rfl (lv_at hl 0 rfl) ?_
      refine lv_iconst (v := 0) hx hb dX12_keeps_70 (by decide) ?_
      refine va_put (D := D) (ci := 12) (v := .int (0 : Int32)) (ty := .int) (C := RX12) (T := TX12) (N := 59) hx hb hts inU_X12 tyX12 tyX12_ok nmX12 hown hK hP hD hS _ (mg_200 G Z Y (sI σ1 212 ((x1 : Int32).toNatClampNeg) (σ1.1 200 3))) rfl 3 (by decide) (hts _ wd_1251) (fun _ h9 => h9) rfl (by decide +kernel) rfl rfl (Nat.le_of_ble_eq_true rfl) dX12_keeps_71 (fun H locs hP hD hS => ?_)
      have hP := wrP (mp_200_3 G Z Y (sI σ1 212 ((x1 : Int32).toNatClampNeg) (σ1.1 200 3)) (0 : Int32)) hP
      have hD := wrD (mp_200_3 G Z Y (sI σ1 212 ((x1 : Int32).toNatClampNeg) (σ1.1 200 3)) (0 : Int32)) hD
      refine lv_iconst (v := 1) hx hb dX12_keeps_74 (by decide) ?_
      obtain rfl := Option.some.inj h
      exact W.zret (v := (1 : Int32)) hx hb hr rfl (q_end hK hP hD hS) hS.2.2 dX12_keeps_75
  · skip
    have h := f_f c2 h
    refine lv_iconst (v := 0) hx hb dX12_keeps_23 (by decide) ?_
    obtain rfl := Option.some.inj h
    exact W.zret (v := (0 : Int32)) hx hb hr rfl (q_end hK hP hD hS) hS.2.2 dX12_keeps_24
abbrev rm_X12_law : Room := { frames := 74, cells := 0, slots := 0, locals := 1840 }
set_option maxRecDepth 100000 in
set_option maxHeartbeats 8000000 in
theorem c_X12_law (l : Launch) (D : va_G) (G : hG) (Z : hZ) (Y : va_W) (σ0 : hSt) (F : Nat) (res : (Int32 × hSt)) (h : f_X12_law F Z σ0 = some res) : CT l yX12_law cX12_law 1 (some .int) rm_X12_law D G 0 0 [.ref (G.2.1 200)] (mW G Z Y σ0) (mW G Z Y res.2) (some (.int res.1)) := by
  unfold f_X12_law at h
  refine CT.mk (cc := cX12_law) (maxL := 1) (ret := (some .int)) (own := RX12) (plainFor_of_name (by decide)) rfl (Nat.le_of_ble_eq_true rfl) ?_
  intro p e s m args below meth c A ls C0 hnm hA hP hD hl
  obtain ⟨hx, hb, hr, hml, hown, hts, hlocks, hK, hE⟩ := id C0
  have hS : va_S A s.heap s.heap [] := va_S.rf
  have hl : lv_has ls 1 [(0, .ref (G.2.1 200))] := hl
  refine lv_aload_n hx hb dX12_law_0 rfl (lv_at hl 0 rfl) ?_
  refine lv_iconst (v := 0) hx hb dX12_law_1 (by decide) ?_
  refine va_put (D := D) (ci := 12) (v := .int (0 : Int32)) (ty := .int) (C := RX12) (T := TX12) (N := 59) hx hb hts inU_X12 tyX12 tyX12_ok nmX12 hown hK hP hD hS _ (mg_200 G Z Y σ0) rfl 0 (by decide) (hts _ wd_1248) (fun _ h9 => h9) rfl (by decide +kernel) rfl rfl (Nat.le_of_ble_eq_true rfl) dX12_law_2 (fun H locs hP hD hS => ?_)
  have hP := wrP (mp_200_0 G Z Y σ0 (0 : Int32)) hP
  have hD := wrD (mp_200_0 G Z Y σ0 (0 : Int32)) hD
  refine lv_aload_n hx hb dX12_law_5 rfl (lv_at hl 0 rfl) ?_
  refine va_get (D := D) (ci := 12) (v := .int (σ0.1 200 25)) (C := RX12) (T := TX12) (N := 59) hx hb hts inU_X12 hown hK hP _ (mg_200 G Z Y (sI σ0 200 0 (0 : Int32))) rfl 25 (by decide) (hts _ wd_1273) (fun _ h9 => h9) rfl dX12_law_6 ?_
  refine lv_bipush (v := 12) hx hb dX12_law_9 (by decide) ?_
  refine lv_icmp_eq (tgt := 26) hx hb dX12_law_11 (by decide) (fun c1 => ?_) (fun c1 => ?_)
  · skip
    have h := f_t c1 h
    refine lv_iconst (v := (-1)) hx hb dX12_law_26 (by decide) ?_
    obtain rfl := Option.some.inj h
    exact W.iret (v := (-1 : Int32)) hx hb hr (q_end hK hP hD hS) hS.2.2 dX12_law_27
  · skip
    have h := f_f c1 h
    refine lv_aload_n hx hb dX12_law_14 rfl (lv_at hl 0 rfl) ?_
    refine lv_aload_n hx hb dX12_law_15 rfl (lv_at hl 0 rfl) ?_
    refine va_get (D := D) (ci := 12) (v := .int (σ0.1 200 25)) (C := RX12) (T := TX12) (N := 59) hx hb hts inU_X12 hown hK hP _ (mg_200 G Z Y (sI σ0 200 0 (0 : Int32))) rfl 25 (by decide) (hts _ wd_1273) (fun _ h9 => h9) rfl dX12_law_16 ?_
    refine lv_iconst (v := 0) hx hb dX12_law_19 (by decide) ?_
    obtain ⟨q2, hq2, h⟩ := f_b h
    refine cl_V (w := (mW G Z Y (sI σ0 200 0 (0 : Int32)))) (w' := (mW G Z Y q2.2)) (rv := some (.int q2.1)) (bytes := cX12_keeps) (maxL := 4) (ret := (some .boolean)) (C := RX12) (As := [.int (σ0.1 200 25), .int (0 : Int32)]) (rest := []) (stk := [.int q2.1]) ⟨hx, hb, hml, hown, hts⟩ hK hE hA hP hD hS (c_X12_keeps l D G Z Y (sI σ0 200 0 (0 : Int32)) F (σ0.1 200 25) (0 : Int32) q2 hq2) (cwV 2 hts (gwV wd_1632 wd_1634 wp_74 wd_11 wd_1635) rfl rfl rfl hd_X12_keeps ⟨Nat.le_of_ble_eq_true rfl, Nat.le_of_ble_eq_true rfl⟩) (mg_200 G Z Y (sI σ0 200 0 (0 : Int32))) rfl rfl rfl hl.1 rfl (Nat.le_of_ble_eq_true rfl) dX12_law_20 ⟨Nat.zero_le _, Nat.zero_le _⟩ rfl (fun H locs hP hD hS => ?_)
    refine lv_if_ne (tgt := 28) hx hb dX12_law_23 (by decide) (fun c3 => ?_) (fun c3 => ?_)
    · skip
      have h := f_f c3 h
      refine lv_aload_n hx hb dX12_law_28 rfl (lv_at hl 0 rfl) ?_
      refine lv_dup hx hb dX12_law_29 rfl ?_
      refine va_get (D := D) (ci := 12) (v := .int (q2.2.1 200 25)) (C := RX12) (T := TX12) (N := 59) hx hb hts inU_X12 hown hK hP _ (mg_200 G Z Y q2.2) rfl 25 (by decide) (hts _ wd_1273) (fun _ h9 => h9) rfl dX12_law_30 ?_
      refine lv_iconst (v := 1) hx hb dX12_law_33 (by decide) ?_
      refine lv_iadd hx hb dX12_law_34 ?_
      refine va_put (D := D) (ci := 12) (v := .int ((q2.2.1 200 25) + (1 : Int32))) (ty := .int) (C := RX12) (T := TX12) (N := 59) hx hb hts inU_X12 tyX12 tyX12_ok nmX12 hown hK hP hD hS _ (mg_200 G Z Y q2.2) rfl 25 (by decide) (hts _ wd_1273) (fun _ h9 => h9) rfl (by decide +kernel) rfl rfl (Nat.le_of_ble_eq_true rfl) dX12_law_35 (fun H locs hP hD hS => ?_)
      have hP := wrP (mp_200_25 G Z Y q2.2 ((q2.2.1 200 25) + (1 : Int32))) hP
      have hD := wrD (mp_200_25 G Z Y q2.2 ((q2.2.1 200 25) + (1 : Int32))) hD
      refine lv_aload_n hx hb dX12_law_38 rfl (lv_at hl 0 rfl) ?_
      refine va_get (D := D) (ci := 12) (v := .int ((q2.2.1 200 25) + (1 : Int32))) (C := RX12) (T := TX12) (N := 59) hx hb hts inU_X12 hown hK hP _ (mg_200 G Z Y (sI q2.2 200 25 ((q2.2.1 200 25) + (1 : Int32)))) rfl 25 (by decide) (hts _ wd_1273) (fun _ h9 => h9) rfl dX12_law_39 ?_
      refine lv_iconst (v := 1) hx hb dX12_law_42 (by decide) ?_
      refine lv_isub hx hb dX12_law_43 ?_
      obtain rfl := Option.some.inj h
      exact W.iret (v := (((q2.2.1 200 25) + (1 : Int32)) - (1 : Int32))) hx hb hr (q_end hK hP hD hS) hS.2.2 dX12_law_44
    · skip
      have h := f_t c3 h
      refine lv_iconst (v := (-1)) hx hb dX12_law_26 (by decide) ?_
      obtain rfl := Option.some.inj h
      exact W.iret (v := (-1 : Int32)) hx hb hr (q_end hK hP hD hS) hS.2.2 dX12_law_27
abbrev rm_X12_giant : Room := { frames := 74, cells := 0, slots := 0, locals := 1840 }
set_option maxRecDepth 100000 in
set_option maxHeartbeats 8000000 in
theorem c_X12_giant (l : Launch) (D : va_G) (G : hG) (Z : hZ) (Y : va_W) (σ0 : hSt) (F : Nat) (res : (Int32 × hSt)) (h : f_X12_giant F Z σ0 = some res) : CT l yX12_giant cX12_giant 1 (some .int) rm_X12_giant D G 0 0 [.ref (G.2.1 200)] (mW G Z Y σ0) (mW G Z Y res.2) (some (.int res.1)) := by
  unfold f_X12_giant at h
  refine CT.mk (cc := cX12_giant) (maxL := 1) (ret := (some .int)) (own := RX12) (plainFor_of_name (by decide)) rfl (Nat.le_of_ble_eq_true rfl) ?_
  intro p e s m args below meth c A ls C0 hnm hA hP hD hl
  obtain ⟨hx, hb, hr, hml, hown, hts, hlocks, hK, hE⟩ := id C0
  have hS : va_S A s.heap s.heap [] := va_S.rf
  have hl : lv_has ls 1 [(0, .ref (G.2.1 200))] := hl
  refine lv_aload_n hx hb dX12_giant_0 rfl (lv_at hl 0 rfl) ?_
  refine lv_iconst (v := 0) hx hb dX12_giant_1 (by decide) ?_
  refine va_put (D := D) (ci := 12) (v := .int (0 : Int32)) (ty := .int) (C := RX12) (T := TX12) (N := 59) hx hb hts inU_X12 tyX12 tyX12_ok nmX12 hown hK hP hD hS _ (mg_200 G Z Y σ0) rfl 0 (by decide) (hts _ wd_1248) (fun _ h9 => h9) rfl (by decide +kernel) rfl rfl (Nat.le_of_ble_eq_true rfl) dX12_giant_2 (fun H locs hP hD hS => ?_)
  have hP := wrP (mp_200_0 G Z Y σ0 (0 : Int32)) hP
  have hD := wrD (mp_200_0 G Z Y σ0 (0 : Int32)) hD
  refine lv_aload_n hx hb dX12_giant_5 rfl (lv_at hl 0 rfl) ?_
  refine va_get (D := D) (ci := 12) (v := .int (σ0.1 200 26)) (C := RX12) (T := TX12) (N := 59) hx hb hts inU_X12 hown hK hP _ (mg_200 G Z Y (sI σ0 200 0 (0 : Int32))) rfl 26 (by decide) (hts _ wd_1274) (fun _ h9 => h9) rfl dX12_giant_6 ?_
  refine lv_bipush (v := 12) hx hb dX12_giant_9 (by decide) ?_
  refine lv_icmp_eq (tgt := 29) hx hb dX12_giant_11 (by decide) (fun c1 => ?_) (fun c1 => ?_)
  · skip
    have h := f_t c1 h
    refine lv_iconst (v := (-1)) hx hb dX12_giant_29 (by decide) ?_
    obtain rfl := Option.some.inj h
    exact W.iret (v := (-1 : Int32)) hx hb hr (q_end hK hP hD hS) hS.2.2 dX12_giant_30
  · skip
    have h := f_f c1 h
    refine lv_aload_n hx hb dX12_giant_14 rfl (lv_at hl 0 rfl) ?_
    refine lv_bipush (v := 12) hx hb dX12_giant_15 (by decide) ?_
    refine lv_aload_n hx hb dX12_giant_17 rfl (lv_at hl 0 rfl) ?_
    refine va_get (D := D) (ci := 12) (v := .int (σ0.1 200 26)) (C := RX12) (T := TX12) (N := 59) hx hb hts inU_X12 hown hK hP _ (mg_200 G Z Y (sI σ0 200 0 (0 : Int32))) rfl 26 (by decide) (hts _ wd_1274) (fun _ h9 => h9) rfl dX12_giant_18 ?_
    refine lv_iadd hx hb dX12_giant_21 ?_
    refine lv_iconst (v := 1) hx hb dX12_giant_22 (by decide) ?_
    obtain ⟨q2, hq2, h⟩ := f_b h
    refine cl_V (w := (mW G Z Y (sI σ0 200 0 (0 : Int32)))) (w' := (mW G Z Y q2.2)) (rv := some (.int q2.1)) (bytes := cX12_keeps) (maxL := 4) (ret := (some .boolean)) (C := RX12) (As := [.int ((12 : Int32) + (σ0.1 200 26)), .int (1 : Int32)]) (rest := []) (stk := [.int q2.1]) ⟨hx, hb, hml, hown, hts⟩ hK hE hA hP hD hS (c_X12_keeps l D G Z Y (sI σ0 200 0 (0 : Int32)) F ((12 : Int32) + (σ0.1 200 26)) (1 : Int32) q2 hq2) (cwV 2 hts (gwV wd_1632 wd_1634 wp_74 wd_11 wd_1635) rfl rfl rfl hd_X12_keeps ⟨Nat.le_of_ble_eq_true rfl, Nat.le_of_ble_eq_true rfl⟩) (mg_200 G Z Y (sI σ0 200 0 (0 : Int32))) rfl rfl rfl hl.1 rfl (Nat.le_of_ble_eq_true rfl) dX12_giant_23 ⟨Nat.zero_le _, Nat.zero_le _⟩ rfl (fun H locs hP hD hS => ?_)
    refine lv_if_ne (tgt := 31) hx hb dX12_giant_26 (by decide) (fun c3 => ?_) (fun c3 => ?_)
    · skip
      have h := f_f c3 h
      refine lv_aload_n hx hb dX12_giant_31 rfl (lv_at hl 0 rfl) ?_
      refine lv_dup hx hb dX12_giant_32 rfl ?_
      refine va_get (D := D) (ci := 12) (v := .int (q2.2.1 200 26)) (C := RX12) (T := TX12) (N := 59) hx hb hts inU_X12 hown hK hP _ (mg_200 G Z Y q2.2) rfl 26 (by decide) (hts _ wd_1274) (fun _ h9 => h9) rfl dX12_giant_33 ?_
      refine lv_iconst (v := 1) hx hb dX12_giant_36 (by decide) ?_
      refine lv_iadd hx hb dX12_giant_37 ?_
      refine va_put (D := D) (ci := 12) (v := .int ((q2.2.1 200 26) + (1 : Int32))) (ty := .int) (C := RX12) (T := TX12) (N := 59) hx hb hts inU_X12 tyX12 tyX12_ok nmX12 hown hK hP hD hS _ (mg_200 G Z Y q2.2) rfl 26 (by decide) (hts _ wd_1274) (fun _ h9 => h9) rfl (by decide +kernel) rfl rfl (Nat.le_of_ble_eq_true rfl) dX12_giant_38 (fun H locs hP hD hS => ?_)
      have hP := wrP (mp_200_26 G Z Y q2.2 ((q2.2.1 200 26) + (1 : Int32))) hP
      have hD := wrD (mp_200_26 G Z Y q2.2 ((q2.2.1 200 26) + (1 : Int32))) hD
      refine lv_aload_n hx hb dX12_giant_41 rfl (lv_at hl 0 rfl) ?_
      refine va_get (D := D) (ci := 12) (v := .int ((q2.2.1 200 26) + (1 : Int32))) (C := RX12) (T := TX12) (N := 59) hx hb hts inU_X12 hown hK hP _ (mg_200 G Z Y (sI q2.2 200 26 ((q2.2.1 200 26) + (1 : Int32)))) rfl 26 (by decide) (hts _ wd_1274) (fun _ h9 => h9) rfl dX12_giant_42 ?_
      refine lv_iconst (v := 1) hx hb dX12_giant_45 (by decide) ?_
      refine lv_isub hx hb dX12_giant_46 ?_
      obtain rfl := Option.some.inj h
      exact W.iret (v := (((q2.2.1 200 26) + (1 : Int32)) - (1 : Int32))) hx hb hr (q_end hK hP hD hS) hS.2.2 dX12_giant_47
    · skip
      have h := f_t c3 h
      refine lv_iconst (v := (-1)) hx hb dX12_giant_29 (by decide) ?_
      obtain rfl := Option.some.inj h
      exact W.iret (v := (-1 : Int32)) hx hb hr (q_end hK hP hD hS) hS.2.2 dX12_giant_30
abbrev rm_X12_noLetters : Room := { frames := 0, cells := 0, slots := 0, locals := 0 }
set_option maxRecDepth 100000 in
set_option maxHeartbeats 8000000 in
theorem W_X12_noLetters_L2 {p : Program} {e : Env} {s : State} {m : MethodId} {args : Array Value} {below : List Frame} {meth : Method} {c : Code} {A : Nat → Prop} (l : Launch) (D : va_G) (G : hG) (Z : hZ) (Y : va_W) (σ0 : hSt) (F : Nat) (res : (Unit × hSt)) (C0 : Cx p s m args meth c cX12_noLetters none RX12 2 D G A) (hA : ∀ q : Nat, s.heap.size ≤ q → A q) : ∀ (n : Nat) (σ1 : hSt) (z1 : Int32), f_X12_noLetters_L2 n σ1 z1 = some res → ∀ (H : Heap) (locs : List Loc) (ls : Array Slot), va_P D vwCl (mW G Z Y σ1) H → va_D A (mW G Z Y σ1) → va_S A s.heap H locs → lv_has ls 2 [(0, .ref (G.2.1 200)), (1, .int z1)] → W p l e rm_X12_noLetters s m args below meth c H locs 0 0 (MQ below (Qg none D (tysG G) (mW G Z Y res.2) A) args s 0 0 A) (F0 m 2 ls []) := by
  obtain ⟨hx, hb, hr, hml, hown, hts, hlocks, hK, hE⟩ := id C0
  intro n
  induction n with
  | zero =>
    intro σ1 z1 h
    cases h
  | succ n ih =>
    intro σ1 z1 h H locs ls hP hD hS hl
    rw [f_X12_noLetters_L2] at h
    refine lv_iload_n hx hb dX12_noLetters_2 rfl (lv_at hl 1 rfl) ?_
    refine lv_sipush (v := 128) hx hb dX12_noLetters_3 (by decide) ?_
    refine lv_icmp_ge (tgt := 22) hx hb dX12_noLetters_6 (by decide) (fun c1 => ?_) (fun c1 => ?_)
    · skip
      have h := f_t c1 h
      obtain rfl := Option.some.inj h
      exact W.vret hx hb hr (q_end hK hP hD hS) hS.2.2 dX12_noLetters_22
    · skip
      have h := f_f c1 h
      refine lv_aload_n hx hb dX12_noLetters_9 rfl (lv_at hl 0 rfl) ?_
      refine va_get (D := D) (ci := 12) (v := .ref (G.2.1 213)) (C := RX12) (T := TX12) (N := 59) hx hb hts inU_X12 hown hK hP _ (mg_200 G Z Y σ1) rfl 24 (by decide) (hts _ wd_1272) (fun _ h9 => h9) rfl dX12_noLetters_10 ?_
      refine lv_iload_n hx hb dX12_noLetters_13 rfl (lv_at hl 1 rfl) ?_
      refine lv_lconst (v := 0) hx hb dX12_noLetters_14 (by decide) ?_
      obtain ⟨c2, h⟩ := f_n h
      refine va_last hx hb hK hP hD hS _ 1 (mg_213 G Z Y σ1) rfl c2 dX12_noLetters_15 (fun H locs hP hD hS => ?_)
      have hP := wrP (mp_213 G Z Y σ1 _ _) hP
      have hD := wrD (mp_213 G Z Y σ1 _ _) hD
      refine lv_iinc (v := (z1 + 1)) (lv' := [(1, .int (z1 + 1)), (0, .ref (G.2.1 200))]) hx hb dX12_noLetters_16 hl (k := 1) rfl rfl (by decide) rfl (fun ls hl => ?_)
      refine lv_goto (tgt := 2) hx hb dX12_noLetters_19 (by decide) ?_
      exact ih (sJ σ1 213 ((z1 : Int32).toNatClampNeg) (0 : Int64)) (z1 + 1) h _ _ _ hP hD hS (lv_sub hl [1, 0] rfl)
set_option maxRecDepth 100000 in
set_option maxHeartbeats 8000000 in
theorem c_X12_noLetters (l : Launch) (D : va_G) (G : hG) (Z : hZ) (Y : va_W) (σ0 : hSt) (F : Nat) (res : (Unit × hSt)) (h : f_X12_noLetters F Z σ0 = some res) : CT l yX12_noLetters cX12_noLetters 2 none rm_X12_noLetters D G 0 0 [.ref (G.2.1 200)] (mW G Z Y σ0) (mW G Z Y res.2) none := by
  unfold f_X12_noLetters at h
  refine CT.mk (cc := cX12_noLetters) (maxL := 2) (ret := none) (own := RX12) (plainFor_of_name (by decide)) rfl (Nat.le_of_ble_eq_true rfl) ?_
  intro p e s m args below meth c A ls C0 hnm hA hP hD hl
  obtain ⟨hx, hb, hr, hml, hown, hts, hlocks, hK, hE⟩ := id C0
  have hS : va_S A s.heap s.heap [] := va_S.rf
  have hl : lv_has ls 2 [(0, .ref (G.2.1 200))] := hl
  refine lv_iconst (v := 0) hx hb dX12_noLetters_0 (by decide) ?_
  refine lv_istore_n (lv' := [(1, .int (0 : Int32)), (0, .ref (G.2.1 200))]) hx hb dX12_noLetters_1 rfl hl (by decide) rfl (fun ls hl => ?_)
  refine W_X12_noLetters_L2 l D G Z Y σ0 F res C0 hA F σ0 (0 : Int32) h _ _ _ hP hD hS (lv_sub hl [1, 0] rfl)
abbrev rm_X12_worthOf : Room := { frames := 73, cells := 0, slots := 0, locals := 1817 }
set_option maxRecDepth 100000 in
set_option maxHeartbeats 8000000 in
theorem c_X12_worthOf (l : Launch) (D : va_G) (G : hG) (Z : hZ) (Y : va_W) (σ0 : hSt) (F : Nat) (x1 : Int32) (x2 : Int32) (x3 : Int32) (res : (Int64 × hSt)) (h : f_X12_worthOf F Z σ0 x1 x2 x3 = some res) : CT l yX12_worthOf cX12_worthOf 4 (some .long) rm_X12_worthOf D G 0 0 [.ref (G.2.1 200), .int x1, .int x2, .int x3] (mW G Z Y σ0) (mW G Z Y res.2) (some (.long res.1)) := by
  unfold f_X12_worthOf at h
  refine CT.mk (cc := cX12_worthOf) (maxL := 4) (ret := (some .long)) (own := RX12) (plainFor_of_name (by decide)) rfl (Nat.le_of_ble_eq_true rfl) ?_
  intro p e s m args below meth c A ls C0 hnm hA hP hD hl
  obtain ⟨hx, hb, hr, hml, hown, hts, hlocks, hK, hE⟩ := id C0
  have hS : va_S A s.heap s.heap [] := va_S.rf
  have hl : lv_has ls 4 [(0, .ref (G.2.1 200)), (1, .int x1), (2, .int x2), (3, .int x3)] := hl
  refine lv_aload_n hx hb dX12_worthOf_0 rfl (lv_at hl 0 rfl) ?_
  refine lv_aload_n hx hb dX12_worthOf_1 rfl (lv_at hl 0 rfl) ?_
  refine va_get (D := D) (ci := 12) (v := .ref (G.2.1 211)) (C := RX12) (T := TX12) (N := 59) hx hb hts inU_X12 hown hK hP _ (mg_200 G Z Y σ0) rfl 22 (by decide) (hts _ wd_1270) (fun _ h9 => h9) rfl dX12_worthOf_2 ?_
  refine lv_sipush (v := 200) hx hb dX12_worthOf_5 (by decide) ?_
  refine lv_iload_n hx hb dX12_worthOf_8 rfl (lv_at hl 1 rfl) ?_
  refine lv_imul hx hb dX12_worthOf_9 ?_
  refine lv_aload_n hx hb dX12_worthOf_10 rfl (lv_at hl 0 rfl) ?_
  refine va_get (D := D) (ci := 12) (v := .ref (G.2.1 212)) (C := RX12) (T := TX12) (N := 59) hx hb hts inU_X12 hown hK hP _ (mg_200 G Z Y σ0) rfl 23 (by decide) (hts _ wd_1271) (fun _ h9 => h9) rfl dX12_worthOf_11 ?_
  refine lv_iload_n hx hb dX12_worthOf_14 rfl (lv_at hl 1 rfl) ?_
  obtain ⟨c1, h⟩ := f_n h
  refine va_ialdE (v := (σ0.1 212 ((x1 : Int32).toNatClampNeg))) hx hb hK hP _ 0 (mg_212 G Z Y σ0) rfl c1 dX12_worthOf_15 rfl ?_
  refine lv_iload_n hx hb dX12_worthOf_16 rfl (lv_at hl 2 rfl) ?_
  refine lv_iload_n hx hb dX12_worthOf_17 rfl (lv_at hl 3 rfl) ?_
  obtain ⟨q2, hq2, h⟩ := f_b h
  refine cl_V (w := (mW G Z Y σ0)) (w' := (mW G Z Y q2.2)) (rv := none) (bytes := cX12_goThrough) (maxL := 6) (ret := none) (C := RX12) (As := [.ref (G.2.1 211), .int ((200 : Int32) * x1), .int (σ0.1 212 ((x1 : Int32).toNatClampNeg)), .int x2, .int x3]) (rest := []) (stk := []) ⟨hx, hb, hml, hown, hts⟩ hK hE hA hP hD hS (c_X12_goThrough l D G Z Y σ0 F 211 (rfl : isBy 211 = true) ((200 : Int32) * x1) (σ0.1 212 ((x1 : Int32).toNatClampNeg)) x2 x3 q2 hq2) (cwV 5 hts (gwV wd_1573 wd_1575 wp_64 wd_11 wd_1576) rfl rfl rfl hd_X12_goThrough ⟨Nat.le_of_ble_eq_true rfl, Nat.le_of_ble_eq_true rfl⟩) (mg_200 G Z Y σ0) rfl rfl rfl hl.1 rfl (Nat.le_of_ble_eq_true rfl) dX12_worthOf_18 ⟨Nat.zero_le _, Nat.zero_le _⟩ rfl (fun H locs hP hD hS => ?_)
  refine lv_aload_n hx hb dX12_worthOf_21 rfl (lv_at hl 0 rfl) ?_
  refine va_get (D := D) (ci := 12) (v := .long (q2.2.2.1 200 31)) (C := RX12) (T := TX12) (N := 59) hx hb hts inU_X12 hown hK hP _ (mg_200 G Z Y q2.2) rfl 31 (by decide) (hts _ wd_1279) (fun _ h9 => h9) rfl dX12_worthOf_22 ?_
  obtain rfl := Option.some.inj h
  exact W.lret (v := (q2.2.2.1 200 31)) hx hb hr (q_end hK hP hD hS) hS.2.2 dX12_worthOf_25
abbrev rm_X12_lawWorth : Room := { frames := 74, cells := 0, slots := 0, locals := 1840 }
set_option maxRecDepth 100000 in
set_option maxHeartbeats 8000000 in
theorem c_X12_lawWorth (l : Launch) (D : va_G) (G : hG) (Z : hZ) (Y : va_W) (σ0 : hSt) (F : Nat) (x1 : Int32) (x2 : Int32) (x3 : Int32) (x4 : Int32) (x5 : Int32) (res : (Int64 × hSt)) (h : f_X12_lawWorth F Z σ0 x1 x2 x3 x4 x5 = some res) : CT l yX12_lawWorth cX12_lawWorth 6 (some .long) rm_X12_lawWorth D G 0 0 [.ref (G.2.1 200), .int x1, .int x2, .int x3, .int x4, .int x5] (mW G Z Y σ0) (mW G Z Y res.2) (some (.long res.1)) := by
  unfold f_X12_lawWorth at h
  refine CT.mk (cc := cX12_lawWorth) (maxL := 6) (ret := (some .long)) (own := RX12) (plainFor_of_name (by decide)) rfl (Nat.le_of_ble_eq_true rfl) ?_
  intro p e s m args below meth c A ls C0 hnm hA hP hD hl
  obtain ⟨hx, hb, hr, hml, hown, hts, hlocks, hK, hE⟩ := id C0
  have hS : va_S A s.heap s.heap [] := va_S.rf
  have hl : lv_has ls 6 [(0, .ref (G.2.1 200)), (1, .int x1), (2, .int x2), (3, .int x3), (4, .int x4), (5, .int x5)] := hl
  refine lv_aload_n hx hb dX12_lawWorth_0 rfl (lv_at hl 0 rfl) ?_
  obtain ⟨q1, hq1, h⟩ := f_b h
  refine cl_V (w := (mW G Z Y σ0)) (w' := (mW G Z Y q1.2)) (rv := none) (bytes := cX12_noLetters) (maxL := 2) (ret := none) (C := RX12) (As := []) (rest := []) (stk := []) ⟨hx, hb, hml, hown, hts⟩ hK hE hA hP hD hS (c_X12_noLetters l D G Z Y σ0 F q1 hq1) (cwV 0 hts (gwV wd_1665 wd_1667 wp_79 wd_11 wd_1668) rfl rfl rfl hd_X12_noLetters ⟨Nat.le_of_ble_eq_true rfl, Nat.le_of_ble_eq_true rfl⟩) (mg_200 G Z Y σ0) rfl rfl rfl hl.1 rfl (Nat.le_of_ble_eq_true rfl) dX12_lawWorth_1 ⟨Nat.zero_le _, Nat.zero_le _⟩ rfl (fun H locs hP hD hS => ?_)
  refine lv_aload_n hx hb dX12_lawWorth_4 rfl (lv_at hl 0 rfl) ?_
  refine va_get (D := D) (ci := 12) (v := .ref (G.2.1 213)) (C := RX12) (T := TX12) (N := 59) hx hb hts inU_X12 hown hK hP _ (mg_200 G Z Y q1.2) rfl 24 (by decide) (hts _ wd_1272) (fun _ h9 => h9) rfl dX12_lawWorth_5 ?_
  refine lv_bipush (v := 105) hx hb dX12_lawWorth_8 (by decide) ?_
  refine lv_iload hx hb dX12_lawWorth_10 (lv_at hl 4 rfl) ?_
  refine lv_i2l (v := (x4 : Int32).toInt64) hx hb dX12_lawWorth_12 rfl ?_
  obtain ⟨c2, h⟩ := f_n h
  refine va_last hx hb hK hP hD hS _ 1 (mg_213 G Z Y q1.2) rfl c2 dX12_lawWorth_13 (fun H locs hP hD hS => ?_)
  have hP := wrP (mp_213 G Z Y q1.2 _ _) hP
  have hD := wrD (mp_213 G Z Y q1.2 _ _) hD
  refine lv_aload_n hx hb dX12_lawWorth_14 rfl (lv_at hl 0 rfl) ?_
  refine va_get (D := D) (ci := 12) (v := .ref (G.2.1 213)) (C := RX12) (T := TX12) (N := 59) hx hb hts inU_X12 hown hK hP _ (mg_200 G Z Y (sJ q1.2 213 (((105 : Int32) : Int32).toNatClampNeg) ((x4 : Int32).toInt64))) rfl 24 (by decide) (hts _ wd_1272) (fun _ h9 => h9) rfl dX12_lawWorth_15 ?_
  refine lv_bipush (v := 110) hx hb dX12_lawWorth_18 (by decide) ?_
  refine lv_aload_n hx hb dX12_lawWorth_20 rfl (lv_at hl 0 rfl) ?_
  refine va_get (D := D) (ci := 12) (v := .ref (G.2.1 204)) (C := RX12) (T := TX12) (N := 59) hx hb hts inU_X12 hown hK hP _ (mg_200 G Z Y (sJ q1.2 213 (((105 : Int32) : Int32).toNatClampNeg) ((x4 : Int32).toInt64))) rfl 12 (by decide) (hts _ wd_1260) (fun _ h9 => h9) rfl dX12_lawWorth_21 ?_
  refine lv_iload_n hx hb dX12_lawWorth_24 rfl (lv_at hl 2 rfl) ?_
  obtain ⟨c3, h⟩ := f_n h
  refine va_ialdE (v := (q1.2.1 204 ((x2 : Int32).toNatClampNeg))) hx hb hK hP _ 0 (mg_204 G Z Y (sJ q1.2 213 (((105 : Int32) : Int32).toNatClampNeg) ((x4 : Int32).toInt64))) rfl c3 dX12_lawWorth_25 rfl ?_
  refine lv_i2l (v := ((q1.2.1 204 ((x2 : Int32).toNatClampNeg)) : Int32).toInt64) hx hb dX12_lawWorth_26 rfl ?_
  obtain ⟨c4, h⟩ := f_n h
  refine va_last hx hb hK hP hD hS _ 1 (mg_213 G Z Y (sJ q1.2 213 (((105 : Int32) : Int32).toNatClampNeg) ((x4 : Int32).toInt64))) rfl c4 dX12_lawWorth_27 (fun H locs hP hD hS => ?_)
  have hP := wrP (mp_213 G Z Y (sJ q1.2 213 (((105 : Int32) : Int32).toNatClampNeg) ((x4 : Int32).toInt64)) _ _) hP
  have hD := wrD (mp_213 G Z Y (sJ q1.2 213 (((105 : Int32) : Int32).toNatClampNeg) ((x4 : Int32).toInt64)) _ _) hD
  refine lv_aload_n hx hb dX12_lawWorth_28 rfl (lv_at hl 0 rfl) ?_
  refine va_get (D := D) (ci := 12) (v := .ref (G.2.1 213)) (C := RX12) (T := TX12) (N := 59) hx hb hts inU_X12 hown hK hP _ (mg_200 G Z Y (sJ (sJ q1.2 213 (((105 : Int32) : Int32).toNatClampNeg) ((x4 : Int32).toInt64)) 213 (((110 : Int32) : Int32).toNatClampNeg) (((q1.2.1 204 ((x2 : Int32).toNatClampNeg)) : Int32).toInt64))) rfl 24 (by decide) (hts _ wd_1272) (fun _ h9 => h9) rfl dX12_lawWorth_29 ?_
  refine lv_bipush (v := 112) hx hb dX12_lawWorth_32 (by decide) ?_
  refine lv_iload_n hx hb dX12_lawWorth_34 rfl (lv_at hl 3 rfl) ?_
  refine lv_i2l (v := (x3 : Int32).toInt64) hx hb dX12_lawWorth_35 rfl ?_
  obtain ⟨c5, h⟩ := f_n h
  refine va_last hx hb hK hP hD hS _ 1 (mg_213 G Z Y (sJ (sJ q1.2 213 (((105 : Int32) : Int32).toNatClampNeg) ((x4 : Int32).toInt64)) 213 (((110 : Int32) : Int32).toNatClampNeg) (((q1.2.1 204 ((x2 : Int32).toNatClampNeg)) : Int32).toInt64))) rfl c5 dX12_lawWorth_36 (fun H locs hP hD hS => ?_)
  have hP := wrP (mp_213 G Z Y (sJ (sJ q1.2 213 (((105 : Int32) : Int32).toNatClampNeg) ((x4 : Int32).toInt64)) 213 (((110 : Int32) : Int32).toNatClampNeg) (((q1.2.1 204 ((x2 : Int32).toNatClampNeg)) : Int32).toInt64)) _ _) hP
  have hD := wrD (mp_213 G Z Y (sJ (sJ q1.2 213 (((105 : Int32) : Int32).toNatClampNeg) ((x4 : Int32).toInt64)) 213 (((110 : Int32) : Int32).toNatClampNeg) (((q1.2.1 204 ((x2 : Int32).toNatClampNeg)) : Int32).toInt64)) _ _) hD
  refine lv_aload_n hx hb dX12_lawWorth_37 rfl (lv_at hl 0 rfl) ?_
  refine va_get (D := D) (ci := 12) (v := .ref (G.2.1 213)) (C := RX12) (T := TX12) (N := 59) hx hb hts inU_X12 hown hK hP _ (mg_200 G Z Y (sJ (sJ (sJ q1.2 213 (((105 : Int32) : Int32).toNatClampNeg) ((x4 : Int32).toInt64)) 213 (((110 : Int32) : Int32).toNatClampNeg) (((q1.2.1 204 ((x2 : Int32).toNatClampNeg)) : Int32).toInt64)) 213 (((112 : Int32) : Int32).toNatClampNeg) ((x3 : Int32).toInt64))) rfl 24 (by decide) (hts _ wd_1272) (fun _ h9 => h9) rfl dX12_lawWorth_38 ?_
  refine lv_bipush (v := 107) hx hb dX12_lawWorth_41 (by decide) ?_
  refine lv_iload hx hb dX12_lawWorth_43 (lv_at hl 4 rfl) ?_
  refine lv_aload_n hx hb dX12_lawWorth_45 rfl (lv_at hl 0 rfl) ?_
  refine va_get (D := D) (ci := 12) (v := .ref (G.2.1 204)) (C := RX12) (T := TX12) (N := 59) hx hb hts inU_X12 hown hK hP _ (mg_200 G Z Y (sJ (sJ (sJ q1.2 213 (((105 : Int32) : Int32).toNatClampNeg) ((x4 : Int32).toInt64)) 213 (((110 : Int32) : Int32).toNatClampNeg) (((q1.2.1 204 ((x2 : Int32).toNatClampNeg)) : Int32).toInt64)) 213 (((112 : Int32) : Int32).toNatClampNeg) ((x3 : Int32).toInt64))) rfl 12 (by decide) (hts _ wd_1260) (fun _ h9 => h9) rfl dX12_lawWorth_46 ?_
  refine lv_iload_n hx hb dX12_lawWorth_49 rfl (lv_at hl 2 rfl) ?_
  obtain ⟨c6, h⟩ := f_n h
  refine va_ialdE (v := (q1.2.1 204 ((x2 : Int32).toNatClampNeg))) hx hb hK hP _ 0 (mg_204 G Z Y (sJ (sJ (sJ q1.2 213 (((105 : Int32) : Int32).toNatClampNeg) ((x4 : Int32).toInt64)) 213 (((110 : Int32) : Int32).toNatClampNeg) (((q1.2.1 204 ((x2 : Int32).toNatClampNeg)) : Int32).toInt64)) 213 (((112 : Int32) : Int32).toNatClampNeg) ((x3 : Int32).toInt64))) rfl c6 dX12_lawWorth_50 rfl ?_
  refine lv_icmp_ge (tgt := 70) hx hb dX12_lawWorth_51 (by decide) (fun c7 => ?_) (fun c7 => ?_)
  · skip
    have h := f_t c7 h
    refine lv_lconst (v := 0) hx hb dX12_lawWorth_70 (by decide) ?_
    obtain ⟨c8, h⟩ := f_n h
    refine va_last hx hb hK hP hD hS _ 1 (mg_213 G Z Y (sJ (sJ (sJ q1.2 213 (((105 : Int32) : Int32).toNatClampNeg) ((x4 : Int32).toInt64)) 213 (((110 : Int32) : Int32).toNatClampNeg) (((q1.2.1 204 ((x2 : Int32).toNatClampNeg)) : Int32).toInt64)) 213 (((112 : Int32) : Int32).toNatClampNeg) ((x3 : Int32).toInt64))) rfl c8 dX12_lawWorth_71 (fun H locs hP hD hS => ?_)
    have hP := wrP (mp_213 G Z Y (sJ (sJ (sJ q1.2 213 (((105 : Int32) : Int32).toNatClampNeg) ((x4 : Int32).toInt64)) 213 (((110 : Int32) : Int32).toNatClampNeg) (((q1.2.1 204 ((x2 : Int32).toNatClampNeg)) : Int32).toInt64)) 213 (((112 : Int32) : Int32).toNatClampNeg) ((x3 : Int32).toInt64)) _ _) hP
    have hD := wrD (mp_213 G Z Y (sJ (sJ (sJ q1.2 213 (((105 : Int32) : Int32).toNatClampNeg) ((x4 : Int32).toInt64)) 213 (((110 : Int32) : Int32).toNatClampNeg) (((q1.2.1 204 ((x2 : Int32).toNatClampNeg)) : Int32).toInt64)) 213 (((112 : Int32) : Int32).toNatClampNeg) ((x3 : Int32).toInt64)) _ _) hD
    refine lv_aload_n hx hb dX12_lawWorth_72 rfl (lv_at hl 0 rfl) ?_
    refine lv_iload_n hx hb dX12_lawWorth_73 rfl (lv_at hl 1 rfl) ?_
    refine lv_iconst (v := 0) hx hb dX12_lawWorth_74 (by decide) ?_
    refine lv_iload hx hb dX12_lawWorth_75 (lv_at hl 5 rfl) ?_
    obtain ⟨q9, hq9, h⟩ := f_b h
    refine cl_V (w := (mW G Z Y (sJ (sJ (sJ (sJ q1.2 213 (((105 : Int32) : Int32).toNatClampNeg) ((x4 : Int32).toInt64)) 213 (((110 : Int32) : Int32).toNatClampNeg) (((q1.2.1 204 ((x2 : Int32).toNatClampNeg)) : Int32).toInt64)) 213 (((112 : Int32) : Int32).toNatClampNeg) ((x3 : Int32).toInt64)) 213 (((107 : Int32) : Int32).toNatClampNeg) (0 : Int64)))) (w' := (mW G Z Y q9.2)) (rv := some (.long q9.1)) (bytes := cX12_worthOf) (maxL := 4) (ret := (some .long)) (C := RX12) (As := [.int x1, .int (0 : Int32), .int x5]) (rest := []) (stk := [.long q9.1]) ⟨hx, hb, hml, hown, hts⟩ hK hE hA hP hD hS (c_X12_worthOf l D G Z Y (sJ (sJ (sJ (sJ q1.2 213 (((105 : Int32) : Int32).toNatClampNeg) ((x4 : Int32).toInt64)) 213 (((110 : Int32) : Int32).toNatClampNeg) (((q1.2.1 204 ((x2 : Int32).toNatClampNeg)) : Int32).toInt64)) 213 (((112 : Int32) : Int32).toNatClampNeg) ((x3 : Int32).toInt64)) 213 (((107 : Int32) : Int32).toNatClampNeg) (0 : Int64)) F x1 (0 : Int32) x5 q9 hq9) (cwV 3 hts (gwV wd_1669 wd_1671 wp_80 wd_11 wd_1672) rfl rfl rfl hd_X12_worthOf ⟨Nat.le_of_ble_eq_true rfl, Nat.le_of_ble_eq_true rfl⟩) (mg_200 G Z Y (sJ (sJ (sJ (sJ q1.2 213 (((105 : Int32) : Int32).toNatClampNeg) ((x4 : Int32).toInt64)) 213 (((110 : Int32) : Int32).toNatClampNeg) (((q1.2.1 204 ((x2 : Int32).toNatClampNeg)) : Int32).toInt64)) 213 (((112 : Int32) : Int32).toNatClampNeg) ((x3 : Int32).toInt64)) 213 (((107 : Int32) : Int32).toNatClampNeg) (0 : Int64))) rfl rfl rfl hl.1 rfl (Nat.le_of_ble_eq_true rfl) dX12_lawWorth_77 ⟨Nat.zero_le _, Nat.zero_le _⟩ rfl (fun H locs hP hD hS => ?_)
    obtain rfl := Option.some.inj h
    exact W.lret (v := q9.1) hx hb hr (q_end hK hP hD hS) hS.2.2 dX12_lawWorth_80
  · skip
    have h := f_f c7 h
    refine lv_aload_n hx hb dX12_lawWorth_54 rfl (lv_at hl 0 rfl) ?_
    refine va_get (D := D) (ci := 12) (v := .ref (G.2.1 205)) (C := RX12) (T := TX12) (N := 59) hx hb hts inU_X12 hown hK hP _ (mg_200 G Z Y (sJ (sJ (sJ q1.2 213 (((105 : Int32) : Int32).toNatClampNeg) ((x4 : Int32).toInt64)) 213 (((110 : Int32) : Int32).toNatClampNeg) (((q1.2.1 204 ((x2 : Int32).toNatClampNeg)) : Int32).toInt64)) 213 (((112 : Int32) : Int32).toNatClampNeg) ((x3 : Int32).toInt64))) rfl 13 (by decide) (hts _ wd_1261) (fun _ h9 => h9) rfl dX12_lawWorth_55 ?_
    refine lv_bipush (v := 6) hx hb dX12_lawWorth_58 (by decide) ?_
    refine lv_iload_n hx hb dX12_lawWorth_60 rfl (lv_at hl 2 rfl) ?_
    refine lv_imul hx hb dX12_lawWorth_61 ?_
    refine lv_iload hx hb dX12_lawWorth_62 (lv_at hl 4 rfl) ?_
    refine lv_iadd hx hb dX12_lawWorth_64 ?_
    obtain ⟨c10, h⟩ := f_n h
    refine va_ialdE (v := (q1.2.1 205 (((((6 : Int32) * x2) + x4) : Int32).toNatClampNeg))) hx hb hK hP _ 0 (mg_205 G Z Y (sJ (sJ (sJ q1.2 213 (((105 : Int32) : Int32).toNatClampNeg) ((x4 : Int32).toInt64)) 213 (((110 : Int32) : Int32).toNatClampNeg) (((q1.2.1 204 ((x2 : Int32).toNatClampNeg)) : Int32).toInt64)) 213 (((112 : Int32) : Int32).toNatClampNeg) ((x3 : Int32).toInt64))) rfl c10 dX12_lawWorth_65 rfl ?_
    refine lv_i2l (v := ((q1.2.1 205 (((((6 : Int32) * x2) + x4) : Int32).toNatClampNeg)) : Int32).toInt64) hx hb dX12_lawWorth_66 rfl ?_
    refine lv_goto (tgt := 71) hx hb dX12_lawWorth_67 (by decide) ?_
    obtain ⟨c11, h⟩ := f_n h
    refine va_last hx hb hK hP hD hS _ 1 (mg_213 G Z Y (sJ (sJ (sJ q1.2 213 (((105 : Int32) : Int32).toNatClampNeg) ((x4 : Int32).toInt64)) 213 (((110 : Int32) : Int32).toNatClampNeg) (((q1.2.1 204 ((x2 : Int32).toNatClampNeg)) : Int32).toInt64)) 213 (((112 : Int32) : Int32).toNatClampNeg) ((x3 : Int32).toInt64))) rfl c11 dX12_lawWorth_71 (fun H locs hP hD hS => ?_)
    have hP := wrP (mp_213 G Z Y (sJ (sJ (sJ q1.2 213 (((105 : Int32) : Int32).toNatClampNeg) ((x4 : Int32).toInt64)) 213 (((110 : Int32) : Int32).toNatClampNeg) (((q1.2.1 204 ((x2 : Int32).toNatClampNeg)) : Int32).toInt64)) 213 (((112 : Int32) : Int32).toNatClampNeg) ((x3 : Int32).toInt64)) _ _) hP
    have hD := wrD (mp_213 G Z Y (sJ (sJ (sJ q1.2 213 (((105 : Int32) : Int32).toNatClampNeg) ((x4 : Int32).toInt64)) 213 (((110 : Int32) : Int32).toNatClampNeg) (((q1.2.1 204 ((x2 : Int32).toNatClampNeg)) : Int32).toInt64)) 213 (((112 : Int32) : Int32).toNatClampNeg) ((x3 : Int32).toInt64)) _ _) hD
    refine lv_aload_n hx hb dX12_lawWorth_72 rfl (lv_at hl 0 rfl) ?_
    refine lv_iload_n hx hb dX12_lawWorth_73 rfl (lv_at hl 1 rfl) ?_
    refine lv_iconst (v := 0) hx hb dX12_lawWorth_74 (by decide) ?_
    refine lv_iload hx hb dX12_lawWorth_75 (lv_at hl 5 rfl) ?_
    obtain ⟨q12, hq12, h⟩ := f_b h
    refine cl_V (w := (mW G Z Y (sJ (sJ (sJ (sJ q1.2 213 (((105 : Int32) : Int32).toNatClampNeg) ((x4 : Int32).toInt64)) 213 (((110 : Int32) : Int32).toNatClampNeg) (((q1.2.1 204 ((x2 : Int32).toNatClampNeg)) : Int32).toInt64)) 213 (((112 : Int32) : Int32).toNatClampNeg) ((x3 : Int32).toInt64)) 213 (((107 : Int32) : Int32).toNatClampNeg) (((q1.2.1 205 (((((6 : Int32) * x2) + x4) : Int32).toNatClampNeg)) : Int32).toInt64)))) (w' := (mW G Z Y q12.2)) (rv := some (.long q12.1)) (bytes := cX12_worthOf) (maxL := 4) (ret := (some .long)) (C := RX12) (As := [.int x1, .int (0 : Int32), .int x5]) (rest := []) (stk := [.long q12.1]) ⟨hx, hb, hml, hown, hts⟩ hK hE hA hP hD hS (c_X12_worthOf l D G Z Y (sJ (sJ (sJ (sJ q1.2 213 (((105 : Int32) : Int32).toNatClampNeg) ((x4 : Int32).toInt64)) 213 (((110 : Int32) : Int32).toNatClampNeg) (((q1.2.1 204 ((x2 : Int32).toNatClampNeg)) : Int32).toInt64)) 213 (((112 : Int32) : Int32).toNatClampNeg) ((x3 : Int32).toInt64)) 213 (((107 : Int32) : Int32).toNatClampNeg) (((q1.2.1 205 (((((6 : Int32) * x2) + x4) : Int32).toNatClampNeg)) : Int32).toInt64)) F x1 (0 : Int32) x5 q12 hq12) (cwV 3 hts (gwV wd_1669 wd_1671 wp_80 wd_11 wd_1672) rfl rfl rfl hd_X12_worthOf ⟨Nat.le_of_ble_eq_true rfl, Nat.le_of_ble_eq_true rfl⟩) (mg_200 G Z Y (sJ (sJ (sJ (sJ q1.2 213 (((105 : Int32) : Int32).toNatClampNeg) ((x4 : Int32).toInt64)) 213 (((110 : Int32) : Int32).toNatClampNeg) (((q1.2.1 204 ((x2 : Int32).toNatClampNeg)) : Int32).toInt64)) 213 (((112 : Int32) : Int32).toNatClampNeg) ((x3 : Int32).toInt64)) 213 (((107 : Int32) : Int32).toNatClampNeg) (((q1.2.1 205 (((((6 : Int32) * x2) + x4) : Int32).toNatClampNeg)) : Int32).toInt64))) rfl rfl rfl hl.1 rfl (Nat.le_of_ble_eq_true rfl) dX12_lawWorth_77 ⟨Nat.zero_le _, Nat.zero_le _⟩ rfl (fun H locs hP hD hS => ?_)
    obtain rfl := Option.some.inj h
    exact W.lret (v := q12.1) hx hb hr (q_end hK hP hD hS) hS.2.2 dX12_lawWorth_80
abbrev rm_X12_asksSum : Room := { frames := 75, cells := 0, slots := 0, locals := 1865 }
set_option maxRecDepth 100000 in
set_option maxHeartbeats 8000000 in
theorem c_X12_asksSum (l : Launch) (D : va_G) (G : hG) (Z : hZ) (Y : va_W) (σ0 : hSt) (F : Nat) (x1 : Int32) (x2 : Int32) (x3 : Int32) (x4 : Int32) (res : (Int32 × hSt)) (h : f_X12_asksSum F Z σ0 x1 x2 x3 x4 = some res) : CT l yX12_asksSum cX12_asksSum 5 (some .boolean) rm_X12_asksSum D G 0 0 [.ref (G.2.1 200), .int x1, .int x2, .int x3, .int x4] (mW G Z Y σ0) (mW G Z Y res.2) (some (.int res.1)) := by
  unfold f_X12_asksSum at h
  refine CT.mk (cc := cX12_asksSum) (maxL := 5) (ret := (some .boolean)) (own := RX12) (plainFor_of_name (by decide)) rfl (Nat.le_of_ble_eq_true rfl) ?_
  intro p e s m args below meth c A ls C0 hnm hA hP hD hl
  obtain ⟨hx, hb, hr, hml, hown, hts, hlocks, hK, hE⟩ := id C0
  have hS : va_S A s.heap s.heap [] := va_S.rf
  have hl : lv_has ls 5 [(0, .ref (G.2.1 200)), (1, .int x1), (2, .int x2), (3, .int x3), (4, .int x4)] := hl
  refine lv_aload_n hx hb dX12_asksSum_0 rfl (lv_at hl 0 rfl) ?_
  refine lv_iload_n hx hb dX12_asksSum_1 rfl (lv_at hl 1 rfl) ?_
  refine lv_iload_n hx hb dX12_asksSum_2 rfl (lv_at hl 2 rfl) ?_
  refine lv_iload_n hx hb dX12_asksSum_3 rfl (lv_at hl 3 rfl) ?_
  refine lv_iload hx hb dX12_asksSum_4 (lv_at hl 4 rfl) ?_
  refine lv_bipush (v := 99) hx hb dX12_asksSum_6 (by decide) ?_
  obtain ⟨q1, hq1, h⟩ := f_b h
  refine cl_V (w := (mW G Z Y σ0)) (w' := (mW G Z Y q1.2)) (rv := some (.long q1.1)) (bytes := cX12_lawWorth) (maxL := 6) (ret := (some .long)) (C := RX12) (As := [.int x1, .int x2, .int x3, .int x4, .int (99 : Int32)]) (rest := []) (stk := [.long q1.1]) ⟨hx, hb, hml, hown, hts⟩ hK hE hA hP hD hS (c_X12_lawWorth l D G Z Y σ0 F x1 x2 x3 x4 (99 : Int32) q1 hq1) (cwV 5 hts (gwV wd_1691 wd_1693 wp_85 wd_11 wd_1694) rfl rfl rfl hd_X12_lawWorth ⟨Nat.le_of_ble_eq_true rfl, Nat.le_of_ble_eq_true rfl⟩) (mg_200 G Z Y σ0) rfl rfl rfl hl.1 rfl (Nat.le_of_ble_eq_true rfl) dX12_asksSum_8 ⟨Nat.zero_le _, Nat.zero_le _⟩ rfl (fun H locs hP hD hS => ?_)
  refine lv_lconst (v := 0) hx hb dX12_asksSum_11 (by decide) ?_
  refine W.lcmp hx hb dX12_asksSum_12 ?_
  refine lv_if_eq (tgt := 20) hx hb dX12_asksSum_13 (by decide) (fun c2 => ?_) (fun c2 => ?_)
  · skip
    have c2 := (lg_cmp_eq _ _).mp c2
    have h := f_t c2 h
    refine lv_iconst (v := 0) hx hb dX12_asksSum_20 (by decide) ?_
    obtain rfl := Option.some.inj h
    exact W.zret (v := (0 : Int32)) hx hb hr rfl (q_end hK hP hD hS) hS.2.2 dX12_asksSum_21
  · skip
    have c2 := mt (lg_cmp_eq _ _).mpr c2
    have h := f_f c2 h
    refine lv_iconst (v := 1) hx hb dX12_asksSum_16 (by decide) ?_
    refine lv_goto (tgt := 21) hx hb dX12_asksSum_17 (by decide) ?_
    obtain rfl := Option.some.inj h
    exact W.zret (v := (1 : Int32)) hx hb hr rfl (q_end hK hP hD hS) hS.2.2 dX12_asksSum_21
abbrev rm_X12_asksEnd : Room := { frames := 75, cells := 0, slots := 0, locals := 1865 }
set_option maxRecDepth 100000 in
set_option maxHeartbeats 8000000 in
theorem c_X12_asksEnd (l : Launch) (D : va_G) (G : hG) (Z : hZ) (Y : va_W) (σ0 : hSt) (F : Nat) (x1 : Int32) (x2 : Int32) (x3 : Int32) (res : (Int32 × hSt)) (h : f_X12_asksEnd F Z σ0 x1 x2 x3 = some res) : CT l yX12_asksEnd cX12_asksEnd 4 (some .boolean) rm_X12_asksEnd D G 0 0 [.ref (G.2.1 200), .int x1, .int x2, .int x3] (mW G Z Y σ0) (mW G Z Y res.2) (some (.int res.1)) := by
  unfold f_X12_asksEnd at h
  refine CT.mk (cc := cX12_asksEnd) (maxL := 4) (ret := (some .boolean)) (own := RX12) (plainFor_of_name (by decide)) rfl (Nat.le_of_ble_eq_true rfl) ?_
  intro p e s m args below meth c A ls C0 hnm hA hP hD hl
  obtain ⟨hx, hb, hr, hml, hown, hts, hlocks, hK, hE⟩ := id C0
  have hS : va_S A s.heap s.heap [] := va_S.rf
  have hl : lv_has ls 4 [(0, .ref (G.2.1 200)), (1, .int x1), (2, .int x2), (3, .int x3)] := hl
  refine lv_aload_n hx hb dX12_asksEnd_0 rfl (lv_at hl 0 rfl) ?_
  refine lv_iload_n hx hb dX12_asksEnd_1 rfl (lv_at hl 1 rfl) ?_
  refine lv_iload_n hx hb dX12_asksEnd_2 rfl (lv_at hl 2 rfl) ?_
  refine lv_iload_n hx hb dX12_asksEnd_3 rfl (lv_at hl 3 rfl) ?_
  refine lv_aload_n hx hb dX12_asksEnd_4 rfl (lv_at hl 0 rfl) ?_
  refine va_get (D := D) (ci := 12) (v := .ref (G.2.1 204)) (C := RX12) (T := TX12) (N := 59) hx hb hts inU_X12 hown hK hP _ (mg_200 G Z Y σ0) rfl 12 (by decide) (hts _ wd_1260) (fun _ h9 => h9) rfl dX12_asksEnd_5 ?_
  refine lv_iload_n hx hb dX12_asksEnd_8 rfl (lv_at hl 2 rfl) ?_
  obtain ⟨c1, h⟩ := f_n h
  refine va_ialdE (v := (σ0.1 204 ((x2 : Int32).toNatClampNeg))) hx hb hK hP _ 0 (mg_204 G Z Y σ0) rfl c1 dX12_asksEnd_9 rfl ?_
  refine lv_bipush (v := 101) hx hb dX12_asksEnd_10 (by decide) ?_
  obtain ⟨q2, hq2, h⟩ := f_b h
  refine cl_V (w := (mW G Z Y σ0)) (w' := (mW G Z Y q2.2)) (rv := some (.long q2.1)) (bytes := cX12_lawWorth) (maxL := 6) (ret := (some .long)) (C := RX12) (As := [.int x1, .int x2, .int x3, .int (σ0.1 204 ((x2 : Int32).toNatClampNeg)), .int (101 : Int32)]) (rest := []) (stk := [.long q2.1]) ⟨hx, hb, hml, hown, hts⟩ hK hE hA hP hD hS (c_X12_lawWorth l D G Z Y σ0 F x1 x2 x3 (σ0.1 204 ((x2 : Int32).toNatClampNeg)) (101 : Int32) q2 hq2) (cwV 5 hts (gwV wd_1691 wd_1693 wp_85 wd_11 wd_1694) rfl rfl rfl hd_X12_lawWorth ⟨Nat.le_of_ble_eq_true rfl, Nat.le_of_ble_eq_true rfl⟩) (mg_200 G Z Y σ0) rfl rfl rfl hl.1 rfl (Nat.le_of_ble_eq_true rfl) dX12_asksEnd_12 ⟨Nat.zero_le _, Nat.zero_le _⟩ rfl (fun H locs hP hD hS => ?_)
  refine lv_lconst (v := 0) hx hb dX12_asksEnd_15 (by decide) ?_
  refine W.lcmp hx hb dX12_asksEnd_16 ?_
  refine lv_if_eq (tgt := 24) hx hb dX12_asksEnd_17 (by decide) (fun c3 => ?_) (fun c3 => ?_)
  · skip
    have c3 := (lg_cmp_eq _ _).mp c3
    have h := f_t c3 h
    refine lv_iconst (v := 0) hx hb dX12_asksEnd_24 (by decide) ?_
    obtain rfl := Option.some.inj h
    exact W.zret (v := (0 : Int32)) hx hb hr rfl (q_end hK hP hD hS) hS.2.2 dX12_asksEnd_25
  · skip
    have c3 := mt (lg_cmp_eq _ _).mpr c3
    have h := f_f c3 h
    refine lv_iconst (v := 1) hx hb dX12_asksEnd_20 (by decide) ?_
    refine lv_goto (tgt := 25) hx hb dX12_asksEnd_21 (by decide) ?_
    obtain rfl := Option.some.inj h
    exact W.zret (v := (1 : Int32)) hx hb hr rfl (q_end hK hP hD hS) hS.2.2 dX12_asksEnd_25
abbrev rm_X12_draws : Room := { frames := 75, cells := 0, slots := 0, locals := 1865 }
set_option maxRecDepth 100000 in
set_option maxHeartbeats 8000000 in
theorem c_X12_draws (l : Launch) (D : va_G) (G : hG) (Z : hZ) (Y : va_W) (σ0 : hSt) (F : Nat) (x1 : Int32) (x2 : Int32) (x3 : Int32) (x4 : Int32) (res : (Int32 × hSt)) (h : f_X12_draws F Z σ0 x1 x2 x3 x4 = some res) : CT l yX12_draws cX12_draws 5 (some .int) rm_X12_draws D G 0 0 [.ref (G.2.1 200), .int x1, .int x2, .int x3, .int x4] (mW G Z Y σ0) (mW G Z Y res.2) (some (.int res.1)) := by
  unfold f_X12_draws at h
  refine CT.mk (cc := cX12_draws) (maxL := 5) (ret := (some .int)) (own := RX12) (plainFor_of_name (by decide)) rfl (Nat.le_of_ble_eq_true rfl) ?_
  intro p e s m args below meth c A ls C0 hnm hA hP hD hl
  obtain ⟨hx, hb, hr, hml, hown, hts, hlocks, hK, hE⟩ := id C0
  have hS : va_S A s.heap s.heap [] := va_S.rf
  have hl : lv_has ls 5 [(0, .ref (G.2.1 200)), (1, .int x1), (2, .int x2), (3, .int x3), (4, .int x4)] := hl
  refine lv_lconst (v := 1) hx hb dX12_draws_0 (by decide) ?_
  refine lv_iload_n hx hb dX12_draws_1 rfl (lv_at hl 3 rfl) ?_
  refine lv_i2l (v := (x3 : Int32).toInt64) hx hb dX12_draws_2 rfl ?_
  refine lv_aload_n hx hb dX12_draws_3 rfl (lv_at hl 0 rfl) ?_
  refine lv_iload_n hx hb dX12_draws_4 rfl (lv_at hl 1 rfl) ?_
  refine lv_iload_n hx hb dX12_draws_5 rfl (lv_at hl 2 rfl) ?_
  refine lv_iload_n hx hb dX12_draws_6 rfl (lv_at hl 3 rfl) ?_
  refine lv_iload hx hb dX12_draws_7 (lv_at hl 4 rfl) ?_
  refine lv_bipush (v := 100) hx hb dX12_draws_9 (by decide) ?_
  obtain ⟨q1, hq1, h⟩ := f_b h
  refine cl_V (w := (mW G Z Y σ0)) (w' := (mW G Z Y q1.2)) (rv := some (.long q1.1)) (bytes := cX12_lawWorth) (maxL := 6) (ret := (some .long)) (C := RX12) (As := [.int x1, .int x2, .int x3, .int x4, .int (100 : Int32)]) (rest := [.long (x3 : Int32).toInt64, .long (1 : Int64)]) (stk := [.long q1.1, .long (x3 : Int32).toInt64, .long (1 : Int64)]) ⟨hx, hb, hml, hown, hts⟩ hK hE hA hP hD hS (c_X12_lawWorth l D G Z Y σ0 F x1 x2 x3 x4 (100 : Int32) q1 hq1) (cwV 5 hts (gwV wd_1691 wd_1693 wp_85 wd_11 wd_1694) rfl rfl rfl hd_X12_lawWorth ⟨Nat.le_of_ble_eq_true rfl, Nat.le_of_ble_eq_true rfl⟩) (mg_200 G Z Y σ0) rfl rfl rfl hl.1 rfl (Nat.le_of_ble_eq_true rfl) dX12_draws_11 ⟨Nat.zero_le _, Nat.zero_le _⟩ rfl (fun H locs hP hD hS => ?_)
  refine va_mmin_long hx hb (hml.trans hl.1.symm) hown (hts _ wd_1619) (hts _ wd_848) (hts _ wd_12) (hts _ wd_849) (Nat.le_of_ble_eq_true rfl) (Nat.le_of_ble_eq_true rfl) (Nat.zero_le _) (Nat.zero_le _) dX12_draws_14 ?_
  refine va_mmax_long hx hb (hml.trans hl.1.symm) hown (hts _ wd_1620) (hts _ wd_851) (hts _ wd_12) (hts _ wd_852) (Nat.le_of_ble_eq_true rfl) (Nat.le_of_ble_eq_true rfl) (Nat.zero_le _) (Nat.zero_le _) dX12_draws_17 ?_
  refine lv_l2i (v := ((if (if q1.1 < (x3 : Int32).toInt64 then q1.1 else (x3 : Int32).toInt64) < (1 : Int64) then (1 : Int64) else (if q1.1 < (x3 : Int32).toInt64 then q1.1 else (x3 : Int32).toInt64)) : Int64).toInt32) hx hb dX12_draws_20 rfl ?_
  obtain rfl := Option.some.inj h
  exact W.iret (v := ((if (if q1.1 < (x3 : Int32).toInt64 then q1.1 else (x3 : Int32).toInt64) < (1 : Int64) then (1 : Int64) else (if q1.1 < (x3 : Int32).toInt64 then q1.1 else (x3 : Int32).toInt64)) : Int64).toInt32) hx hb hr (q_end hK hP hD hS) hS.2.2 dX12_draws_21
abbrev rm_X12_isTalk : Room := { frames := 0, cells := 0, slots := 0, locals := 0 }
set_option maxRecDepth 100000 in
set_option maxHeartbeats 8000000 in
theorem c_X12_isTalk (l : Launch) (D : va_G) (G : hG) (Z : hZ) (Y : va_W) (σ0 : hSt) (x1 : Int32) (res : Int32) (h : f_X12_isTalk Z σ0 x1 = some res) : CT l yX12_isTalk cX12_isTalk 2 (some .boolean) rm_X12_isTalk D G 0 0 [.ref (G.2.1 200), .int x1] (mW G Z Y σ0) (mW G Z Y σ0) (some (.int res)) := by
  unfold f_X12_isTalk at h
  refine CT.mk (cc := cX12_isTalk) (maxL := 2) (ret := (some .boolean)) (own := RX12) (plainFor_of_name (by decide)) rfl (Nat.le_of_ble_eq_true rfl) ?_
  intro p e s m args below meth c A ls C0 hnm hA hP hD hl
  obtain ⟨hx, hb, hr, hml, hown, hts, hlocks, hK, hE⟩ := id C0
  have hS : va_S A s.heap s.heap [] := va_S.rf
  have hl : lv_has ls 2 [(0, .ref (G.2.1 200)), (1, .int x1)] := hl
  refine lv_iload_n hx hb dX12_isTalk_0 rfl (lv_at hl 1 rfl) ?_
  refine lv_if_lt (tgt := 16) hx hb dX12_isTalk_1 (by decide) (fun c1 => ?_) (fun c1 => ?_)
  · skip
    have h := f_t c1 h
    refine lv_iconst (v := 0) hx hb dX12_isTalk_16 (by decide) ?_
    obtain rfl := Option.some.inj h
    exact W.zret (v := (0 : Int32)) hx hb hr rfl (q_end hK hP hD hS) hS.2.2 dX12_isTalk_17
  · skip
    have h := f_f c1 h
    refine lv_iload_n hx hb dX12_isTalk_4 rfl (lv_at hl 1 rfl) ?_
    refine lv_aload_n hx hb dX12_isTalk_5 rfl (lv_at hl 0 rfl) ?_
    refine va_get (D := D) (ci := 12) (v := .int (σ0.1 200 36)) (C := RX12) (T := TX12) (N := 59) hx hb hts inU_X12 hown hK hP _ (mg_200 G Z Y σ0) rfl 36 (by decide) (hts _ wd_1284) (fun _ h9 => h9) rfl dX12_isTalk_6 ?_
    refine lv_icmp_ge (tgt := 16) hx hb dX12_isTalk_9 (by decide) (fun c2 => ?_) (fun c2 => ?_)
    · skip
      have h := f_t c2 h
      refine lv_iconst (v := 0) hx hb dX12_isTalk_16 (by decide) ?_
      obtain rfl := Option.some.inj h
      exact W.zret (v := (0 : Int32)) hx hb hr rfl (q_end hK hP hD hS) hS.2.2 dX12_isTalk_17
    · skip
      have h := f_f c2 h
      refine lv_iconst (v := 1) hx hb dX12_isTalk_12 (by decide) ?_
      refine lv_goto (tgt := 17) hx hb dX12_isTalk_13 (by decide) ?_
      obtain rfl := Option.some.inj h
      exact W.zret (v := (1 : Int32)) hx hb hr rfl (q_end hK hP hD hS) hS.2.2 dX12_isTalk_17
abbrev rm_X12_talk : Room := { frames := 2, cells := 0, slots := 0, locals := 45 }
set_option maxRecDepth 100000 in
set_option maxHeartbeats 8000000 in
theorem W_X12_talk_L67 {p : Program} {e : Env} {s : State} {m : MethodId} {args : Array Value} {below : List Frame} {meth : Method} {c : Code} {A : Nat → Prop} (l : Launch) (D : va_G) (G : hG) (Z : hZ) (Y : va_W) (σ0 : hSt) (F : Nat) (x1 : Int32) (x2 : Int32) (x3 : Int32) (x4 : Int32) (σ1 : hSt) (y1 : Int32) (y2 : Int32) (y3 : Int32) (y4 : Int32) (res : (Int32 × hSt)) (C0 : Cx p s m args meth c cX12_talk (some .int) RX12 6 D G A) (hA : ∀ q : Nat, s.heap.size ≤ q → A q) (k102 : Option (Int32 × hSt)) (hk102 : k102 = some res → ∀ (H : Heap) (locs : List Loc) (ls : Array Slot), va_P D vwCl (mW G Z Y σ1) H → va_D A (mW G Z Y σ1) → va_S A s.heap H locs → lv_has ls 6 [(0, .ref (G.2.1 200)), (1, .int y1), (2, .int y2), (3, .int y3), (4, .int y4)] → W p l e rm_X12_talk s m args below meth c H locs 0 0 (MQ below (Qg (some (.int res.1)) D (tysG G) (mW G Z Y res.2) A) args s 0 0 A) (F0 m 102 ls [])) : ∀ (n : Nat) (z5 : Int32), f_X12_talk_L67 σ1 y1 y2 y3 y4 k102 n z5 = some res → ∀ (H : Heap) (locs : List Loc) (ls : Array Slot), va_P D vwCl (mW G Z Y σ1) H → va_D A (mW G Z Y σ1) → va_S A s.heap H locs → lv_has ls 6 [(0, .ref (G.2.1 200)), (1, .int y1), (2, .int y2), (3, .int y3), (4, .int y4), (5, .int z5)] → W p l e rm_X12_talk s m args below meth c H locs 0 0 (MQ below (Qg (some (.int res.1)) D (tysG G) (mW G Z Y res.2) A) args s 0 0 A) (F0 m 67 ls []) := by
  obtain ⟨hx, hb, hr, hml, hown, hts, hlocks, hK, hE⟩ := id C0
  intro n
  induction n with
  | zero =>
    intro z5 h
    cases h
  | succ n ih =>
    intro z5 h H locs ls hP hD hS hl
    rw [f_X12_talk_L67] at h
    refine lv_iload hx hb dX12_talk_67 (lv_at hl 5 rfl) ?_
    refine lv_aload_n hx hb dX12_talk_69 rfl (lv_at hl 0 rfl) ?_
    refine va_get (D := D) (ci := 12) (v := .ref (G.2.1 204)) (C := RX12) (T := TX12) (N := 59) hx hb hts inU_X12 hown hK hP _ (mg_200 G Z Y σ1) rfl 12 (by decide) (hts _ wd_1260) (fun _ h9 => h9) rfl dX12_talk_70 ?_
    refine lv_iload_n hx hb dX12_talk_73 rfl (lv_at hl 1 rfl) ?_
    obtain ⟨c10, h⟩ := f_n h
    refine va_ialdE (v := (σ1.1 204 ((y1 : Int32).toNatClampNeg))) hx hb hK hP _ 0 (mg_204 G Z Y σ1) rfl c10 dX12_talk_74 rfl ?_
    refine lv_icmp_ge (tgt := 102) hx hb dX12_talk_75 (by decide) (fun c11 => ?_) (fun c11 => ?_)
    · skip
      have h := f_t c11 h
      exact hk102 h _ _ _ hP hD hS (lv_sub hl [0, 1, 2, 3, 4] rfl)
    · skip
      have h := f_f c11 h
      refine lv_aload_n hx hb dX12_talk_78 rfl (lv_at hl 0 rfl) ?_
      refine va_get (D := D) (ci := 12) (v := .ref (G.2.1 205)) (C := RX12) (T := TX12) (N := 59) hx hb hts inU_X12 hown hK hP _ (mg_200 G Z Y σ1) rfl 13 (by decide) (hts _ wd_1261) (fun _ h9 => h9) rfl dX12_talk_79 ?_
      refine lv_bipush (v := 6) hx hb dX12_talk_82 (by decide) ?_
      refine lv_iload_n hx hb dX12_talk_84 rfl (lv_at hl 1 rfl) ?_
      refine lv_imul hx hb dX12_talk_85 ?_
      refine lv_iload hx hb dX12_talk_86 (lv_at hl 5 rfl) ?_
      refine lv_iadd hx hb dX12_talk_88 ?_
      obtain ⟨c12, h⟩ := f_n h
      refine va_ialdE (v := (σ1.1 205 (((((6 : Int32) * y1) + z5) : Int32).toNatClampNeg))) hx hb hK hP _ 0 (mg_205 G Z Y σ1) rfl c12 dX12_talk_89 rfl ?_
      refine lv_iload_n hx hb dX12_talk_90 rfl (lv_at hl 2 rfl) ?_
      refine lv_icmp_lt (tgt := 96) hx hb dX12_talk_91 (by decide) (fun c13 => ?_) (fun c13 => ?_)
      · skip
        have h := f_t c13 h
        refine lv_iinc (v := (z5 + 1)) (lv' := [(5, .int (z5 + 1)), (0, .ref (G.2.1 200)), (1, .int y1), (2, .int y2), (3, .int y3), (4, .int y4)]) hx hb dX12_talk_96 hl (k := 5) rfl rfl (by decide) rfl (fun ls hl => ?_)
        refine lv_goto (tgt := 67) hx hb dX12_talk_99 (by decide) ?_
        exact ih (z5 + 1) h _ _ _ hP hD hS (lv_sub hl [1, 2, 3, 4, 5, 0] rfl)
      · skip
        have h := f_f c13 h
        refine lv_iconst (v := (-1)) hx hb dX12_talk_94 (by decide) ?_
        obtain rfl := Option.some.inj h
        exact W.iret (v := (-1 : Int32)) hx hb hr (q_end hK hP hD hS) hS.2.2 dX12_talk_95
set_option maxRecDepth 100000 in
set_option maxHeartbeats 8000000 in
theorem c_X12_talk (l : Launch) (D : va_G) (G : hG) (Z : hZ) (Y : va_W) (σ0 : hSt) (F : Nat) (x1 : Int32) (x2 : Int32) (x3 : Int32) (x4 : Int32) (res : (Int32 × hSt)) (h : f_X12_talk F Z σ0 x1 x2 x3 x4 = some res) : CT l yX12_talk cX12_talk 6 (some .int) rm_X12_talk D G 0 0 [.ref (G.2.1 200), .int x1, .int x2, .int x3, .int x4] (mW G Z Y σ0) (mW G Z Y res.2) (some (.int res.1)) := by
  unfold f_X12_talk at h
  refine CT.mk (cc := cX12_talk) (maxL := 6) (ret := (some .int)) (own := RX12) (plainFor_of_name (by decide)) rfl (Nat.le_of_ble_eq_true rfl) ?_
  intro p e s m args below meth c A ls C0 hnm hA hP hD hl
  obtain ⟨hx, hb, hr, hml, hown, hts, hlocks, hK, hE⟩ := id C0
  have hS : va_S A s.heap s.heap [] := va_S.rf
  have hl : lv_has ls 6 [(0, .ref (G.2.1 200)), (1, .int x1), (2, .int x2), (3, .int x3), (4, .int x4)] := hl
  refine lv_aload_n hx hb dX12_talk_0 rfl (lv_at hl 0 rfl) ?_
  refine lv_iconst (v := 0) hx hb dX12_talk_1 (by decide) ?_
  refine va_put (D := D) (ci := 12) (v := .int (0 : Int32)) (ty := .int) (C := RX12) (T := TX12) (N := 59) hx hb hts inU_X12 tyX12 tyX12_ok nmX12 hown hK hP hD hS _ (mg_200 G Z Y σ0) rfl 0 (by decide) (hts _ wd_1248) (fun _ h9 => h9) rfl (by decide +kernel) rfl rfl (Nat.le_of_ble_eq_true rfl) dX12_talk_2 (fun H locs hP hD hS => ?_)
  have hP := wrP (mp_200_0 G Z Y σ0 (0 : Int32)) hP
  have hD := wrD (mp_200_0 G Z Y σ0 (0 : Int32)) hD
  refine lv_aload_n hx hb dX12_talk_5 rfl (lv_at hl 0 rfl) ?_
  refine va_get (D := D) (ci := 12) (v := .int (σ0.1 200 36)) (C := RX12) (T := TX12) (N := 59) hx hb hts inU_X12 hown hK hP _ (mg_200 G Z Y (sI σ0 200 0 (0 : Int32))) rfl 36 (by decide) (hts _ wd_1284) (fun _ h9 => h9) rfl dX12_talk_6 ?_
  refine lv_bipush (v := 12) hx hb dX12_talk_9 (by decide) ?_
  refine lv_icmp_eq (tgt := 62) hx hb dX12_talk_11 (by decide) (fun c1 => ?_) (fun c1 => ?_)
  · skip
    have h := f_t c1 h
    refine lv_iconst (v := (-1)) hx hb dX12_talk_62 (by decide) ?_
    obtain rfl := Option.some.inj h
    exact W.iret (v := (-1 : Int32)) hx hb hr (q_end hK hP hD hS) hS.2.2 dX12_talk_63
  · skip
    have h := f_f c1 h
    refine lv_aload_n hx hb dX12_talk_14 rfl (lv_at hl 0 rfl) ?_
    refine lv_iload_n hx hb dX12_talk_15 rfl (lv_at hl 1 rfl) ?_
    obtain ⟨q2, hq2, h⟩ := f_b h
    refine cl_V (w := (mW G Z Y (sI σ0 200 0 (0 : Int32)))) (w' := (mW G Z Y (sI σ0 200 0 (0 : Int32)))) (rv := some (.int q2)) (bytes := cX12_isSaying) (maxL := 2) (ret := (some .boolean)) (C := RX12) (As := [.int x1]) (rest := []) (stk := [.int q2]) ⟨hx, hb, hml, hown, hts⟩ hK hE hA hP hD hS (c_X12_isSaying l D G Z Y (sI σ0 200 0 (0 : Int32)) x1 q2 hq2) (cwV 1 hts (gwV wd_1493 wd_1495 wp_57 wd_11 wd_1496) rfl rfl rfl hd_X12_isSaying ⟨Nat.le_of_ble_eq_true rfl, Nat.le_of_ble_eq_true rfl⟩) (mg_200 G Z Y (sI σ0 200 0 (0 : Int32))) rfl rfl rfl hl.1 rfl (Nat.le_of_ble_eq_true rfl) dX12_talk_16 ⟨Nat.zero_le _, Nat.zero_le _⟩ rfl (fun H locs hP hD hS => ?_)
    refine lv_if_eq (tgt := 62) hx hb dX12_talk_19 (by decide) (fun c3 => ?_) (fun c3 => ?_)
    · skip
      have h := f_t c3 h
      refine lv_iconst (v := (-1)) hx hb dX12_talk_62 (by decide) ?_
      obtain rfl := Option.some.inj h
      exact W.iret (v := (-1 : Int32)) hx hb hr (q_end hK hP hD hS) hS.2.2 dX12_talk_63
    · skip
      have h := f_f c3 h
      refine lv_iload_n hx hb dX12_talk_22 rfl (lv_at hl 2 rfl) ?_
      obtain ⟨q4, hq4, h⟩ := f_b h
      refine cl_S (w := (mW G Z Y (sI σ0 200 0 (0 : Int32)))) (w' := (mW G Z Y (sI σ0 200 0 (0 : Int32)))) (rv := some (.int q4)) (bytes := cX12_isRing) (maxL := 1) (ret := (some .boolean)) (As := [.int x2]) (rest := []) (stk := [.int q4]) ⟨hx, hb, hml, hown, hts⟩ hK hE hA hP hD hS (c_X12_isRing l D G (mW G Z Y (sI σ0 200 0 (0 : Int32))) F x2 q4 hq4) (mkS hts wd_1546 wd_1547 wd_11 wd_1548 rfl rfl hd_X12_isRing ⟨Nat.le_of_ble_eq_true rfl, Nat.le_of_ble_eq_true rfl⟩) rfl hl.1 rfl (Nat.le_of_ble_eq_true rfl) dX12_talk_23 ⟨Nat.zero_le _, Nat.zero_le _⟩ rfl (fun H locs hP hD hS => ?_)
      refine lv_if_eq (tgt := 62) hx hb dX12_talk_26 (by decide) (fun c5 => ?_) (fun c5 => ?_)
      · skip
        have h := f_t c5 h
        refine lv_iconst (v := (-1)) hx hb dX12_talk_62 (by decide) ?_
        obtain rfl := Option.some.inj h
        exact W.iret (v := (-1 : Int32)) hx hb hr (q_end hK hP hD hS) hS.2.2 dX12_talk_63
      · skip
        have h := f_f c5 h
        refine lv_iload_n hx hb dX12_talk_29 rfl (lv_at hl 3 rfl) ?_
        refine lv_i2l (v := (x3 : Int32).toInt64) hx hb dX12_talk_30 rfl ?_
        refine lv_lconst (v := 0) hx hb dX12_talk_31 (by decide) ?_
        refine lv_aload_n hx hb dX12_talk_32 rfl (lv_at hl 0 rfl) ?_
        refine va_get (D := D) (ci := 12) (v := .int (σ0.1 200 25)) (C := RX12) (T := TX12) (N := 59) hx hb hts inU_X12 hown hK hP _ (mg_200 G Z Y (sI σ0 200 0 (0 : Int32))) rfl 25 (by decide) (hts _ wd_1273) (fun _ h9 => h9) rfl dX12_talk_33 ?_
        refine lv_iconst (v := 1) hx hb dX12_talk_36 (by decide) ?_
        refine lv_isub hx hb dX12_talk_37 ?_
        refine lv_i2l (v := (((σ0.1 200 25) - (1 : Int32)) : Int32).toInt64) hx hb dX12_talk_38 rfl ?_
        obtain ⟨q6, hq6, h⟩ := f_b h
        refine cl_S (w := (mW G Z Y (sI σ0 200 0 (0 : Int32)))) (w' := (mW G Z Y (sI σ0 200 0 (0 : Int32)))) (rv := some (.int q6)) (bytes := cX12_isIn) (maxL := 6) (ret := (some .boolean)) (As := [.long (x3 : Int32).toInt64, .long (0 : Int64), .long (((σ0.1 200 25) - (1 : Int32)) : Int32).toInt64]) (rest := []) (stk := [.int q6]) ⟨hx, hb, hml, hown, hts⟩ hK hE hA hP hD hS (c_X12_isIn l D G (mW G Z Y (sI σ0 200 0 (0 : Int32))) ((x3 : Int32).toInt64) (0 : Int64) ((((σ0.1 200 25) - (1 : Int32)) : Int32).toInt64) q6 hq6) (mkS hts wd_1498 wd_1499 wd_11 wd_1500 rfl rfl hd_X12_isIn ⟨Nat.le_of_ble_eq_true rfl, Nat.le_of_ble_eq_true rfl⟩) rfl hl.1 rfl (Nat.le_of_ble_eq_true rfl) dX12_talk_39 ⟨Nat.zero_le _, Nat.zero_le _⟩ rfl (fun H locs hP hD hS => ?_)
        refine lv_if_eq (tgt := 62) hx hb dX12_talk_42 (by decide) (fun c7 => ?_) (fun c7 => ?_)
        · skip
          have h := f_t c7 h
          refine lv_iconst (v := (-1)) hx hb dX12_talk_62 (by decide) ?_
          obtain rfl := Option.some.inj h
          exact W.iret (v := (-1 : Int32)) hx hb hr (q_end hK hP hD hS) hS.2.2 dX12_talk_63
        · skip
          have h := f_f c7 h
          refine lv_iload hx hb dX12_talk_45 (lv_at hl 4 rfl) ?_
          refine lv_i2l (v := (x4 : Int32).toInt64) hx hb dX12_talk_47 rfl ?_
          refine lv_lconst (v := 0) hx hb dX12_talk_48 (by decide) ?_
          refine lv_aload_n hx hb dX12_talk_49 rfl (lv_at hl 0 rfl) ?_
          refine va_get (D := D) (ci := 12) (v := .int (σ0.1 200 26)) (C := RX12) (T := TX12) (N := 59) hx hb hts inU_X12 hown hK hP _ (mg_200 G Z Y (sI σ0 200 0 (0 : Int32))) rfl 26 (by decide) (hts _ wd_1274) (fun _ h9 => h9) rfl dX12_talk_50 ?_
          refine lv_iconst (v := 1) hx hb dX12_talk_53 (by decide) ?_
          refine lv_isub hx hb dX12_talk_54 ?_
          refine lv_i2l (v := (((σ0.1 200 26) - (1 : Int32)) : Int32).toInt64) hx hb dX12_talk_55 rfl ?_
          obtain ⟨q8, hq8, h⟩ := f_b h
          refine cl_S (w := (mW G Z Y (sI σ0 200 0 (0 : Int32)))) (w' := (mW G Z Y (sI σ0 200 0 (0 : Int32)))) (rv := some (.int q8)) (bytes := cX12_isIn) (maxL := 6) (ret := (some .boolean)) (As := [.long (x4 : Int32).toInt64, .long (0 : Int64), .long (((σ0.1 200 26) - (1 : Int32)) : Int32).toInt64]) (rest := []) (stk := [.int q8]) ⟨hx, hb, hml, hown, hts⟩ hK hE hA hP hD hS (c_X12_isIn l D G (mW G Z Y (sI σ0 200 0 (0 : Int32))) ((x4 : Int32).toInt64) (0 : Int64) ((((σ0.1 200 26) - (1 : Int32)) : Int32).toInt64) q8 hq8) (mkS hts wd_1498 wd_1499 wd_11 wd_1500 rfl rfl hd_X12_isIn ⟨Nat.le_of_ble_eq_true rfl, Nat.le_of_ble_eq_true rfl⟩) rfl hl.1 rfl (Nat.le_of_ble_eq_true rfl) dX12_talk_56 ⟨Nat.zero_le _, Nat.zero_le _⟩ rfl (fun H locs hP hD hS => ?_)
          refine lv_if_ne (tgt := 64) hx hb dX12_talk_59 (by decide) (fun c9 => ?_) (fun c9 => ?_)
          · skip
            have h := f_f c9 h
            refine lv_iconst (v := 0) hx hb dX12_talk_64 (by decide) ?_
            refine lv_istore (lv' := [(5, .int (0 : Int32)), (0, .ref (G.2.1 200)), (1, .int x1), (2, .int x2), (3, .int x3), (4, .int x4)]) hx hb dX12_talk_65 hl (by decide) rfl (fun ls hl => ?_)
            refine W_X12_talk_L67 l D G Z Y σ0 F x1 x2 x3 x4 (sI σ0 200 0 (0 : Int32)) x1 x2 x3 x4 res C0 hA _ ?_ F (0 : Int32) h _ _ _ hP hD hS (lv_sub hl [1, 2, 3, 4, 5, 0] rfl)
            · intro  h H locs ls hP hD hS hl
              refine lv_aload_n hx hb dX12_talk_102 rfl (lv_at hl 0 rfl) ?_
              refine va_get (D := D) (ci := 12) (v := .ref (G.2.1 214)) (C := RX12) (T := TX12) (N := 59) hx hb hts inU_X12 hown hK hP _ (mg_200 G Z Y (sI σ0 200 0 (0 : Int32))) rfl 32 (by decide) (hts _ wd_1280) (fun _ h9 => h9) rfl dX12_talk_103 ?_
              refine lv_aload_n hx hb dX12_talk_106 rfl (lv_at hl 0 rfl) ?_
              refine va_get (D := D) (ci := 12) (v := .int (σ0.1 200 36)) (C := RX12) (T := TX12) (N := 59) hx hb hts inU_X12 hown hK hP _ (mg_200 G Z Y (sI σ0 200 0 (0 : Int32))) rfl 36 (by decide) (hts _ wd_1284) (fun _ h9 => h9) rfl dX12_talk_107 ?_
              refine lv_iload_n hx hb dX12_talk_110 rfl (lv_at hl 1 rfl) ?_
              obtain ⟨c14, h⟩ := f_n h
              refine va_iast hx hb hK hP hD hS _ 0 (mg_214 G Z Y (sI σ0 200 0 (0 : Int32))) rfl c14 dX12_talk_111 (fun H locs hP hD hS => ?_)
              have hP := wrP (mp_214 G Z Y (sI σ0 200 0 (0 : Int32)) _ _) hP
              have hD := wrD (mp_214 G Z Y (sI σ0 200 0 (0 : Int32)) _ _) hD
              refine lv_aload_n hx hb dX12_talk_112 rfl (lv_at hl 0 rfl) ?_
              refine va_get (D := D) (ci := 12) (v := .ref (G.2.1 215)) (C := RX12) (T := TX12) (N := 59) hx hb hts inU_X12 hown hK hP _ (mg_200 G Z Y (sI (sI σ0 200 0 (0 : Int32)) 214 (((σ0.1 200 36) : Int32).toNatClampNeg) x1)) rfl 33 (by decide) (hts _ wd_1281) (fun _ h9 => h9) rfl dX12_talk_113 ?_
              refine lv_aload_n hx hb dX12_talk_116 rfl (lv_at hl 0 rfl) ?_
              refine va_get (D := D) (ci := 12) (v := .int (σ0.1 200 36)) (C := RX12) (T := TX12) (N := 59) hx hb hts inU_X12 hown hK hP _ (mg_200 G Z Y (sI (sI σ0 200 0 (0 : Int32)) 214 (((σ0.1 200 36) : Int32).toNatClampNeg) x1)) rfl 36 (by decide) (hts _ wd_1284) (fun _ h9 => h9) rfl dX12_talk_117 ?_
              refine lv_iload_n hx hb dX12_talk_120 rfl (lv_at hl 2 rfl) ?_
              obtain ⟨c15, h⟩ := f_n h
              refine va_iast hx hb hK hP hD hS _ 0 (mg_215 G Z Y (sI (sI σ0 200 0 (0 : Int32)) 214 (((σ0.1 200 36) : Int32).toNatClampNeg) x1)) rfl c15 dX12_talk_121 (fun H locs hP hD hS => ?_)
              have hP := wrP (mp_215 G Z Y (sI (sI σ0 200 0 (0 : Int32)) 214 (((σ0.1 200 36) : Int32).toNatClampNeg) x1) _ _) hP
              have hD := wrD (mp_215 G Z Y (sI (sI σ0 200 0 (0 : Int32)) 214 (((σ0.1 200 36) : Int32).toNatClampNeg) x1) _ _) hD
              refine lv_aload_n hx hb dX12_talk_122 rfl (lv_at hl 0 rfl) ?_
              refine va_get (D := D) (ci := 12) (v := .ref (G.2.1 216)) (C := RX12) (T := TX12) (N := 59) hx hb hts inU_X12 hown hK hP _ (mg_200 G Z Y (sI (sI (sI σ0 200 0 (0 : Int32)) 214 (((σ0.1 200 36) : Int32).toNatClampNeg) x1) 215 (((σ0.1 200 36) : Int32).toNatClampNeg) x2)) rfl 34 (by decide) (hts _ wd_1282) (fun _ h9 => h9) rfl dX12_talk_123 ?_
              refine lv_aload_n hx hb dX12_talk_126 rfl (lv_at hl 0 rfl) ?_
              refine va_get (D := D) (ci := 12) (v := .int (σ0.1 200 36)) (C := RX12) (T := TX12) (N := 59) hx hb hts inU_X12 hown hK hP _ (mg_200 G Z Y (sI (sI (sI σ0 200 0 (0 : Int32)) 214 (((σ0.1 200 36) : Int32).toNatClampNeg) x1) 215 (((σ0.1 200 36) : Int32).toNatClampNeg) x2)) rfl 36 (by decide) (hts _ wd_1284) (fun _ h9 => h9) rfl dX12_talk_127 ?_
              refine lv_iload_n hx hb dX12_talk_130 rfl (lv_at hl 3 rfl) ?_
              obtain ⟨c16, h⟩ := f_n h
              refine va_iast hx hb hK hP hD hS _ 0 (mg_216 G Z Y (sI (sI (sI σ0 200 0 (0 : Int32)) 214 (((σ0.1 200 36) : Int32).toNatClampNeg) x1) 215 (((σ0.1 200 36) : Int32).toNatClampNeg) x2)) rfl c16 dX12_talk_131 (fun H locs hP hD hS => ?_)
              have hP := wrP (mp_216 G Z Y (sI (sI (sI σ0 200 0 (0 : Int32)) 214 (((σ0.1 200 36) : Int32).toNatClampNeg) x1) 215 (((σ0.1 200 36) : Int32).toNatClampNeg) x2) _ _) hP
              have hD := wrD (mp_216 G Z Y (sI (sI (sI σ0 200 0 (0 : Int32)) 214 (((σ0.1 200 36) : Int32).toNatClampNeg) x1) 215 (((σ0.1 200 36) : Int32).toNatClampNeg) x2) _ _) hD
              refine lv_aload_n hx hb dX12_talk_132 rfl (lv_at hl 0 rfl) ?_
              refine va_get (D := D) (ci := 12) (v := .ref (G.2.1 217)) (C := RX12) (T := TX12) (N := 59) hx hb hts inU_X12 hown hK hP _ (mg_200 G Z Y (sI (sI (sI (sI σ0 200 0 (0 : Int32)) 214 (((σ0.1 200 36) : Int32).toNatClampNeg) x1) 215 (((σ0.1 200 36) : Int32).toNatClampNeg) x2) 216 (((σ0.1 200 36) : Int32).toNatClampNeg) x3)) rfl 35 (by decide) (hts _ wd_1283) (fun _ h9 => h9) rfl dX12_talk_133 ?_
              refine lv_aload_n hx hb dX12_talk_136 rfl (lv_at hl 0 rfl) ?_
              refine va_get (D := D) (ci := 12) (v := .int (σ0.1 200 36)) (C := RX12) (T := TX12) (N := 59) hx hb hts inU_X12 hown hK hP _ (mg_200 G Z Y (sI (sI (sI (sI σ0 200 0 (0 : Int32)) 214 (((σ0.1 200 36) : Int32).toNatClampNeg) x1) 215 (((σ0.1 200 36) : Int32).toNatClampNeg) x2) 216 (((σ0.1 200 36) : Int32).toNatClampNeg) x3)) rfl 36 (by decide) (hts _ wd_1284) (fun _ h9 => h9) rfl dX12_talk_137 ?_
              refine lv_iload hx hb dX12_talk_140 (lv_at hl 4 rfl) ?_
              obtain ⟨c17, h⟩ := f_n h
              refine va_iast hx hb hK hP hD hS _ 0 (mg_217 G Z Y (sI (sI (sI (sI σ0 200 0 (0 : Int32)) 214 (((σ0.1 200 36) : Int32).toNatClampNeg) x1) 215 (((σ0.1 200 36) : Int32).toNatClampNeg) x2) 216 (((σ0.1 200 36) : Int32).toNatClampNeg) x3)) rfl c17 dX12_talk_142 (fun H locs hP hD hS => ?_)
              have hP := wrP (mp_217 G Z Y (sI (sI (sI (sI σ0 200 0 (0 : Int32)) 214 (((σ0.1 200 36) : Int32).toNatClampNeg) x1) 215 (((σ0.1 200 36) : Int32).toNatClampNeg) x2) 216 (((σ0.1 200 36) : Int32).toNatClampNeg) x3) _ _) hP
              have hD := wrD (mp_217 G Z Y (sI (sI (sI (sI σ0 200 0 (0 : Int32)) 214 (((σ0.1 200 36) : Int32).toNatClampNeg) x1) 215 (((σ0.1 200 36) : Int32).toNatClampNeg) x2) 216 (((σ0.1 200 36) : Int32).toNatClampNeg) x3) _ _) hD
              refine lv_aload_n hx hb dX12_talk_143 rfl (lv_at hl 0 rfl) ?_
              refine lv_dup hx hb dX12_talk_144 rfl ?_
              refine va_get (D := D) (ci := 12) (v := .int (σ0.1 200 36)) (C := RX12) (T := TX12) (N := 59) hx hb hts inU_X12 hown hK hP _ (mg_200 G Z Y (sI (sI (sI (sI (sI σ0 200 0 (0 : Int32)) 214 (((σ0.1 200 36) : Int32).toNatClampNeg) x1) 215 (((σ0.1 200 36) : Int32).toNatClampNeg) x2) 216 (((σ0.1 200 36) : Int32).toNatClampNeg) x3) 217 (((σ0.1 200 36) : Int32).toNatClampNeg) x4)) rfl 36 (by decide) (hts _ wd_1284) (fun _ h9 => h9) rfl dX12_talk_145 ?_
              refine lv_iconst (v := 1) hx hb dX12_talk_148 (by decide) ?_
              refine lv_iadd hx hb dX12_talk_149 ?_
              refine va_put (D := D) (ci := 12) (v := .int ((σ0.1 200 36) + (1 : Int32))) (ty := .int) (C := RX12) (T := TX12) (N := 59) hx hb hts inU_X12 tyX12 tyX12_ok nmX12 hown hK hP hD hS _ (mg_200 G Z Y (sI (sI (sI (sI (sI σ0 200 0 (0 : Int32)) 214 (((σ0.1 200 36) : Int32).toNatClampNeg) x1) 215 (((σ0.1 200 36) : Int32).toNatClampNeg) x2) 216 (((σ0.1 200 36) : Int32).toNatClampNeg) x3) 217 (((σ0.1 200 36) : Int32).toNatClampNeg) x4)) rfl 36 (by decide) (hts _ wd_1284) (fun _ h9 => h9) rfl (by decide +kernel) rfl rfl (Nat.le_of_ble_eq_true rfl) dX12_talk_150 (fun H locs hP hD hS => ?_)
              have hP := wrP (mp_200_36 G Z Y (sI (sI (sI (sI (sI σ0 200 0 (0 : Int32)) 214 (((σ0.1 200 36) : Int32).toNatClampNeg) x1) 215 (((σ0.1 200 36) : Int32).toNatClampNeg) x2) 216 (((σ0.1 200 36) : Int32).toNatClampNeg) x3) 217 (((σ0.1 200 36) : Int32).toNatClampNeg) x4) ((σ0.1 200 36) + (1 : Int32))) hP
              have hD := wrD (mp_200_36 G Z Y (sI (sI (sI (sI (sI σ0 200 0 (0 : Int32)) 214 (((σ0.1 200 36) : Int32).toNatClampNeg) x1) 215 (((σ0.1 200 36) : Int32).toNatClampNeg) x2) 216 (((σ0.1 200 36) : Int32).toNatClampNeg) x3) 217 (((σ0.1 200 36) : Int32).toNatClampNeg) x4) ((σ0.1 200 36) + (1 : Int32))) hD
              refine lv_aload_n hx hb dX12_talk_153 rfl (lv_at hl 0 rfl) ?_
              refine va_get (D := D) (ci := 12) (v := .int ((σ0.1 200 36) + (1 : Int32))) (C := RX12) (T := TX12) (N := 59) hx hb hts inU_X12 hown hK hP _ (mg_200 G Z Y (sI (sI (sI (sI (sI (sI σ0 200 0 (0 : Int32)) 214 (((σ0.1 200 36) : Int32).toNatClampNeg) x1) 215 (((σ0.1 200 36) : Int32).toNatClampNeg) x2) 216 (((σ0.1 200 36) : Int32).toNatClampNeg) x3) 217 (((σ0.1 200 36) : Int32).toNatClampNeg) x4) 200 36 ((σ0.1 200 36) + (1 : Int32)))) rfl 36 (by decide) (hts _ wd_1284) (fun _ h9 => h9) rfl dX12_talk_154 ?_
              refine lv_iconst (v := 1) hx hb dX12_talk_157 (by decide) ?_
              refine lv_isub hx hb dX12_talk_158 ?_
              obtain rfl := Option.some.inj h
              exact W.iret (v := (((σ0.1 200 36) + (1 : Int32)) - (1 : Int32))) hx hb hr (q_end hK hP hD hS) hS.2.2 dX12_talk_159
          · skip
            have h := f_t c9 h
            refine lv_iconst (v := (-1)) hx hb dX12_talk_62 (by decide) ?_
            obtain rfl := Option.some.inj h
            exact W.iret (v := (-1 : Int32)) hx hb hr (q_end hK hP hD hS) hS.2.2 dX12_talk_63
abbrev rm_X12_firstClaim : Room := { frames := 74, cells := 0, slots := 0, locals := 1840 }
set_option maxRecDepth 100000 in
set_option maxHeartbeats 8000000 in
theorem c_X12_firstClaim (l : Launch) (D : va_G) (G : hG) (Z : hZ) (Y : va_W) (σ0 : hSt) (F : Nat) (x1 : Int32) (x2 : Int32) (res : (Int64 × hSt)) (h : f_X12_firstClaim F Z σ0 x1 x2 = some res) : CT l yX12_firstClaim cX12_firstClaim 5 (some .long) rm_X12_firstClaim D G 0 0 [.ref (G.2.1 200), .int x1, .int x2] (mW G Z Y σ0) (mW G Z Y res.2) (some (.long res.1)) := by
  unfold f_X12_firstClaim at h
  refine CT.mk (cc := cX12_firstClaim) (maxL := 5) (ret := (some .long)) (own := RX12) (plainFor_of_name (by decide)) rfl (Nat.le_of_ble_eq_true rfl) ?_
  intro p e s m args below meth c A ls C0 hnm hA hP hD hl
  obtain ⟨hx, hb, hr, hml, hown, hts, hlocks, hK, hE⟩ := id C0
  have hS : va_S A s.heap s.heap [] := va_S.rf
  have hl : lv_has ls 5 [(0, .ref (G.2.1 200)), (1, .int x1), (2, .int x2)] := hl
  refine lv_aload_n hx hb dX12_firstClaim_0 rfl (lv_at hl 0 rfl) ?_
  refine va_get (D := D) (ci := 12) (v := .ref (G.2.1 214)) (C := RX12) (T := TX12) (N := 59) hx hb hts inU_X12 hown hK hP _ (mg_200 G Z Y σ0) rfl 32 (by decide) (hts _ wd_1280) (fun _ h9 => h9) rfl dX12_firstClaim_1 ?_
  refine lv_iload_n hx hb dX12_firstClaim_4 rfl (lv_at hl 1 rfl) ?_
  obtain ⟨c1, h⟩ := f_n h
  refine va_ialdE (v := (σ0.1 214 ((x1 : Int32).toNatClampNeg))) hx hb hK hP _ 0 (mg_214 G Z Y σ0) rfl c1 dX12_firstClaim_5 rfl ?_
  refine lv_istore_n (lv' := [(3, .int (σ0.1 214 ((x1 : Int32).toNatClampNeg))), (0, .ref (G.2.1 200)), (1, .int x1), (2, .int x2)]) hx hb dX12_firstClaim_6 rfl hl (by decide) rfl (fun ls hl => ?_)
  refine lv_aload_n hx hb dX12_firstClaim_7 rfl (lv_at hl 1 rfl) ?_
  refine va_get (D := D) (ci := 12) (v := .ref (G.2.1 215)) (C := RX12) (T := TX12) (N := 59) hx hb hts inU_X12 hown hK hP _ (mg_200 G Z Y σ0) rfl 33 (by decide) (hts _ wd_1281) (fun _ h9 => h9) rfl dX12_firstClaim_8 ?_
  refine lv_iload_n hx hb dX12_firstClaim_11 rfl (lv_at hl 2 rfl) ?_
  obtain ⟨c2, h⟩ := f_n h
  refine va_ialdE (v := (σ0.1 215 ((x1 : Int32).toNatClampNeg))) hx hb hK hP _ 0 (mg_215 G Z Y σ0) rfl c2 dX12_firstClaim_12 rfl ?_
  refine lv_istore (lv' := [(4, .int (σ0.1 215 ((x1 : Int32).toNatClampNeg))), (3, .int (σ0.1 214 ((x1 : Int32).toNatClampNeg))), (0, .ref (G.2.1 200)), (1, .int x1), (2, .int x2)]) hx hb dX12_firstClaim_13 hl (by decide) rfl (fun ls hl => ?_)
  refine lv_aload_n hx hb dX12_firstClaim_15 rfl (lv_at hl 2 rfl) ?_
  obtain ⟨q3, hq3, h⟩ := f_b h
  refine cl_V (w := (mW G Z Y σ0)) (w' := (mW G Z Y q3.2)) (rv := none) (bytes := cX12_noLetters) (maxL := 2) (ret := none) (C := RX12) (As := []) (rest := []) (stk := []) ⟨hx, hb, hml, hown, hts⟩ hK hE hA hP hD hS (c_X12_noLetters l D G Z Y σ0 F q3 hq3) (cwV 0 hts (gwV wd_1665 wd_1667 wp_79 wd_11 wd_1668) rfl rfl rfl hd_X12_noLetters ⟨Nat.le_of_ble_eq_true rfl, Nat.le_of_ble_eq_true rfl⟩) (mg_200 G Z Y σ0) rfl rfl rfl hl.1 rfl (Nat.le_of_ble_eq_true rfl) dX12_firstClaim_16 ⟨Nat.zero_le _, Nat.zero_le _⟩ rfl (fun H locs hP hD hS => ?_)
  refine lv_aload_n hx hb dX12_firstClaim_19 rfl (lv_at hl 2 rfl) ?_
  refine va_get (D := D) (ci := 12) (v := .ref (G.2.1 213)) (C := RX12) (T := TX12) (N := 59) hx hb hts inU_X12 hown hK hP _ (mg_200 G Z Y q3.2) rfl 24 (by decide) (hts _ wd_1272) (fun _ h9 => h9) rfl dX12_firstClaim_20 ?_
  refine lv_bipush (v := 116) hx hb dX12_firstClaim_23 (by decide) ?_
  refine lv_aload_n hx hb dX12_firstClaim_25 rfl (lv_at hl 2 rfl) ?_
  refine lv_iload_n hx hb dX12_firstClaim_26 rfl (lv_at hl 1 rfl) ?_
  obtain ⟨q4, hq4, h⟩ := f_b h
  refine cl_V (w := (mW G Z Y q3.2)) (w' := (mW G Z Y q4.2)) (rv := some (.int q4.1)) (bytes := cX12_countOf) (maxL := 2) (ret := (some .int)) (C := RX12) (As := [.int (σ0.1 214 ((x1 : Int32).toNatClampNeg))]) (rest := [.int (116 : Int32), .ref (G.2.1 213)]) (stk := [.int q4.1, .int (116 : Int32), .ref (G.2.1 213)]) ⟨hx, hb, hml, hown, hts⟩ hK hE hA hP hD hS (c_X12_countOf l D G Z Y q3.2 F (σ0.1 214 ((x1 : Int32).toNatClampNeg)) q4 hq4) (cwV 1 hts (gwV wd_1501 wd_1503 wp_58 wd_11 wd_1504) rfl rfl rfl hd_X12_countOf ⟨Nat.le_of_ble_eq_true rfl, Nat.le_of_ble_eq_true rfl⟩) (mg_200 G Z Y q3.2) rfl rfl rfl hl.1 rfl (Nat.le_of_ble_eq_true rfl) dX12_firstClaim_27 ⟨Nat.zero_le _, Nat.zero_le _⟩ rfl (fun H locs hP hD hS => ?_)
  refine lv_iload hx hb dX12_firstClaim_30 (lv_at hl 0 rfl) ?_
  obtain ⟨c5, h⟩ := f_n h
  refine lv_irem hx hb dX12_firstClaim_32 c5 ?_
  refine lv_i2l (v := ((q4.1 - q4.1 / (σ0.1 215 ((x1 : Int32).toNatClampNeg)) * (σ0.1 215 ((x1 : Int32).toNatClampNeg))) : Int32).toInt64) hx hb dX12_firstClaim_33 rfl ?_
  obtain ⟨c6, h⟩ := f_n h
  refine va_last hx hb hK hP hD hS _ 1 (mg_213 G Z Y q4.2) rfl c6 dX12_firstClaim_34 (fun H locs hP hD hS => ?_)
  have hP := wrP (mp_213 G Z Y q4.2 _ _) hP
  have hD := wrD (mp_213 G Z Y q4.2 _ _) hD
  refine lv_aload_n hx hb dX12_firstClaim_35 rfl (lv_at hl 2 rfl) ?_
  refine va_get (D := D) (ci := 12) (v := .ref (G.2.1 213)) (C := RX12) (T := TX12) (N := 59) hx hb hts inU_X12 hown hK hP _ (mg_200 G Z Y (sJ q4.2 213 (((116 : Int32) : Int32).toNatClampNeg) (((q4.1 - q4.1 / (σ0.1 215 ((x1 : Int32).toNatClampNeg)) * (σ0.1 215 ((x1 : Int32).toNatClampNeg))) : Int32).toInt64))) rfl 24 (by decide) (hts _ wd_1272) (fun _ h9 => h9) rfl dX12_firstClaim_36 ?_
  refine lv_bipush (v := 99) hx hb dX12_firstClaim_39 (by decide) ?_
  refine lv_aload_n hx hb dX12_firstClaim_41 rfl (lv_at hl 2 rfl) ?_
  refine va_get (D := D) (ci := 12) (v := .ref (G.2.1 213)) (C := RX12) (T := TX12) (N := 59) hx hb hts inU_X12 hown hK hP _ (mg_200 G Z Y (sJ q4.2 213 (((116 : Int32) : Int32).toNatClampNeg) (((q4.1 - q4.1 / (σ0.1 215 ((x1 : Int32).toNatClampNeg)) * (σ0.1 215 ((x1 : Int32).toNatClampNeg))) : Int32).toInt64))) rfl 24 (by decide) (hts _ wd_1272) (fun _ h9 => h9) rfl dX12_firstClaim_42 ?_
  refine lv_bipush (v := 116) hx hb dX12_firstClaim_45 (by decide) ?_
  obtain ⟨c7, h⟩ := f_n h
  refine va_laldE (v := ((sJ q4.2 213 (((116 : Int32) : Int32).toNatClampNeg) (((q4.1 - q4.1 / (σ0.1 215 ((x1 : Int32).toNatClampNeg)) * (σ0.1 215 ((x1 : Int32).toNatClampNeg))) : Int32).toInt64)).2.1 213 (((116 : Int32) : Int32).toNatClampNeg))) hx hb hK hP _ 1 (mg_213 G Z Y (sJ q4.2 213 (((116 : Int32) : Int32).toNatClampNeg) (((q4.1 - q4.1 / (σ0.1 215 ((x1 : Int32).toNatClampNeg)) * (σ0.1 215 ((x1 : Int32).toNatClampNeg))) : Int32).toInt64))) rfl c7 dX12_firstClaim_47 rfl ?_
  obtain ⟨c8, h⟩ := f_n h
  refine va_last hx hb hK hP hD hS _ 1 (mg_213 G Z Y (sJ q4.2 213 (((116 : Int32) : Int32).toNatClampNeg) (((q4.1 - q4.1 / (σ0.1 215 ((x1 : Int32).toNatClampNeg)) * (σ0.1 215 ((x1 : Int32).toNatClampNeg))) : Int32).toInt64))) rfl c8 dX12_firstClaim_48 (fun H locs hP hD hS => ?_)
  have hP := wrP (mp_213 G Z Y (sJ q4.2 213 (((116 : Int32) : Int32).toNatClampNeg) (((q4.1 - q4.1 / (σ0.1 215 ((x1 : Int32).toNatClampNeg)) * (σ0.1 215 ((x1 : Int32).toNatClampNeg))) : Int32).toInt64)) _ _) hP
  have hD := wrD (mp_213 G Z Y (sJ q4.2 213 (((116 : Int32) : Int32).toNatClampNeg) (((q4.1 - q4.1 / (σ0.1 215 ((x1 : Int32).toNatClampNeg)) * (σ0.1 215 ((x1 : Int32).toNatClampNeg))) : Int32).toInt64)) _ _) hD
  refine lv_aload_n hx hb dX12_firstClaim_49 rfl (lv_at hl 2 rfl) ?_
  refine va_get (D := D) (ci := 12) (v := .ref (G.2.1 213)) (C := RX12) (T := TX12) (N := 59) hx hb hts inU_X12 hown hK hP _ (mg_200 G Z Y (sJ (sJ q4.2 213 (((116 : Int32) : Int32).toNatClampNeg) (((q4.1 - q4.1 / (σ0.1 215 ((x1 : Int32).toNatClampNeg)) * (σ0.1 215 ((x1 : Int32).toNatClampNeg))) : Int32).toInt64)) 213 (((99 : Int32) : Int32).toNatClampNeg) ((sJ q4.2 213 (((116 : Int32) : Int32).toNatClampNeg) (((q4.1 - q4.1 / (σ0.1 215 ((x1 : Int32).toNatClampNeg)) * (σ0.1 215 ((x1 : Int32).toNatClampNeg))) : Int32).toInt64)).2.1 213 (((116 : Int32) : Int32).toNatClampNeg)))) rfl 24 (by decide) (hts _ wd_1272) (fun _ h9 => h9) rfl dX12_firstClaim_50 ?_
  refine lv_bipush (v := 119) hx hb dX12_firstClaim_53 (by decide) ?_
  refine lv_aload_n hx hb dX12_firstClaim_55 rfl (lv_at hl 2 rfl) ?_
  refine va_get (D := D) (ci := 12) (v := .ref (G.2.1 213)) (C := RX12) (T := TX12) (N := 59) hx hb hts inU_X12 hown hK hP _ (mg_200 G Z Y (sJ (sJ q4.2 213 (((116 : Int32) : Int32).toNatClampNeg) (((q4.1 - q4.1 / (σ0.1 215 ((x1 : Int32).toNatClampNeg)) * (σ0.1 215 ((x1 : Int32).toNatClampNeg))) : Int32).toInt64)) 213 (((99 : Int32) : Int32).toNatClampNeg) ((sJ q4.2 213 (((116 : Int32) : Int32).toNatClampNeg) (((q4.1 - q4.1 / (σ0.1 215 ((x1 : Int32).toNatClampNeg)) * (σ0.1 215 ((x1 : Int32).toNatClampNeg))) : Int32).toInt64)).2.1 213 (((116 : Int32) : Int32).toNatClampNeg)))) rfl 24 (by decide) (hts _ wd_1272) (fun _ h9 => h9) rfl dX12_firstClaim_56 ?_
  refine lv_bipush (v := 116) hx hb dX12_firstClaim_59 (by decide) ?_
  obtain ⟨c9, h⟩ := f_n h
  refine va_laldE (v := ((sJ (sJ q4.2 213 (((116 : Int32) : Int32).toNatClampNeg) (((q4.1 - q4.1 / (σ0.1 215 ((x1 : Int32).toNatClampNeg)) * (σ0.1 215 ((x1 : Int32).toNatClampNeg))) : Int32).toInt64)) 213 (((99 : Int32) : Int32).toNatClampNeg) ((sJ q4.2 213 (((116 : Int32) : Int32).toNatClampNeg) (((q4.1 - q4.1 / (σ0.1 215 ((x1 : Int32).toNatClampNeg)) * (σ0.1 215 ((x1 : Int32).toNatClampNeg))) : Int32).toInt64)).2.1 213 (((116 : Int32) : Int32).toNatClampNeg))).2.1 213 (((116 : Int32) : Int32).toNatClampNeg))) hx hb hK hP _ 1 (mg_213 G Z Y (sJ (sJ q4.2 213 (((116 : Int32) : Int32).toNatClampNeg) (((q4.1 - q4.1 / (σ0.1 215 ((x1 : Int32).toNatClampNeg)) * (σ0.1 215 ((x1 : Int32).toNatClampNeg))) : Int32).toInt64)) 213 (((99 : Int32) : Int32).toNatClampNeg) ((sJ q4.2 213 (((116 : Int32) : Int32).toNatClampNeg) (((q4.1 - q4.1 / (σ0.1 215 ((x1 : Int32).toNatClampNeg)) * (σ0.1 215 ((x1 : Int32).toNatClampNeg))) : Int32).toInt64)).2.1 213 (((116 : Int32) : Int32).toNatClampNeg)))) rfl c9 dX12_firstClaim_61 rfl ?_
  obtain ⟨c10, h⟩ := f_n h
  refine va_last hx hb hK hP hD hS _ 1 (mg_213 G Z Y (sJ (sJ q4.2 213 (((116 : Int32) : Int32).toNatClampNeg) (((q4.1 - q4.1 / (σ0.1 215 ((x1 : Int32).toNatClampNeg)) * (σ0.1 215 ((x1 : Int32).toNatClampNeg))) : Int32).toInt64)) 213 (((99 : Int32) : Int32).toNatClampNeg) ((sJ q4.2 213 (((116 : Int32) : Int32).toNatClampNeg) (((q4.1 - q4.1 / (σ0.1 215 ((x1 : Int32).toNatClampNeg)) * (σ0.1 215 ((x1 : Int32).toNatClampNeg))) : Int32).toInt64)).2.1 213 (((116 : Int32) : Int32).toNatClampNeg)))) rfl c10 dX12_firstClaim_62 (fun H locs hP hD hS => ?_)
  have hP := wrP (mp_213 G Z Y (sJ (sJ q4.2 213 (((116 : Int32) : Int32).toNatClampNeg) (((q4.1 - q4.1 / (σ0.1 215 ((x1 : Int32).toNatClampNeg)) * (σ0.1 215 ((x1 : Int32).toNatClampNeg))) : Int32).toInt64)) 213 (((99 : Int32) : Int32).toNatClampNeg) ((sJ q4.2 213 (((116 : Int32) : Int32).toNatClampNeg) (((q4.1 - q4.1 / (σ0.1 215 ((x1 : Int32).toNatClampNeg)) * (σ0.1 215 ((x1 : Int32).toNatClampNeg))) : Int32).toInt64)).2.1 213 (((116 : Int32) : Int32).toNatClampNeg))) _ _) hP
  have hD := wrD (mp_213 G Z Y (sJ (sJ q4.2 213 (((116 : Int32) : Int32).toNatClampNeg) (((q4.1 - q4.1 / (σ0.1 215 ((x1 : Int32).toNatClampNeg)) * (σ0.1 215 ((x1 : Int32).toNatClampNeg))) : Int32).toInt64)) 213 (((99 : Int32) : Int32).toNatClampNeg) ((sJ q4.2 213 (((116 : Int32) : Int32).toNatClampNeg) (((q4.1 - q4.1 / (σ0.1 215 ((x1 : Int32).toNatClampNeg)) * (σ0.1 215 ((x1 : Int32).toNatClampNeg))) : Int32).toInt64)).2.1 213 (((116 : Int32) : Int32).toNatClampNeg))) _ _) hD
  refine lv_aload_n hx hb dX12_firstClaim_63 rfl (lv_at hl 2 rfl) ?_
  refine va_get (D := D) (ci := 12) (v := .ref (G.2.1 213)) (C := RX12) (T := TX12) (N := 59) hx hb hts inU_X12 hown hK hP _ (mg_200 G Z Y (sJ (sJ (sJ q4.2 213 (((116 : Int32) : Int32).toNatClampNeg) (((q4.1 - q4.1 / (σ0.1 215 ((x1 : Int32).toNatClampNeg)) * (σ0.1 215 ((x1 : Int32).toNatClampNeg))) : Int32).toInt64)) 213 (((99 : Int32) : Int32).toNatClampNeg) ((sJ q4.2 213 (((116 : Int32) : Int32).toNatClampNeg) (((q4.1 - q4.1 / (σ0.1 215 ((x1 : Int32).toNatClampNeg)) * (σ0.1 215 ((x1 : Int32).toNatClampNeg))) : Int32).toInt64)).2.1 213 (((116 : Int32) : Int32).toNatClampNeg))) 213 (((119 : Int32) : Int32).toNatClampNeg) ((sJ (sJ q4.2 213 (((116 : Int32) : Int32).toNatClampNeg) (((q4.1 - q4.1 / (σ0.1 215 ((x1 : Int32).toNatClampNeg)) * (σ0.1 215 ((x1 : Int32).toNatClampNeg))) : Int32).toInt64)) 213 (((99 : Int32) : Int32).toNatClampNeg) ((sJ q4.2 213 (((116 : Int32) : Int32).toNatClampNeg) (((q4.1 - q4.1 / (σ0.1 215 ((x1 : Int32).toNatClampNeg)) * (σ0.1 215 ((x1 : Int32).toNatClampNeg))) : Int32).toInt64)).2.1 213 (((116 : Int32) : Int32).toNatClampNeg))).2.1 213 (((116 : Int32) : Int32).toNatClampNeg)))) rfl 24 (by decide) (hts _ wd_1272) (fun _ h9 => h9) rfl dX12_firstClaim_64 ?_
  refine lv_bipush (v := 110) hx hb dX12_firstClaim_67 (by decide) ?_
  refine lv_aload_n hx hb dX12_firstClaim_69 rfl (lv_at hl 2 rfl) ?_
  refine va_get (D := D) (ci := 12) (v := .ref (G.2.1 204)) (C := RX12) (T := TX12) (N := 59) hx hb hts inU_X12 hown hK hP _ (mg_200 G Z Y (sJ (sJ (sJ q4.2 213 (((116 : Int32) : Int32).toNatClampNeg) (((q4.1 - q4.1 / (σ0.1 215 ((x1 : Int32).toNatClampNeg)) * (σ0.1 215 ((x1 : Int32).toNatClampNeg))) : Int32).toInt64)) 213 (((99 : Int32) : Int32).toNatClampNeg) ((sJ q4.2 213 (((116 : Int32) : Int32).toNatClampNeg) (((q4.1 - q4.1 / (σ0.1 215 ((x1 : Int32).toNatClampNeg)) * (σ0.1 215 ((x1 : Int32).toNatClampNeg))) : Int32).toInt64)).2.1 213 (((116 : Int32) : Int32).toNatClampNeg))) 213 (((119 : Int32) : Int32).toNatClampNeg) ((sJ (sJ q4.2 213 (((116 : Int32) : Int32).toNatClampNeg) (((q4.1 - q4.1 / (σ0.1 215 ((x1 : Int32).toNatClampNeg)) * (σ0.1 215 ((x1 : Int32).toNatClampNeg))) : Int32).toInt64)) 213 (((99 : Int32) : Int32).toNatClampNeg) ((sJ q4.2 213 (((116 : Int32) : Int32).toNatClampNeg) (((q4.1 - q4.1 / (σ0.1 215 ((x1 : Int32).toNatClampNeg)) * (σ0.1 215 ((x1 : Int32).toNatClampNeg))) : Int32).toInt64)).2.1 213 (((116 : Int32) : Int32).toNatClampNeg))).2.1 213 (((116 : Int32) : Int32).toNatClampNeg)))) rfl 12 (by decide) (hts _ wd_1260) (fun _ h9 => h9) rfl dX12_firstClaim_70 ?_
  refine lv_iload_n hx hb dX12_firstClaim_73 rfl (lv_at hl 1 rfl) ?_
  obtain ⟨c11, h⟩ := f_n h
  refine va_ialdE (v := (q4.2.1 204 (((σ0.1 214 ((x1 : Int32).toNatClampNeg)) : Int32).toNatClampNeg))) hx hb hK hP _ 0 (mg_204 G Z Y (sJ (sJ (sJ q4.2 213 (((116 : Int32) : Int32).toNatClampNeg) (((q4.1 - q4.1 / (σ0.1 215 ((x1 : Int32).toNatClampNeg)) * (σ0.1 215 ((x1 : Int32).toNatClampNeg))) : Int32).toInt64)) 213 (((99 : Int32) : Int32).toNatClampNeg) ((sJ q4.2 213 (((116 : Int32) : Int32).toNatClampNeg) (((q4.1 - q4.1 / (σ0.1 215 ((x1 : Int32).toNatClampNeg)) * (σ0.1 215 ((x1 : Int32).toNatClampNeg))) : Int32).toInt64)).2.1 213 (((116 : Int32) : Int32).toNatClampNeg))) 213 (((119 : Int32) : Int32).toNatClampNeg) ((sJ (sJ q4.2 213 (((116 : Int32) : Int32).toNatClampNeg) (((q4.1 - q4.1 / (σ0.1 215 ((x1 : Int32).toNatClampNeg)) * (σ0.1 215 ((x1 : Int32).toNatClampNeg))) : Int32).toInt64)) 213 (((99 : Int32) : Int32).toNatClampNeg) ((sJ q4.2 213 (((116 : Int32) : Int32).toNatClampNeg) (((q4.1 - q4.1 / (σ0.1 215 ((x1 : Int32).toNatClampNeg)) * (σ0.1 215 ((x1 : Int32).toNatClampNeg))) : Int32).toInt64)).2.1 213 (((116 : Int32) : Int32).toNatClampNeg))).2.1 213 (((116 : Int32) : Int32).toNatClampNeg)))) rfl c11 dX12_firstClaim_74 rfl ?_
  refine lv_i2l (v := ((q4.2.1 204 (((σ0.1 214 ((x1 : Int32).toNatClampNeg)) : Int32).toNatClampNeg)) : Int32).toInt64) hx hb dX12_firstClaim_75 rfl ?_
  obtain ⟨c12, h⟩ := f_n h
  refine va_last hx hb hK hP hD hS _ 1 (mg_213 G Z Y (sJ (sJ (sJ q4.2 213 (((116 : Int32) : Int32).toNatClampNeg) (((q4.1 - q4.1 / (σ0.1 215 ((x1 : Int32).toNatClampNeg)) * (σ0.1 215 ((x1 : Int32).toNatClampNeg))) : Int32).toInt64)) 213 (((99 : Int32) : Int32).toNatClampNeg) ((sJ q4.2 213 (((116 : Int32) : Int32).toNatClampNeg) (((q4.1 - q4.1 / (σ0.1 215 ((x1 : Int32).toNatClampNeg)) * (σ0.1 215 ((x1 : Int32).toNatClampNeg))) : Int32).toInt64)).2.1 213 (((116 : Int32) : Int32).toNatClampNeg))) 213 (((119 : Int32) : Int32).toNatClampNeg) ((sJ (sJ q4.2 213 (((116 : Int32) : Int32).toNatClampNeg) (((q4.1 - q4.1 / (σ0.1 215 ((x1 : Int32).toNatClampNeg)) * (σ0.1 215 ((x1 : Int32).toNatClampNeg))) : Int32).toInt64)) 213 (((99 : Int32) : Int32).toNatClampNeg) ((sJ q4.2 213 (((116 : Int32) : Int32).toNatClampNeg) (((q4.1 - q4.1 / (σ0.1 215 ((x1 : Int32).toNatClampNeg)) * (σ0.1 215 ((x1 : Int32).toNatClampNeg))) : Int32).toInt64)).2.1 213 (((116 : Int32) : Int32).toNatClampNeg))).2.1 213 (((116 : Int32) : Int32).toNatClampNeg)))) rfl c12 dX12_firstClaim_76 (fun H locs hP hD hS => ?_)
  have hP := wrP (mp_213 G Z Y (sJ (sJ (sJ q4.2 213 (((116 : Int32) : Int32).toNatClampNeg) (((q4.1 - q4.1 / (σ0.1 215 ((x1 : Int32).toNatClampNeg)) * (σ0.1 215 ((x1 : Int32).toNatClampNeg))) : Int32).toInt64)) 213 (((99 : Int32) : Int32).toNatClampNeg) ((sJ q4.2 213 (((116 : Int32) : Int32).toNatClampNeg) (((q4.1 - q4.1 / (σ0.1 215 ((x1 : Int32).toNatClampNeg)) * (σ0.1 215 ((x1 : Int32).toNatClampNeg))) : Int32).toInt64)).2.1 213 (((116 : Int32) : Int32).toNatClampNeg))) 213 (((119 : Int32) : Int32).toNatClampNeg) ((sJ (sJ q4.2 213 (((116 : Int32) : Int32).toNatClampNeg) (((q4.1 - q4.1 / (σ0.1 215 ((x1 : Int32).toNatClampNeg)) * (σ0.1 215 ((x1 : Int32).toNatClampNeg))) : Int32).toInt64)) 213 (((99 : Int32) : Int32).toNatClampNeg) ((sJ q4.2 213 (((116 : Int32) : Int32).toNatClampNeg) (((q4.1 - q4.1 / (σ0.1 215 ((x1 : Int32).toNatClampNeg)) * (σ0.1 215 ((x1 : Int32).toNatClampNeg))) : Int32).toInt64)).2.1 213 (((116 : Int32) : Int32).toNatClampNeg))).2.1 213 (((116 : Int32) : Int32).toNatClampNeg))) _ _) hP
  have hD := wrD (mp_213 G Z Y (sJ (sJ (sJ q4.2 213 (((116 : Int32) : Int32).toNatClampNeg) (((q4.1 - q4.1 / (σ0.1 215 ((x1 : Int32).toNatClampNeg)) * (σ0.1 215 ((x1 : Int32).toNatClampNeg))) : Int32).toInt64)) 213 (((99 : Int32) : Int32).toNatClampNeg) ((sJ q4.2 213 (((116 : Int32) : Int32).toNatClampNeg) (((q4.1 - q4.1 / (σ0.1 215 ((x1 : Int32).toNatClampNeg)) * (σ0.1 215 ((x1 : Int32).toNatClampNeg))) : Int32).toInt64)).2.1 213 (((116 : Int32) : Int32).toNatClampNeg))) 213 (((119 : Int32) : Int32).toNatClampNeg) ((sJ (sJ q4.2 213 (((116 : Int32) : Int32).toNatClampNeg) (((q4.1 - q4.1 / (σ0.1 215 ((x1 : Int32).toNatClampNeg)) * (σ0.1 215 ((x1 : Int32).toNatClampNeg))) : Int32).toInt64)) 213 (((99 : Int32) : Int32).toNatClampNeg) ((sJ q4.2 213 (((116 : Int32) : Int32).toNatClampNeg) (((q4.1 - q4.1 / (σ0.1 215 ((x1 : Int32).toNatClampNeg)) * (σ0.1 215 ((x1 : Int32).toNatClampNeg))) : Int32).toInt64)).2.1 213 (((116 : Int32) : Int32).toNatClampNeg))).2.1 213 (((116 : Int32) : Int32).toNatClampNeg))) _ _) hD
  refine lv_aload_n hx hb dX12_firstClaim_77 rfl (lv_at hl 2 rfl) ?_
  refine va_get (D := D) (ci := 12) (v := .ref (G.2.1 213)) (C := RX12) (T := TX12) (N := 59) hx hb hts inU_X12 hown hK hP _ (mg_200 G Z Y (sJ (sJ (sJ (sJ q4.2 213 (((116 : Int32) : Int32).toNatClampNeg) (((q4.1 - q4.1 / (σ0.1 215 ((x1 : Int32).toNatClampNeg)) * (σ0.1 215 ((x1 : Int32).toNatClampNeg))) : Int32).toInt64)) 213 (((99 : Int32) : Int32).toNatClampNeg) ((sJ q4.2 213 (((116 : Int32) : Int32).toNatClampNeg) (((q4.1 - q4.1 / (σ0.1 215 ((x1 : Int32).toNatClampNeg)) * (σ0.1 215 ((x1 : Int32).toNatClampNeg))) : Int32).toInt64)).2.1 213 (((116 : Int32) : Int32).toNatClampNeg))) 213 (((119 : Int32) : Int32).toNatClampNeg) ((sJ (sJ q4.2 213 (((116 : Int32) : Int32).toNatClampNeg) (((q4.1 - q4.1 / (σ0.1 215 ((x1 : Int32).toNatClampNeg)) * (σ0.1 215 ((x1 : Int32).toNatClampNeg))) : Int32).toInt64)) 213 (((99 : Int32) : Int32).toNatClampNeg) ((sJ q4.2 213 (((116 : Int32) : Int32).toNatClampNeg) (((q4.1 - q4.1 / (σ0.1 215 ((x1 : Int32).toNatClampNeg)) * (σ0.1 215 ((x1 : Int32).toNatClampNeg))) : Int32).toInt64)).2.1 213 (((116 : Int32) : Int32).toNatClampNeg))).2.1 213 (((116 : Int32) : Int32).toNatClampNeg))) 213 (((110 : Int32) : Int32).toNatClampNeg) (((q4.2.1 204 (((σ0.1 214 ((x1 : Int32).toNatClampNeg)) : Int32).toNatClampNeg)) : Int32).toInt64))) rfl 24 (by decide) (hts _ wd_1272) (fun _ h9 => h9) rfl dX12_firstClaim_78 ?_
  refine lv_bipush (v := 112) hx hb dX12_firstClaim_81 (by decide) ?_
  refine lv_iload hx hb dX12_firstClaim_83 (lv_at hl 0 rfl) ?_
  refine lv_i2l (v := ((σ0.1 215 ((x1 : Int32).toNatClampNeg)) : Int32).toInt64) hx hb dX12_firstClaim_85 rfl ?_
  obtain ⟨c13, h⟩ := f_n h
  refine va_last hx hb hK hP hD hS _ 1 (mg_213 G Z Y (sJ (sJ (sJ (sJ q4.2 213 (((116 : Int32) : Int32).toNatClampNeg) (((q4.1 - q4.1 / (σ0.1 215 ((x1 : Int32).toNatClampNeg)) * (σ0.1 215 ((x1 : Int32).toNatClampNeg))) : Int32).toInt64)) 213 (((99 : Int32) : Int32).toNatClampNeg) ((sJ q4.2 213 (((116 : Int32) : Int32).toNatClampNeg) (((q4.1 - q4.1 / (σ0.1 215 ((x1 : Int32).toNatClampNeg)) * (σ0.1 215 ((x1 : Int32).toNatClampNeg))) : Int32).toInt64)).2.1 213 (((116 : Int32) : Int32).toNatClampNeg))) 213 (((119 : Int32) : Int32).toNatClampNeg) ((sJ (sJ q4.2 213 (((116 : Int32) : Int32).toNatClampNeg) (((q4.1 - q4.1 / (σ0.1 215 ((x1 : Int32).toNatClampNeg)) * (σ0.1 215 ((x1 : Int32).toNatClampNeg))) : Int32).toInt64)) 213 (((99 : Int32) : Int32).toNatClampNeg) ((sJ q4.2 213 (((116 : Int32) : Int32).toNatClampNeg) (((q4.1 - q4.1 / (σ0.1 215 ((x1 : Int32).toNatClampNeg)) * (σ0.1 215 ((x1 : Int32).toNatClampNeg))) : Int32).toInt64)).2.1 213 (((116 : Int32) : Int32).toNatClampNeg))).2.1 213 (((116 : Int32) : Int32).toNatClampNeg))) 213 (((110 : Int32) : Int32).toNatClampNeg) (((q4.2.1 204 (((σ0.1 214 ((x1 : Int32).toNatClampNeg)) : Int32).toNatClampNeg)) : Int32).toInt64))) rfl c13 dX12_firstClaim_86 (fun H locs hP hD hS => ?_)
  have hP := wrP (mp_213 G Z Y (sJ (sJ (sJ (sJ q4.2 213 (((116 : Int32) : Int32).toNatClampNeg) (((q4.1 - q4.1 / (σ0.1 215 ((x1 : Int32).toNatClampNeg)) * (σ0.1 215 ((x1 : Int32).toNatClampNeg))) : Int32).toInt64)) 213 (((99 : Int32) : Int32).toNatClampNeg) ((sJ q4.2 213 (((116 : Int32) : Int32).toNatClampNeg) (((q4.1 - q4.1 / (σ0.1 215 ((x1 : Int32).toNatClampNeg)) * (σ0.1 215 ((x1 : Int32).toNatClampNeg))) : Int32).toInt64)).2.1 213 (((116 : Int32) : Int32).toNatClampNeg))) 213 (((119 : Int32) : Int32).toNatClampNeg) ((sJ (sJ q4.2 213 (((116 : Int32) : Int32).toNatClampNeg) (((q4.1 - q4.1 / (σ0.1 215 ((x1 : Int32).toNatClampNeg)) * (σ0.1 215 ((x1 : Int32).toNatClampNeg))) : Int32).toInt64)) 213 (((99 : Int32) : Int32).toNatClampNeg) ((sJ q4.2 213 (((116 : Int32) : Int32).toNatClampNeg) (((q4.1 - q4.1 / (σ0.1 215 ((x1 : Int32).toNatClampNeg)) * (σ0.1 215 ((x1 : Int32).toNatClampNeg))) : Int32).toInt64)).2.1 213 (((116 : Int32) : Int32).toNatClampNeg))).2.1 213 (((116 : Int32) : Int32).toNatClampNeg))) 213 (((110 : Int32) : Int32).toNatClampNeg) (((q4.2.1 204 (((σ0.1 214 ((x1 : Int32).toNatClampNeg)) : Int32).toNatClampNeg)) : Int32).toInt64)) _ _) hP
  have hD := wrD (mp_213 G Z Y (sJ (sJ (sJ (sJ q4.2 213 (((116 : Int32) : Int32).toNatClampNeg) (((q4.1 - q4.1 / (σ0.1 215 ((x1 : Int32).toNatClampNeg)) * (σ0.1 215 ((x1 : Int32).toNatClampNeg))) : Int32).toInt64)) 213 (((99 : Int32) : Int32).toNatClampNeg) ((sJ q4.2 213 (((116 : Int32) : Int32).toNatClampNeg) (((q4.1 - q4.1 / (σ0.1 215 ((x1 : Int32).toNatClampNeg)) * (σ0.1 215 ((x1 : Int32).toNatClampNeg))) : Int32).toInt64)).2.1 213 (((116 : Int32) : Int32).toNatClampNeg))) 213 (((119 : Int32) : Int32).toNatClampNeg) ((sJ (sJ q4.2 213 (((116 : Int32) : Int32).toNatClampNeg) (((q4.1 - q4.1 / (σ0.1 215 ((x1 : Int32).toNatClampNeg)) * (σ0.1 215 ((x1 : Int32).toNatClampNeg))) : Int32).toInt64)) 213 (((99 : Int32) : Int32).toNatClampNeg) ((sJ q4.2 213 (((116 : Int32) : Int32).toNatClampNeg) (((q4.1 - q4.1 / (σ0.1 215 ((x1 : Int32).toNatClampNeg)) * (σ0.1 215 ((x1 : Int32).toNatClampNeg))) : Int32).toInt64)).2.1 213 (((116 : Int32) : Int32).toNatClampNeg))).2.1 213 (((116 : Int32) : Int32).toNatClampNeg))) 213 (((110 : Int32) : Int32).toNatClampNeg) (((q4.2.1 204 (((σ0.1 214 ((x1 : Int32).toNatClampNeg)) : Int32).toNatClampNeg)) : Int32).toInt64)) _ _) hD
  refine lv_aload_n hx hb dX12_firstClaim_87 rfl (lv_at hl 2 rfl) ?_
  refine va_get (D := D) (ci := 12) (v := .ref (G.2.1 213)) (C := RX12) (T := TX12) (N := 59) hx hb hts inU_X12 hown hK hP _ (mg_200 G Z Y (sJ (sJ (sJ (sJ (sJ q4.2 213 (((116 : Int32) : Int32).toNatClampNeg) (((q4.1 - q4.1 / (σ0.1 215 ((x1 : Int32).toNatClampNeg)) * (σ0.1 215 ((x1 : Int32).toNatClampNeg))) : Int32).toInt64)) 213 (((99 : Int32) : Int32).toNatClampNeg) ((sJ q4.2 213 (((116 : Int32) : Int32).toNatClampNeg) (((q4.1 - q4.1 / (σ0.1 215 ((x1 : Int32).toNatClampNeg)) * (σ0.1 215 ((x1 : Int32).toNatClampNeg))) : Int32).toInt64)).2.1 213 (((116 : Int32) : Int32).toNatClampNeg))) 213 (((119 : Int32) : Int32).toNatClampNeg) ((sJ (sJ q4.2 213 (((116 : Int32) : Int32).toNatClampNeg) (((q4.1 - q4.1 / (σ0.1 215 ((x1 : Int32).toNatClampNeg)) * (σ0.1 215 ((x1 : Int32).toNatClampNeg))) : Int32).toInt64)) 213 (((99 : Int32) : Int32).toNatClampNeg) ((sJ q4.2 213 (((116 : Int32) : Int32).toNatClampNeg) (((q4.1 - q4.1 / (σ0.1 215 ((x1 : Int32).toNatClampNeg)) * (σ0.1 215 ((x1 : Int32).toNatClampNeg))) : Int32).toInt64)).2.1 213 (((116 : Int32) : Int32).toNatClampNeg))).2.1 213 (((116 : Int32) : Int32).toNatClampNeg))) 213 (((110 : Int32) : Int32).toNatClampNeg) (((q4.2.1 204 (((σ0.1 214 ((x1 : Int32).toNatClampNeg)) : Int32).toNatClampNeg)) : Int32).toInt64)) 213 (((112 : Int32) : Int32).toNatClampNeg) (((σ0.1 215 ((x1 : Int32).toNatClampNeg)) : Int32).toInt64))) rfl 24 (by decide) (hts _ wd_1272) (fun _ h9 => h9) rfl dX12_firstClaim_88 ?_
  refine lv_bipush (v := 121) hx hb dX12_firstClaim_91 (by decide) ?_
  refine lv_iload_n hx hb dX12_firstClaim_93 rfl (lv_at hl 4 rfl) ?_
  refine lv_i2l (v := (x2 : Int32).toInt64) hx hb dX12_firstClaim_94 rfl ?_
  obtain ⟨c14, h⟩ := f_n h
  refine va_last hx hb hK hP hD hS _ 1 (mg_213 G Z Y (sJ (sJ (sJ (sJ (sJ q4.2 213 (((116 : Int32) : Int32).toNatClampNeg) (((q4.1 - q4.1 / (σ0.1 215 ((x1 : Int32).toNatClampNeg)) * (σ0.1 215 ((x1 : Int32).toNatClampNeg))) : Int32).toInt64)) 213 (((99 : Int32) : Int32).toNatClampNeg) ((sJ q4.2 213 (((116 : Int32) : Int32).toNatClampNeg) (((q4.1 - q4.1 / (σ0.1 215 ((x1 : Int32).toNatClampNeg)) * (σ0.1 215 ((x1 : Int32).toNatClampNeg))) : Int32).toInt64)).2.1 213 (((116 : Int32) : Int32).toNatClampNeg))) 213 (((119 : Int32) : Int32).toNatClampNeg) ((sJ (sJ q4.2 213 (((116 : Int32) : Int32).toNatClampNeg) (((q4.1 - q4.1 / (σ0.1 215 ((x1 : Int32).toNatClampNeg)) * (σ0.1 215 ((x1 : Int32).toNatClampNeg))) : Int32).toInt64)) 213 (((99 : Int32) : Int32).toNatClampNeg) ((sJ q4.2 213 (((116 : Int32) : Int32).toNatClampNeg) (((q4.1 - q4.1 / (σ0.1 215 ((x1 : Int32).toNatClampNeg)) * (σ0.1 215 ((x1 : Int32).toNatClampNeg))) : Int32).toInt64)).2.1 213 (((116 : Int32) : Int32).toNatClampNeg))).2.1 213 (((116 : Int32) : Int32).toNatClampNeg))) 213 (((110 : Int32) : Int32).toNatClampNeg) (((q4.2.1 204 (((σ0.1 214 ((x1 : Int32).toNatClampNeg)) : Int32).toNatClampNeg)) : Int32).toInt64)) 213 (((112 : Int32) : Int32).toNatClampNeg) (((σ0.1 215 ((x1 : Int32).toNatClampNeg)) : Int32).toInt64))) rfl c14 dX12_firstClaim_95 (fun H locs hP hD hS => ?_)
  have hP := wrP (mp_213 G Z Y (sJ (sJ (sJ (sJ (sJ q4.2 213 (((116 : Int32) : Int32).toNatClampNeg) (((q4.1 - q4.1 / (σ0.1 215 ((x1 : Int32).toNatClampNeg)) * (σ0.1 215 ((x1 : Int32).toNatClampNeg))) : Int32).toInt64)) 213 (((99 : Int32) : Int32).toNatClampNeg) ((sJ q4.2 213 (((116 : Int32) : Int32).toNatClampNeg) (((q4.1 - q4.1 / (σ0.1 215 ((x1 : Int32).toNatClampNeg)) * (σ0.1 215 ((x1 : Int32).toNatClampNeg))) : Int32).toInt64)).2.1 213 (((116 : Int32) : Int32).toNatClampNeg))) 213 (((119 : Int32) : Int32).toNatClampNeg) ((sJ (sJ q4.2 213 (((116 : Int32) : Int32).toNatClampNeg) (((q4.1 - q4.1 / (σ0.1 215 ((x1 : Int32).toNatClampNeg)) * (σ0.1 215 ((x1 : Int32).toNatClampNeg))) : Int32).toInt64)) 213 (((99 : Int32) : Int32).toNatClampNeg) ((sJ q4.2 213 (((116 : Int32) : Int32).toNatClampNeg) (((q4.1 - q4.1 / (σ0.1 215 ((x1 : Int32).toNatClampNeg)) * (σ0.1 215 ((x1 : Int32).toNatClampNeg))) : Int32).toInt64)).2.1 213 (((116 : Int32) : Int32).toNatClampNeg))).2.1 213 (((116 : Int32) : Int32).toNatClampNeg))) 213 (((110 : Int32) : Int32).toNatClampNeg) (((q4.2.1 204 (((σ0.1 214 ((x1 : Int32).toNatClampNeg)) : Int32).toNatClampNeg)) : Int32).toInt64)) 213 (((112 : Int32) : Int32).toNatClampNeg) (((σ0.1 215 ((x1 : Int32).toNatClampNeg)) : Int32).toInt64)) _ _) hP
  have hD := wrD (mp_213 G Z Y (sJ (sJ (sJ (sJ (sJ q4.2 213 (((116 : Int32) : Int32).toNatClampNeg) (((q4.1 - q4.1 / (σ0.1 215 ((x1 : Int32).toNatClampNeg)) * (σ0.1 215 ((x1 : Int32).toNatClampNeg))) : Int32).toInt64)) 213 (((99 : Int32) : Int32).toNatClampNeg) ((sJ q4.2 213 (((116 : Int32) : Int32).toNatClampNeg) (((q4.1 - q4.1 / (σ0.1 215 ((x1 : Int32).toNatClampNeg)) * (σ0.1 215 ((x1 : Int32).toNatClampNeg))) : Int32).toInt64)).2.1 213 (((116 : Int32) : Int32).toNatClampNeg))) 213 (((119 : Int32) : Int32).toNatClampNeg) ((sJ (sJ q4.2 213 (((116 : Int32) : Int32).toNatClampNeg) (((q4.1 - q4.1 / (σ0.1 215 ((x1 : Int32).toNatClampNeg)) * (σ0.1 215 ((x1 : Int32).toNatClampNeg))) : Int32).toInt64)) 213 (((99 : Int32) : Int32).toNatClampNeg) ((sJ q4.2 213 (((116 : Int32) : Int32).toNatClampNeg) (((q4.1 - q4.1 / (σ0.1 215 ((x1 : Int32).toNatClampNeg)) * (σ0.1 215 ((x1 : Int32).toNatClampNeg))) : Int32).toInt64)).2.1 213 (((116 : Int32) : Int32).toNatClampNeg))).2.1 213 (((116 : Int32) : Int32).toNatClampNeg))) 213 (((110 : Int32) : Int32).toNatClampNeg) (((q4.2.1 204 (((σ0.1 214 ((x1 : Int32).toNatClampNeg)) : Int32).toNatClampNeg)) : Int32).toInt64)) 213 (((112 : Int32) : Int32).toNatClampNeg) (((σ0.1 215 ((x1 : Int32).toNatClampNeg)) : Int32).toInt64)) _ _) hD
  refine lv_aload_n hx hb dX12_firstClaim_96 rfl (lv_at hl 2 rfl) ?_
  refine lv_bipush (v := 12) hx hb dX12_firstClaim_97 (by decide) ?_
  refine lv_aload_n hx hb dX12_firstClaim_99 rfl (lv_at hl 2 rfl) ?_
  refine va_get (D := D) (ci := 12) (v := .ref (G.2.1 217)) (C := RX12) (T := TX12) (N := 59) hx hb hts inU_X12 hown hK hP _ (mg_200 G Z Y (sJ (sJ (sJ (sJ (sJ (sJ q4.2 213 (((116 : Int32) : Int32).toNatClampNeg) (((q4.1 - q4.1 / (σ0.1 215 ((x1 : Int32).toNatClampNeg)) * (σ0.1 215 ((x1 : Int32).toNatClampNeg))) : Int32).toInt64)) 213 (((99 : Int32) : Int32).toNatClampNeg) ((sJ q4.2 213 (((116 : Int32) : Int32).toNatClampNeg) (((q4.1 - q4.1 / (σ0.1 215 ((x1 : Int32).toNatClampNeg)) * (σ0.1 215 ((x1 : Int32).toNatClampNeg))) : Int32).toInt64)).2.1 213 (((116 : Int32) : Int32).toNatClampNeg))) 213 (((119 : Int32) : Int32).toNatClampNeg) ((sJ (sJ q4.2 213 (((116 : Int32) : Int32).toNatClampNeg) (((q4.1 - q4.1 / (σ0.1 215 ((x1 : Int32).toNatClampNeg)) * (σ0.1 215 ((x1 : Int32).toNatClampNeg))) : Int32).toInt64)) 213 (((99 : Int32) : Int32).toNatClampNeg) ((sJ q4.2 213 (((116 : Int32) : Int32).toNatClampNeg) (((q4.1 - q4.1 / (σ0.1 215 ((x1 : Int32).toNatClampNeg)) * (σ0.1 215 ((x1 : Int32).toNatClampNeg))) : Int32).toInt64)).2.1 213 (((116 : Int32) : Int32).toNatClampNeg))).2.1 213 (((116 : Int32) : Int32).toNatClampNeg))) 213 (((110 : Int32) : Int32).toNatClampNeg) (((q4.2.1 204 (((σ0.1 214 ((x1 : Int32).toNatClampNeg)) : Int32).toNatClampNeg)) : Int32).toInt64)) 213 (((112 : Int32) : Int32).toNatClampNeg) (((σ0.1 215 ((x1 : Int32).toNatClampNeg)) : Int32).toInt64)) 213 (((121 : Int32) : Int32).toNatClampNeg) ((x2 : Int32).toInt64))) rfl 35 (by decide) (hts _ wd_1283) (fun _ h9 => h9) rfl dX12_firstClaim_100 ?_
  refine lv_iload_n hx hb dX12_firstClaim_103 rfl (lv_at hl 3 rfl) ?_
  obtain ⟨c15, h⟩ := f_n h
  refine va_ialdE (v := (q4.2.1 217 ((x1 : Int32).toNatClampNeg))) hx hb hK hP _ 0 (mg_217 G Z Y (sJ (sJ (sJ (sJ (sJ (sJ q4.2 213 (((116 : Int32) : Int32).toNatClampNeg) (((q4.1 - q4.1 / (σ0.1 215 ((x1 : Int32).toNatClampNeg)) * (σ0.1 215 ((x1 : Int32).toNatClampNeg))) : Int32).toInt64)) 213 (((99 : Int32) : Int32).toNatClampNeg) ((sJ q4.2 213 (((116 : Int32) : Int32).toNatClampNeg) (((q4.1 - q4.1 / (σ0.1 215 ((x1 : Int32).toNatClampNeg)) * (σ0.1 215 ((x1 : Int32).toNatClampNeg))) : Int32).toInt64)).2.1 213 (((116 : Int32) : Int32).toNatClampNeg))) 213 (((119 : Int32) : Int32).toNatClampNeg) ((sJ (sJ q4.2 213 (((116 : Int32) : Int32).toNatClampNeg) (((q4.1 - q4.1 / (σ0.1 215 ((x1 : Int32).toNatClampNeg)) * (σ0.1 215 ((x1 : Int32).toNatClampNeg))) : Int32).toInt64)) 213 (((99 : Int32) : Int32).toNatClampNeg) ((sJ q4.2 213 (((116 : Int32) : Int32).toNatClampNeg) (((q4.1 - q4.1 / (σ0.1 215 ((x1 : Int32).toNatClampNeg)) * (σ0.1 215 ((x1 : Int32).toNatClampNeg))) : Int32).toInt64)).2.1 213 (((116 : Int32) : Int32).toNatClampNeg))).2.1 213 (((116 : Int32) : Int32).toNatClampNeg))) 213 (((110 : Int32) : Int32).toNatClampNeg) (((q4.2.1 204 (((σ0.1 214 ((x1 : Int32).toNatClampNeg)) : Int32).toNatClampNeg)) : Int32).toInt64)) 213 (((112 : Int32) : Int32).toNatClampNeg) (((σ0.1 215 ((x1 : Int32).toNatClampNeg)) : Int32).toInt64)) 213 (((121 : Int32) : Int32).toNatClampNeg) ((x2 : Int32).toInt64))) rfl c15 dX12_firstClaim_104 rfl ?_
  refine lv_iadd hx hb dX12_firstClaim_105 ?_
  refine lv_iconst (v := 1) hx hb dX12_firstClaim_106 (by decide) ?_
  refine lv_bipush (v := 115) hx hb dX12_firstClaim_107 (by decide) ?_
  obtain ⟨q16, hq16, h⟩ := f_b h
  refine cl_V (w := (mW G Z Y (sJ (sJ (sJ (sJ (sJ (sJ q4.2 213 (((116 : Int32) : Int32).toNatClampNeg) (((q4.1 - q4.1 / (σ0.1 215 ((x1 : Int32).toNatClampNeg)) * (σ0.1 215 ((x1 : Int32).toNatClampNeg))) : Int32).toInt64)) 213 (((99 : Int32) : Int32).toNatClampNeg) ((sJ q4.2 213 (((116 : Int32) : Int32).toNatClampNeg) (((q4.1 - q4.1 / (σ0.1 215 ((x1 : Int32).toNatClampNeg)) * (σ0.1 215 ((x1 : Int32).toNatClampNeg))) : Int32).toInt64)).2.1 213 (((116 : Int32) : Int32).toNatClampNeg))) 213 (((119 : Int32) : Int32).toNatClampNeg) ((sJ (sJ q4.2 213 (((116 : Int32) : Int32).toNatClampNeg) (((q4.1 - q4.1 / (σ0.1 215 ((x1 : Int32).toNatClampNeg)) * (σ0.1 215 ((x1 : Int32).toNatClampNeg))) : Int32).toInt64)) 213 (((99 : Int32) : Int32).toNatClampNeg) ((sJ q4.2 213 (((116 : Int32) : Int32).toNatClampNeg) (((q4.1 - q4.1 / (σ0.1 215 ((x1 : Int32).toNatClampNeg)) * (σ0.1 215 ((x1 : Int32).toNatClampNeg))) : Int32).toInt64)).2.1 213 (((116 : Int32) : Int32).toNatClampNeg))).2.1 213 (((116 : Int32) : Int32).toNatClampNeg))) 213 (((110 : Int32) : Int32).toNatClampNeg) (((q4.2.1 204 (((σ0.1 214 ((x1 : Int32).toNatClampNeg)) : Int32).toNatClampNeg)) : Int32).toInt64)) 213 (((112 : Int32) : Int32).toNatClampNeg) (((σ0.1 215 ((x1 : Int32).toNatClampNeg)) : Int32).toInt64)) 213 (((121 : Int32) : Int32).toNatClampNeg) ((x2 : Int32).toInt64)))) (w' := (mW G Z Y q16.2)) (rv := some (.long q16.1)) (bytes := cX12_worthOf) (maxL := 4) (ret := (some .long)) (C := RX12) (As := [.int ((12 : Int32) + (q4.2.1 217 ((x1 : Int32).toNatClampNeg))), .int (1 : Int32), .int (115 : Int32)]) (rest := []) (stk := [.long q16.1]) ⟨hx, hb, hml, hown, hts⟩ hK hE hA hP hD hS (c_X12_worthOf l D G Z Y (sJ (sJ (sJ (sJ (sJ (sJ q4.2 213 (((116 : Int32) : Int32).toNatClampNeg) (((q4.1 - q4.1 / (σ0.1 215 ((x1 : Int32).toNatClampNeg)) * (σ0.1 215 ((x1 : Int32).toNatClampNeg))) : Int32).toInt64)) 213 (((99 : Int32) : Int32).toNatClampNeg) ((sJ q4.2 213 (((116 : Int32) : Int32).toNatClampNeg) (((q4.1 - q4.1 / (σ0.1 215 ((x1 : Int32).toNatClampNeg)) * (σ0.1 215 ((x1 : Int32).toNatClampNeg))) : Int32).toInt64)).2.1 213 (((116 : Int32) : Int32).toNatClampNeg))) 213 (((119 : Int32) : Int32).toNatClampNeg) ((sJ (sJ q4.2 213 (((116 : Int32) : Int32).toNatClampNeg) (((q4.1 - q4.1 / (σ0.1 215 ((x1 : Int32).toNatClampNeg)) * (σ0.1 215 ((x1 : Int32).toNatClampNeg))) : Int32).toInt64)) 213 (((99 : Int32) : Int32).toNatClampNeg) ((sJ q4.2 213 (((116 : Int32) : Int32).toNatClampNeg) (((q4.1 - q4.1 / (σ0.1 215 ((x1 : Int32).toNatClampNeg)) * (σ0.1 215 ((x1 : Int32).toNatClampNeg))) : Int32).toInt64)).2.1 213 (((116 : Int32) : Int32).toNatClampNeg))).2.1 213 (((116 : Int32) : Int32).toNatClampNeg))) 213 (((110 : Int32) : Int32).toNatClampNeg) (((q4.2.1 204 (((σ0.1 214 ((x1 : Int32).toNatClampNeg)) : Int32).toNatClampNeg)) : Int32).toInt64)) 213 (((112 : Int32) : Int32).toNatClampNeg) (((σ0.1 215 ((x1 : Int32).toNatClampNeg)) : Int32).toInt64)) 213 (((121 : Int32) : Int32).toNatClampNeg) ((x2 : Int32).toInt64)) F ((12 : Int32) + (q4.2.1 217 ((x1 : Int32).toNatClampNeg))) (1 : Int32) (115 : Int32) q16 hq16) (cwV 3 hts (gwV wd_1669 wd_1671 wp_80 wd_11 wd_1672) rfl rfl rfl hd_X12_worthOf ⟨Nat.le_of_ble_eq_true rfl, Nat.le_of_ble_eq_true rfl⟩) (mg_200 G Z Y (sJ (sJ (sJ (sJ (sJ (sJ q4.2 213 (((116 : Int32) : Int32).toNatClampNeg) (((q4.1 - q4.1 / (σ0.1 215 ((x1 : Int32).toNatClampNeg)) * (σ0.1 215 ((x1 : Int32).toNatClampNeg))) : Int32).toInt64)) 213 (((99 : Int32) : Int32).toNatClampNeg) ((sJ q4.2 213 (((116 : Int32) : Int32).toNatClampNeg) (((q4.1 - q4.1 / (σ0.1 215 ((x1 : Int32).toNatClampNeg)) * (σ0.1 215 ((x1 : Int32).toNatClampNeg))) : Int32).toInt64)).2.1 213 (((116 : Int32) : Int32).toNatClampNeg))) 213 (((119 : Int32) : Int32).toNatClampNeg) ((sJ (sJ q4.2 213 (((116 : Int32) : Int32).toNatClampNeg) (((q4.1 - q4.1 / (σ0.1 215 ((x1 : Int32).toNatClampNeg)) * (σ0.1 215 ((x1 : Int32).toNatClampNeg))) : Int32).toInt64)) 213 (((99 : Int32) : Int32).toNatClampNeg) ((sJ q4.2 213 (((116 : Int32) : Int32).toNatClampNeg) (((q4.1 - q4.1 / (σ0.1 215 ((x1 : Int32).toNatClampNeg)) * (σ0.1 215 ((x1 : Int32).toNatClampNeg))) : Int32).toInt64)).2.1 213 (((116 : Int32) : Int32).toNatClampNeg))).2.1 213 (((116 : Int32) : Int32).toNatClampNeg))) 213 (((110 : Int32) : Int32).toNatClampNeg) (((q4.2.1 204 (((σ0.1 214 ((x1 : Int32).toNatClampNeg)) : Int32).toNatClampNeg)) : Int32).toInt64)) 213 (((112 : Int32) : Int32).toNatClampNeg) (((σ0.1 215 ((x1 : Int32).toNatClampNeg)) : Int32).toInt64)) 213 (((121 : Int32) : Int32).toNatClampNeg) ((x2 : Int32).toInt64))) rfl rfl rfl hl.1 rfl (Nat.le_of_ble_eq_true rfl) dX12_firstClaim_109 ⟨Nat.zero_le _, Nat.zero_le _⟩ rfl (fun H locs hP hD hS => ?_)
  refine lv_iload hx hb dX12_firstClaim_112 (lv_at hl 0 rfl) ?_
  refine lv_i2l (v := ((σ0.1 215 ((x1 : Int32).toNatClampNeg)) : Int32).toInt64) hx hb dX12_firstClaim_114 rfl ?_
  obtain ⟨q17, hq17, h⟩ := f_b h
  refine cl_S (w := (mW G Z Y q16.2)) (w' := (mW G Z Y q16.2)) (rv := some (.long q17)) (bytes := cX12_rest) (maxL := 6) (ret := (some .long)) (As := [.long q16.1, .long ((σ0.1 215 ((x1 : Int32).toNatClampNeg)) : Int32).toInt64]) (rest := []) (stk := [.long q17]) ⟨hx, hb, hml, hown, hts⟩ hK hE hA hP hD hS (c_X12_rest l D G (mW G Z Y q16.2) q16.1 (((σ0.1 215 ((x1 : Int32).toNatClampNeg)) : Int32).toInt64) q17 hq17) (mkS hts wd_1514 wd_1515 wd_11 wd_1516 rfl rfl hd_X12_rest ⟨Nat.le_of_ble_eq_true rfl, Nat.le_of_ble_eq_true rfl⟩) rfl hl.1 rfl (Nat.le_of_ble_eq_true rfl) dX12_firstClaim_115 ⟨Nat.zero_le _, Nat.zero_le _⟩ rfl (fun H locs hP hD hS => ?_)
  obtain rfl := Option.some.inj h
  exact W.lret (v := q17) hx hb hr (q_end hK hP hD hS) hS.2.2 dX12_firstClaim_118
abbrev rm_X12_trueAt : Room := { frames := 11, cells := 0, slots := 0, locals := 291 }
set_option maxRecDepth 100000 in
set_option maxHeartbeats 8000000 in
theorem W_X12_trueAt_L11 {p : Program} {e : Env} {s : State} {m : MethodId} {args : Array Value} {below : List Frame} {meth : Method} {c : Code} {A : Nat → Prop} (l : Launch) (D : va_G) (G : hG) (Z : hZ) (Y : va_W) (σ0 : hSt) (F : Nat) (x1 : Int32) (x2 : Int32) (x3 : Int32) (y1 : Int32) (y2 : Int32) (y3 : Int32) (y4 : Int32) (res : (Int64 × hSt)) (C0 : Cx p s m args meth c cX12_trueAt (some .long) RX12 6 D G A) (hA : ∀ q : Nat, s.heap.size ≤ q → A q) (k37 : hSt → Option (Int64 × hSt)) (hk37 : ∀ (σ1 : hSt), k37 σ1 = some res → ∀ (H : Heap) (locs : List Loc) (ls : Array Slot), va_P D vwCl (mW G Z Y σ1) H → va_D A (mW G Z Y σ1) → va_S A s.heap H locs → lv_has ls 6 [(0, .ref (G.2.1 200)), (1, .int y1), (2, .int y2), (3, .int y3), (4, .int y4)] → W p l e rm_X12_trueAt s m args below meth c H locs 0 0 (MQ below (Qg (some (.long res.1)) D (tysG G) (mW G Z Y res.2) A) args s 0 0 A) (F0 m 37 ls [])) : ∀ (n : Nat) (σ1 : hSt) (z5 : Int32), f_X12_trueAt_L11 y1 y2 y3 y4 k37 n σ1 z5 = some res → ∀ (H : Heap) (locs : List Loc) (ls : Array Slot), va_P D vwCl (mW G Z Y σ1) H → va_D A (mW G Z Y σ1) → va_S A s.heap H locs → lv_has ls 6 [(0, .ref (G.2.1 200)), (1, .int y1), (2, .int y2), (3, .int y3), (4, .int y4), (5, .int z5)] → W p l e rm_X12_trueAt s m args below meth c H locs 0 0 (MQ below (Qg (some (.long res.1)) D (tysG G) (mW G Z Y res.2) A) args s 0 0 A) (F0 m 11 ls []) := by
  obtain ⟨hx, hb, hr, hml, hown, hts, hlocks, hK, hE⟩ := id C0
  intro n
  induction n with
  | zero =>
    intro σ1 z5 h
    cases h
  | succ n ih =>
    intro σ1 z5 h H locs ls hP hD hS hl
    rw [f_X12_trueAt_L11] at h
    refine lv_iload hx hb dX12_trueAt_11 (lv_at hl 5 rfl) ?_
    refine lv_iload_n hx hb dX12_trueAt_13 rfl (lv_at hl 2 rfl) ?_
    refine lv_icmp_ge (tgt := 37) hx hb dX12_trueAt_14 (by decide) (fun c2 => ?_) (fun c2 => ?_)
    · skip
      have h := f_t c2 h
      exact hk37 σ1 h _ _ _ hP hD hS (lv_sub hl [0, 1, 2, 3, 4] rfl)
    · skip
      have h := f_f c2 h
      refine lv_aload_n hx hb dX12_trueAt_17 rfl (lv_at hl 0 rfl) ?_
      refine va_get (D := D) (ci := 12) (v := .ref (G.2.1 208)) (C := RX12) (T := TX12) (N := 59) hx hb hts inU_X12 hown hK hP _ (mg_200 G Z Y σ1) rfl 18 (by decide) (hts _ wd_1266) (fun _ h9 => h9) rfl dX12_trueAt_18 ?_
      refine lv_iload hx hb dX12_trueAt_21 (lv_at hl 5 rfl) ?_
      refine lv_aload_n hx hb dX12_trueAt_23 rfl (lv_at hl 0 rfl) ?_
      refine va_get (D := D) (ci := 12) (v := .ref (G.2.1 218)) (C := RX12) (T := TX12) (N := 59) hx hb hts inU_X12 hown hK hP _ (mg_200 G Z Y σ1) rfl 37 (by decide) (hts _ wd_1285) (fun _ h9 => h9) rfl dX12_trueAt_24 ?_
      refine lv_iload hx hb dX12_trueAt_27 (lv_at hl 5 rfl) ?_
      obtain ⟨c3, h⟩ := f_n h
      refine va_laldE (v := (σ1.2.1 218 ((z5 : Int32).toNatClampNeg))) hx hb hK hP _ 1 (mg_218 G Z Y σ1) rfl c3 dX12_trueAt_29 rfl ?_
      obtain ⟨c4, h⟩ := f_n h
      refine va_last hx hb hK hP hD hS _ 1 (mg_208 G Z Y σ1) rfl c4 dX12_trueAt_30 (fun H locs hP hD hS => ?_)
      have hP := wrP (mp_208 G Z Y σ1 _ _) hP
      have hD := wrD (mp_208 G Z Y σ1 _ _) hD
      refine lv_iinc (v := (z5 + 1)) (lv' := [(5, .int (z5 + 1)), (0, .ref (G.2.1 200)), (1, .int y1), (2, .int y2), (3, .int y3), (4, .int y4)]) hx hb dX12_trueAt_31 hl (k := 5) rfl rfl (by decide) rfl (fun ls hl => ?_)
      refine lv_goto (tgt := 11) hx hb dX12_trueAt_34 (by decide) ?_
      exact ih (sJ σ1 208 ((z5 : Int32).toNatClampNeg) (σ1.2.1 218 ((z5 : Int32).toNatClampNeg))) (z5 + 1) h _ _ _ hP hD hS (lv_sub hl [1, 2, 3, 4, 5, 0] rfl)
set_option maxRecDepth 100000 in
set_option maxHeartbeats 8000000 in
theorem c_X12_trueAt (l : Launch) (D : va_G) (G : hG) (Z : hZ) (Y : va_W) (σ0 : hSt) (F : Nat) (x1 : Int32) (x2 : Int32) (x3 : Int32) (res : (Int64 × hSt)) (h : f_X12_trueAt F Z σ0 x1 x2 x3 = some res) : CT l yX12_trueAt cX12_trueAt 6 (some .long) rm_X12_trueAt D G 0 0 [.ref (G.2.1 200), .int x1, .int x2, .int x3] (mW G Z Y σ0) (mW G Z Y res.2) (some (.long res.1)) := by
  unfold f_X12_trueAt at h
  refine CT.mk (cc := cX12_trueAt) (maxL := 6) (ret := (some .long)) (own := RX12) (plainFor_of_name (by decide)) rfl (Nat.le_of_ble_eq_true rfl) ?_
  intro p e s m args below meth c A ls C0 hnm hA hP hD hl
  obtain ⟨hx, hb, hr, hml, hown, hts, hlocks, hK, hE⟩ := id C0
  have hS : va_S A s.heap s.heap [] := va_S.rf
  have hl : lv_has ls 6 [(0, .ref (G.2.1 200)), (1, .int x1), (2, .int x2), (3, .int x3)] := hl
  refine lv_aload_n hx hb dX12_trueAt_0 rfl (lv_at hl 0 rfl) ?_
  refine va_get (D := D) (ci := 12) (v := .ref (G.2.1 215)) (C := RX12) (T := TX12) (N := 59) hx hb hts inU_X12 hown hK hP _ (mg_200 G Z Y σ0) rfl 33 (by decide) (hts _ wd_1281) (fun _ h9 => h9) rfl dX12_trueAt_1 ?_
  refine lv_iload_n hx hb dX12_trueAt_4 rfl (lv_at hl 1 rfl) ?_
  obtain ⟨c1, h⟩ := f_n h
  refine va_ialdE (v := (σ0.1 215 ((x1 : Int32).toNatClampNeg))) hx hb hK hP _ 0 (mg_215 G Z Y σ0) rfl c1 dX12_trueAt_5 rfl ?_
  refine lv_istore (lv' := [(4, .int (σ0.1 215 ((x1 : Int32).toNatClampNeg))), (0, .ref (G.2.1 200)), (1, .int x1), (2, .int x2), (3, .int x3)]) hx hb dX12_trueAt_6 hl (by decide) rfl (fun ls hl => ?_)
  refine lv_iconst (v := 0) hx hb dX12_trueAt_8 (by decide) ?_
  refine lv_istore (lv' := [(5, .int (0 : Int32)), (4, .int (σ0.1 215 ((x1 : Int32).toNatClampNeg))), (0, .ref (G.2.1 200)), (1, .int x1), (2, .int x2), (3, .int x3)]) hx hb dX12_trueAt_9 hl (by decide) rfl (fun ls hl => ?_)
  refine W_X12_trueAt_L11 l D G Z Y σ0 F x1 x2 x3 x1 x2 x3 (σ0.1 215 ((x1 : Int32).toNatClampNeg)) res C0 hA _ ?_ F σ0 (0 : Int32) h _ _ _ hP hD hS (lv_sub hl [2, 3, 4, 5, 1, 0] rfl)
  · intro σ1 h H locs ls hP hD hS hl
    refine lv_aload_n hx hb dX12_trueAt_37 rfl (lv_at hl 0 rfl) ?_
    refine va_get (D := D) (ci := 12) (v := .ref (G.2.1 208)) (C := RX12) (T := TX12) (N := 59) hx hb hts inU_X12 hown hK hP _ (mg_200 G Z Y σ1) rfl 18 (by decide) (hts _ wd_1266) (fun _ h9 => h9) rfl dX12_trueAt_38 ?_
    refine lv_iload_n hx hb dX12_trueAt_41 rfl (lv_at hl 2 rfl) ?_
    refine lv_iload_n hx hb dX12_trueAt_42 rfl (lv_at hl 3 rfl) ?_
    refine lv_iload hx hb dX12_trueAt_43 (lv_at hl 4 rfl) ?_
    obtain ⟨c5, h⟩ := f_n h
    refine lv_irem hx hb dX12_trueAt_45 c5 ?_
    refine lv_i2l (v := ((x3 - x3 / (σ0.1 215 ((x1 : Int32).toNatClampNeg)) * (σ0.1 215 ((x1 : Int32).toNatClampNeg))) : Int32).toInt64) hx hb dX12_trueAt_46 rfl ?_
    obtain ⟨c6, h⟩ := f_n h
    refine va_last hx hb hK hP hD hS _ 1 (mg_208 G Z Y σ1) rfl c6 dX12_trueAt_47 (fun H locs hP hD hS => ?_)
    have hP := wrP (mp_208 G Z Y σ1 _ _) hP
    have hD := wrD (mp_208 G Z Y σ1 _ _) hD
    refine lv_aload_n hx hb dX12_trueAt_48 rfl (lv_at hl 0 rfl) ?_
    refine lv_aload_n hx hb dX12_trueAt_49 rfl (lv_at hl 0 rfl) ?_
    refine va_get (D := D) (ci := 12) (v := .ref (G.2.1 214)) (C := RX12) (T := TX12) (N := 59) hx hb hts inU_X12 hown hK hP _ (mg_200 G Z Y (sJ σ1 208 ((x2 : Int32).toNatClampNeg) (((x3 - x3 / (σ0.1 215 ((x1 : Int32).toNatClampNeg)) * (σ0.1 215 ((x1 : Int32).toNatClampNeg))) : Int32).toInt64))) rfl 32 (by decide) (hts _ wd_1280) (fun _ h9 => h9) rfl dX12_trueAt_50 ?_
    refine lv_iload_n hx hb dX12_trueAt_53 rfl (lv_at hl 1 rfl) ?_
    obtain ⟨c7, h⟩ := f_n h
    refine va_ialdE (v := (σ1.1 214 ((x1 : Int32).toNatClampNeg))) hx hb hK hP _ 0 (mg_214 G Z Y (sJ σ1 208 ((x2 : Int32).toNatClampNeg) (((x3 - x3 / (σ0.1 215 ((x1 : Int32).toNatClampNeg)) * (σ0.1 215 ((x1 : Int32).toNatClampNeg))) : Int32).toInt64))) rfl c7 dX12_trueAt_54 rfl ?_
    refine lv_iload_n hx hb dX12_trueAt_55 rfl (lv_at hl 2 rfl) ?_
    refine lv_iconst (v := 1) hx hb dX12_trueAt_56 (by decide) ?_
    refine lv_iadd hx hb dX12_trueAt_57 ?_
    refine lv_iload hx hb dX12_trueAt_58 (lv_at hl 4 rfl) ?_
    refine lv_i2l (v := ((σ0.1 215 ((x1 : Int32).toNatClampNeg)) : Int32).toInt64) hx hb dX12_trueAt_60 rfl ?_
    obtain ⟨q8, hq8, h⟩ := f_b h
    refine cl_V (w := (mW G Z Y (sJ σ1 208 ((x2 : Int32).toNatClampNeg) (((x3 - x3 / (σ0.1 215 ((x1 : Int32).toNatClampNeg)) * (σ0.1 215 ((x1 : Int32).toNatClampNeg))) : Int32).toInt64)))) (w' := (mW G Z Y q8.2)) (rv := some (.long q8.1)) (bytes := cX12_sumFrom) (maxL := 7) (ret := (some .long)) (C := RX12) (As := [.int (σ1.1 214 ((x1 : Int32).toNatClampNeg)), .int (x2 + (1 : Int32)), .long ((σ0.1 215 ((x1 : Int32).toNatClampNeg)) : Int32).toInt64]) (rest := []) (stk := [.long q8.1]) ⟨hx, hb, hml, hown, hts⟩ hK hE hA hP hD hS (c_X12_sumFrom l D G Z Y (sJ σ1 208 ((x2 : Int32).toNatClampNeg) (((x3 - x3 / (σ0.1 215 ((x1 : Int32).toNatClampNeg)) * (σ0.1 215 ((x1 : Int32).toNatClampNeg))) : Int32).toInt64)) F (σ1.1 214 ((x1 : Int32).toNatClampNeg)) (x2 + (1 : Int32)) (((σ0.1 215 ((x1 : Int32).toNatClampNeg)) : Int32).toInt64) q8 hq8) (cwV 3 hts (gwV wd_1506 wd_1508 wp_59 wd_11 wd_1509) rfl rfl rfl hd_X12_sumFrom ⟨Nat.le_of_ble_eq_true rfl, Nat.le_of_ble_eq_true rfl⟩) (mg_200 G Z Y (sJ σ1 208 ((x2 : Int32).toNatClampNeg) (((x3 - x3 / (σ0.1 215 ((x1 : Int32).toNatClampNeg)) * (σ0.1 215 ((x1 : Int32).toNatClampNeg))) : Int32).toInt64))) rfl rfl rfl hl.1 rfl (Nat.le_of_ble_eq_true rfl) dX12_trueAt_61 ⟨Nat.zero_le _, Nat.zero_le _⟩ rfl (fun H locs hP hD hS => ?_)
    obtain rfl := Option.some.inj h
    exact W.lret (v := q8.1) hx hb hr (q_end hK hP hD hS) hS.2.2 dX12_trueAt_64
abbrev rm_X12_speaks : Room := { frames := 74, cells := 0, slots := 0, locals := 1840 }
set_option maxRecDepth 100000 in
set_option maxHeartbeats 8000000 in
theorem W_X12_speaks_L40 {p : Program} {e : Env} {s : State} {m : MethodId} {args : Array Value} {below : List Frame} {meth : Method} {c : Code} {A : Nat → Prop} (l : Launch) (D : va_G) (G : hG) (Z : hZ) (Y : va_W) (σ0 : hSt) (F : Nat) (x1 : Int32) (x2 : Int32) (x3 : Int64) (x5 : Int32) (y1 : Int32) (y2 : Int32) (y3 : Int64) (y5 : Int32) (y6 : Int32) (y7 : Int32) (y8 : Int64) (res : (Unit × hSt)) (C0 : Cx p s m args meth c cX12_speaks none RX12 13 D G A) (hA : ∀ q : Nat, s.heap.size ≤ q → A q) : ∀ (n : Nat) (σ1 : hSt) (z10 : Int32), f_X12_speaks_L40 F Z y1 y2 y3 y5 y6 y7 y8 n σ1 z10 = some res → ∀ (H : Heap) (locs : List Loc) (ls : Array Slot), va_P D vwCl (mW G Z Y σ1) H → va_D A (mW G Z Y σ1) → va_S A s.heap H locs → lv_has ls 13 [(0, .ref (G.2.1 200)), (1, .int y1), (2, .int y2), (3, .long y3), (5, .int y5), (6, .int y6), (7, .int y7), (8, .long y8), (10, .int z10)] → W p l e rm_X12_speaks s m args below meth c H locs 0 0 (MQ below (Qg none D (tysG G) (mW G Z Y res.2) A) args s 0 0 A) (F0 m 40 ls []) := by
  obtain ⟨hx, hb, hr, hml, hown, hts, hlocks, hK, hE⟩ := id C0
  intro n
  induction n with
  | zero =>
    intro σ1 z10 h
    cases h
  | succ n ih =>
    intro σ1 z10 h H locs ls hP hD hS hl
    rw [f_X12_speaks_L40] at h
    refine lv_iload hx hb dX12_speaks_40 (lv_at hl 8 rfl) ?_
    refine lv_aload_n hx hb dX12_speaks_42 rfl (lv_at hl 0 rfl) ?_
    refine va_get (D := D) (ci := 12) (v := .ref (G.2.1 205)) (C := RX12) (T := TX12) (N := 59) hx hb hts inU_X12 hown hK hP _ (mg_200 G Z Y σ1) rfl 13 (by decide) (hts _ wd_1261) (fun _ h9 => h9) rfl dX12_speaks_43 ?_
    refine lv_bipush (v := 6) hx hb dX12_speaks_46 (by decide) ?_
    refine lv_iload hx hb dX12_speaks_48 (lv_at hl 5 rfl) ?_
    refine lv_imul hx hb dX12_speaks_50 ?_
    refine lv_iload_n hx hb dX12_speaks_51 rfl (lv_at hl 2 rfl) ?_
    refine lv_iadd hx hb dX12_speaks_52 ?_
    obtain ⟨c6, h⟩ := f_n h
    refine va_ialdE (v := (σ1.1 205 (((((6 : Int32) * y6) + y2) : Int32).toNatClampNeg))) hx hb hK hP _ 0 (mg_205 G Z Y σ1) rfl c6 dX12_speaks_53 rfl ?_
    refine lv_icmp_gt (tgt := 215) hx hb dX12_speaks_54 (by decide) (fun c7 => ?_) (fun c7 => ?_)
    · skip
      have h := f_t c7 h
      obtain rfl := Option.some.inj h
      exact W.vret hx hb hr (q_end hK hP hD hS) hS.2.2 dX12_speaks_215
    · skip
      have h := f_f c7 h
      refine lv_aload_n hx hb dX12_speaks_57 rfl (lv_at hl 0 rfl) ?_
      refine lv_iload_n hx hb dX12_speaks_58 rfl (lv_at hl 1 rfl) ?_
      refine lv_iload_n hx hb dX12_speaks_59 rfl (lv_at hl 2 rfl) ?_
      refine lv_iload hx hb dX12_speaks_60 (lv_at hl 8 rfl) ?_
      obtain ⟨q8, hq8, h⟩ := f_b h
      refine cl_V (w := (mW G Z Y σ1)) (w' := (mW G Z Y q8.2)) (rv := some (.long q8.1)) (bytes := cX12_trueAt) (maxL := 6) (ret := (some .long)) (C := RX12) (As := [.int y1, .int y2, .int z10]) (rest := []) (stk := [.long q8.1]) ⟨hx, hb, hml, hown, hts⟩ hK hE hA hP hD hS (c_X12_trueAt l D G Z Y σ1 F y1 y2 z10 q8 hq8) (cwV 3 hts (gwV wd_1683 wd_1685 wp_83 wd_11 wd_1686) rfl rfl rfl hd_X12_trueAt ⟨Nat.le_of_ble_eq_true rfl, Nat.le_of_ble_eq_true rfl⟩) (mg_200 G Z Y σ1) rfl rfl rfl hl.1 rfl (Nat.le_of_ble_eq_true rfl) dX12_speaks_62 ⟨Nat.zero_le _, Nat.zero_le _⟩ rfl (fun H locs hP hD hS => ?_)
      refine lv_lstore (lv' := [(11, .long q8.1), (0, .ref (G.2.1 200)), (1, .int y1), (2, .int y2), (3, .long y3), (5, .int y5), (6, .int y6), (7, .int y7), (8, .long y8), (10, .int z10)]) hx hb dX12_speaks_65 hl (by decide) rfl (fun ls hl => ?_)
      refine lv_aload_n hx hb dX12_speaks_67 rfl (lv_at hl 1 rfl) ?_
      obtain ⟨q9, hq9, h⟩ := f_b h
      refine cl_V (w := (mW G Z Y q8.2)) (w' := (mW G Z Y q9.2)) (rv := none) (bytes := cX12_noLetters) (maxL := 2) (ret := none) (C := RX12) (As := []) (rest := []) (stk := []) ⟨hx, hb, hml, hown, hts⟩ hK hE hA hP hD hS (c_X12_noLetters l D G Z Y q8.2 F q9 hq9) (cwV 0 hts (gwV wd_1665 wd_1667 wp_79 wd_11 wd_1668) rfl rfl rfl hd_X12_noLetters ⟨Nat.le_of_ble_eq_true rfl, Nat.le_of_ble_eq_true rfl⟩) (mg_200 G Z Y q8.2) rfl rfl rfl hl.1 rfl (Nat.le_of_ble_eq_true rfl) dX12_speaks_68 ⟨Nat.zero_le _, Nat.zero_le _⟩ rfl (fun H locs hP hD hS => ?_)
      refine lv_aload_n hx hb dX12_speaks_71 rfl (lv_at hl 1 rfl) ?_
      refine va_get (D := D) (ci := 12) (v := .ref (G.2.1 213)) (C := RX12) (T := TX12) (N := 59) hx hb hts inU_X12 hown hK hP _ (mg_200 G Z Y q9.2) rfl 24 (by decide) (hts _ wd_1272) (fun _ h9 => h9) rfl dX12_speaks_72 ?_
      refine lv_bipush (v := 116) hx hb dX12_speaks_75 (by decide) ?_
      refine lv_lload hx hb dX12_speaks_77 (lv_at hl 0 rfl) ?_
      obtain ⟨c10, h⟩ := f_n h
      refine va_last hx hb hK hP hD hS _ 1 (mg_213 G Z Y q9.2) rfl c10 dX12_speaks_79 (fun H locs hP hD hS => ?_)
      have hP := wrP (mp_213 G Z Y q9.2 _ _) hP
      have hD := wrD (mp_213 G Z Y q9.2 _ _) hD
      refine lv_aload_n hx hb dX12_speaks_80 rfl (lv_at hl 1 rfl) ?_
      refine va_get (D := D) (ci := 12) (v := .ref (G.2.1 213)) (C := RX12) (T := TX12) (N := 59) hx hb hts inU_X12 hown hK hP _ (mg_200 G Z Y (sJ q9.2 213 (((116 : Int32) : Int32).toNatClampNeg) q8.1)) rfl 24 (by decide) (hts _ wd_1272) (fun _ h9 => h9) rfl dX12_speaks_81 ?_
      refine lv_bipush (v := 99) hx hb dX12_speaks_84 (by decide) ?_
      refine lv_lload_n hx hb dX12_speaks_86 rfl (lv_at hl 4 rfl) ?_
      obtain ⟨c11, h⟩ := f_n h
      refine va_last hx hb hK hP hD hS _ 1 (mg_213 G Z Y (sJ q9.2 213 (((116 : Int32) : Int32).toNatClampNeg) q8.1)) rfl c11 dX12_speaks_87 (fun H locs hP hD hS => ?_)
      have hP := wrP (mp_213 G Z Y (sJ q9.2 213 (((116 : Int32) : Int32).toNatClampNeg) q8.1) _ _) hP
      have hD := wrD (mp_213 G Z Y (sJ q9.2 213 (((116 : Int32) : Int32).toNatClampNeg) q8.1) _ _) hD
      refine lv_aload_n hx hb dX12_speaks_88 rfl (lv_at hl 1 rfl) ?_
      refine va_get (D := D) (ci := 12) (v := .ref (G.2.1 213)) (C := RX12) (T := TX12) (N := 59) hx hb hts inU_X12 hown hK hP _ (mg_200 G Z Y (sJ (sJ q9.2 213 (((116 : Int32) : Int32).toNatClampNeg) q8.1) 213 (((99 : Int32) : Int32).toNatClampNeg) y3)) rfl 24 (by decide) (hts _ wd_1272) (fun _ h9 => h9) rfl dX12_speaks_89 ?_
      refine lv_bipush (v := 119) hx hb dX12_speaks_92 (by decide) ?_
      refine lv_lload hx hb dX12_speaks_94 (lv_at hl 8 rfl) ?_
      obtain ⟨c12, h⟩ := f_n h
      refine va_last hx hb hK hP hD hS _ 1 (mg_213 G Z Y (sJ (sJ q9.2 213 (((116 : Int32) : Int32).toNatClampNeg) q8.1) 213 (((99 : Int32) : Int32).toNatClampNeg) y3)) rfl c12 dX12_speaks_96 (fun H locs hP hD hS => ?_)
      have hP := wrP (mp_213 G Z Y (sJ (sJ q9.2 213 (((116 : Int32) : Int32).toNatClampNeg) q8.1) 213 (((99 : Int32) : Int32).toNatClampNeg) y3) _ _) hP
      have hD := wrD (mp_213 G Z Y (sJ (sJ q9.2 213 (((116 : Int32) : Int32).toNatClampNeg) q8.1) 213 (((99 : Int32) : Int32).toNatClampNeg) y3) _ _) hD
      refine lv_aload_n hx hb dX12_speaks_97 rfl (lv_at hl 1 rfl) ?_
      refine va_get (D := D) (ci := 12) (v := .ref (G.2.1 213)) (C := RX12) (T := TX12) (N := 59) hx hb hts inU_X12 hown hK hP _ (mg_200 G Z Y (sJ (sJ (sJ q9.2 213 (((116 : Int32) : Int32).toNatClampNeg) q8.1) 213 (((99 : Int32) : Int32).toNatClampNeg) y3) 213 (((119 : Int32) : Int32).toNatClampNeg) y8)) rfl 24 (by decide) (hts _ wd_1272) (fun _ h9 => h9) rfl dX12_speaks_98 ?_
      refine lv_bipush (v := 108) hx hb dX12_speaks_101 (by decide) ?_
      refine lv_iload_n hx hb dX12_speaks_103 rfl (lv_at hl 3 rfl) ?_
      refine lv_if_ne (tgt := 111) hx hb dX12_speaks_104 (by decide) (fun c13 => ?_) (fun c13 => ?_)
      · skip
        have h := f_f c13 h
        refine lv_aload_n hx hb dX12_speaks_111 rfl (lv_at hl 1 rfl) ?_
        refine va_get (D := D) (ci := 12) (v := .ref (G.2.1 218)) (C := RX12) (T := TX12) (N := 59) hx hb hts inU_X12 hown hK hP _ (mg_200 G Z Y (sJ (sJ (sJ q9.2 213 (((116 : Int32) : Int32).toNatClampNeg) q8.1) 213 (((99 : Int32) : Int32).toNatClampNeg) y3) 213 (((119 : Int32) : Int32).toNatClampNeg) y8)) rfl 37 (by decide) (hts _ wd_1285) (fun _ h9 => h9) rfl dX12_speaks_112 ?_
        refine lv_iload_n hx hb dX12_speaks_115 rfl (lv_at hl 3 rfl) ?_
        refine lv_iconst (v := 1) hx hb dX12_speaks_116 (by decide) ?_
        refine lv_isub hx hb dX12_speaks_117 ?_
        obtain ⟨c14, h⟩ := f_n h
        refine va_laldE (v := (q9.2.2.1 218 (((y2 - (1 : Int32)) : Int32).toNatClampNeg))) hx hb hK hP _ 1 (mg_218 G Z Y (sJ (sJ (sJ q9.2 213 (((116 : Int32) : Int32).toNatClampNeg) q8.1) 213 (((99 : Int32) : Int32).toNatClampNeg) y3) 213 (((119 : Int32) : Int32).toNatClampNeg) y8)) rfl c14 dX12_speaks_118 rfl ?_
        obtain ⟨c15, h⟩ := f_n h
        refine va_last hx hb hK hP hD hS _ 1 (mg_213 G Z Y (sJ (sJ (sJ q9.2 213 (((116 : Int32) : Int32).toNatClampNeg) q8.1) 213 (((99 : Int32) : Int32).toNatClampNeg) y3) 213 (((119 : Int32) : Int32).toNatClampNeg) y8)) rfl c15 dX12_speaks_119 (fun H locs hP hD hS => ?_)
        have hP := wrP (mp_213 G Z Y (sJ (sJ (sJ q9.2 213 (((116 : Int32) : Int32).toNatClampNeg) q8.1) 213 (((99 : Int32) : Int32).toNatClampNeg) y3) 213 (((119 : Int32) : Int32).toNatClampNeg) y8) _ _) hP
        have hD := wrD (mp_213 G Z Y (sJ (sJ (sJ q9.2 213 (((116 : Int32) : Int32).toNatClampNeg) q8.1) 213 (((99 : Int32) : Int32).toNatClampNeg) y3) 213 (((119 : Int32) : Int32).toNatClampNeg) y8) _ _) hD
        refine lv_aload_n hx hb dX12_speaks_120 rfl (lv_at hl 1 rfl) ?_
        refine va_get (D := D) (ci := 12) (v := .ref (G.2.1 213)) (C := RX12) (T := TX12) (N := 59) hx hb hts inU_X12 hown hK hP _ (mg_200 G Z Y (sJ (sJ (sJ (sJ q9.2 213 (((116 : Int32) : Int32).toNatClampNeg) q8.1) 213 (((99 : Int32) : Int32).toNatClampNeg) y3) 213 (((119 : Int32) : Int32).toNatClampNeg) y8) 213 (((108 : Int32) : Int32).toNatClampNeg) (q9.2.2.1 218 (((y2 - (1 : Int32)) : Int32).toNatClampNeg)))) rfl 24 (by decide) (hts _ wd_1272) (fun _ h9 => h9) rfl dX12_speaks_121 ?_
        refine lv_bipush (v := 105) hx hb dX12_speaks_124 (by decide) ?_
        refine lv_iload_n hx hb dX12_speaks_126 rfl (lv_at hl 3 rfl) ?_
        refine lv_i2l (v := (y2 : Int32).toInt64) hx hb dX12_speaks_127 rfl ?_
        obtain ⟨c16, h⟩ := f_n h
        refine va_last hx hb hK hP hD hS _ 1 (mg_213 G Z Y (sJ (sJ (sJ (sJ q9.2 213 (((116 : Int32) : Int32).toNatClampNeg) q8.1) 213 (((99 : Int32) : Int32).toNatClampNeg) y3) 213 (((119 : Int32) : Int32).toNatClampNeg) y8) 213 (((108 : Int32) : Int32).toNatClampNeg) (q9.2.2.1 218 (((y2 - (1 : Int32)) : Int32).toNatClampNeg)))) rfl c16 dX12_speaks_128 (fun H locs hP hD hS => ?_)
        have hP := wrP (mp_213 G Z Y (sJ (sJ (sJ (sJ q9.2 213 (((116 : Int32) : Int32).toNatClampNeg) q8.1) 213 (((99 : Int32) : Int32).toNatClampNeg) y3) 213 (((119 : Int32) : Int32).toNatClampNeg) y8) 213 (((108 : Int32) : Int32).toNatClampNeg) (q9.2.2.1 218 (((y2 - (1 : Int32)) : Int32).toNatClampNeg))) _ _) hP
        have hD := wrD (mp_213 G Z Y (sJ (sJ (sJ (sJ q9.2 213 (((116 : Int32) : Int32).toNatClampNeg) q8.1) 213 (((99 : Int32) : Int32).toNatClampNeg) y3) 213 (((119 : Int32) : Int32).toNatClampNeg) y8) 213 (((108 : Int32) : Int32).toNatClampNeg) (q9.2.2.1 218 (((y2 - (1 : Int32)) : Int32).toNatClampNeg))) _ _) hD
        refine lv_aload_n hx hb dX12_speaks_129 rfl (lv_at hl 1 rfl) ?_
        refine va_get (D := D) (ci := 12) (v := .ref (G.2.1 213)) (C := RX12) (T := TX12) (N := 59) hx hb hts inU_X12 hown hK hP _ (mg_200 G Z Y (sJ (sJ (sJ (sJ (sJ q9.2 213 (((116 : Int32) : Int32).toNatClampNeg) q8.1) 213 (((99 : Int32) : Int32).toNatClampNeg) y3) 213 (((119 : Int32) : Int32).toNatClampNeg) y8) 213 (((108 : Int32) : Int32).toNatClampNeg) (q9.2.2.1 218 (((y2 - (1 : Int32)) : Int32).toNatClampNeg))) 213 (((105 : Int32) : Int32).toNatClampNeg) ((y2 : Int32).toInt64))) rfl 24 (by decide) (hts _ wd_1272) (fun _ h9 => h9) rfl dX12_speaks_130 ?_
        refine lv_bipush (v := 106) hx hb dX12_speaks_133 (by decide) ?_
        refine lv_iload hx hb dX12_speaks_135 (lv_at hl 9 rfl) ?_
        refine lv_i2l (v := (z10 : Int32).toInt64) hx hb dX12_speaks_137 rfl ?_
        obtain ⟨c17, h⟩ := f_n h
        refine va_last hx hb hK hP hD hS _ 1 (mg_213 G Z Y (sJ (sJ (sJ (sJ (sJ q9.2 213 (((116 : Int32) : Int32).toNatClampNeg) q8.1) 213 (((99 : Int32) : Int32).toNatClampNeg) y3) 213 (((119 : Int32) : Int32).toNatClampNeg) y8) 213 (((108 : Int32) : Int32).toNatClampNeg) (q9.2.2.1 218 (((y2 - (1 : Int32)) : Int32).toNatClampNeg))) 213 (((105 : Int32) : Int32).toNatClampNeg) ((y2 : Int32).toInt64))) rfl c17 dX12_speaks_138 (fun H locs hP hD hS => ?_)
        have hP := wrP (mp_213 G Z Y (sJ (sJ (sJ (sJ (sJ q9.2 213 (((116 : Int32) : Int32).toNatClampNeg) q8.1) 213 (((99 : Int32) : Int32).toNatClampNeg) y3) 213 (((119 : Int32) : Int32).toNatClampNeg) y8) 213 (((108 : Int32) : Int32).toNatClampNeg) (q9.2.2.1 218 (((y2 - (1 : Int32)) : Int32).toNatClampNeg))) 213 (((105 : Int32) : Int32).toNatClampNeg) ((y2 : Int32).toInt64)) _ _) hP
        have hD := wrD (mp_213 G Z Y (sJ (sJ (sJ (sJ (sJ q9.2 213 (((116 : Int32) : Int32).toNatClampNeg) q8.1) 213 (((99 : Int32) : Int32).toNatClampNeg) y3) 213 (((119 : Int32) : Int32).toNatClampNeg) y8) 213 (((108 : Int32) : Int32).toNatClampNeg) (q9.2.2.1 218 (((y2 - (1 : Int32)) : Int32).toNatClampNeg))) 213 (((105 : Int32) : Int32).toNatClampNeg) ((y2 : Int32).toInt64)) _ _) hD
        refine lv_aload_n hx hb dX12_speaks_139 rfl (lv_at hl 1 rfl) ?_
        refine va_get (D := D) (ci := 12) (v := .ref (G.2.1 213)) (C := RX12) (T := TX12) (N := 59) hx hb hts inU_X12 hown hK hP _ (mg_200 G Z Y (sJ (sJ (sJ (sJ (sJ (sJ q9.2 213 (((116 : Int32) : Int32).toNatClampNeg) q8.1) 213 (((99 : Int32) : Int32).toNatClampNeg) y3) 213 (((119 : Int32) : Int32).toNatClampNeg) y8) 213 (((108 : Int32) : Int32).toNatClampNeg) (q9.2.2.1 218 (((y2 - (1 : Int32)) : Int32).toNatClampNeg))) 213 (((105 : Int32) : Int32).toNatClampNeg) ((y2 : Int32).toInt64)) 213 (((106 : Int32) : Int32).toNatClampNeg) ((z10 : Int32).toInt64))) rfl 24 (by decide) (hts _ wd_1272) (fun _ h9 => h9) rfl dX12_speaks_140 ?_
        refine lv_bipush (v := 110) hx hb dX12_speaks_143 (by decide) ?_
        refine lv_aload_n hx hb dX12_speaks_145 rfl (lv_at hl 1 rfl) ?_
        refine va_get (D := D) (ci := 12) (v := .ref (G.2.1 204)) (C := RX12) (T := TX12) (N := 59) hx hb hts inU_X12 hown hK hP _ (mg_200 G Z Y (sJ (sJ (sJ (sJ (sJ (sJ q9.2 213 (((116 : Int32) : Int32).toNatClampNeg) q8.1) 213 (((99 : Int32) : Int32).toNatClampNeg) y3) 213 (((119 : Int32) : Int32).toNatClampNeg) y8) 213 (((108 : Int32) : Int32).toNatClampNeg) (q9.2.2.1 218 (((y2 - (1 : Int32)) : Int32).toNatClampNeg))) 213 (((105 : Int32) : Int32).toNatClampNeg) ((y2 : Int32).toInt64)) 213 (((106 : Int32) : Int32).toNatClampNeg) ((z10 : Int32).toInt64))) rfl 12 (by decide) (hts _ wd_1260) (fun _ h9 => h9) rfl dX12_speaks_146 ?_
        refine lv_iload hx hb dX12_speaks_149 (lv_at hl 6 rfl) ?_
        obtain ⟨c18, h⟩ := f_n h
        refine va_ialdE (v := (q9.2.1 204 ((y6 : Int32).toNatClampNeg))) hx hb hK hP _ 0 (mg_204 G Z Y (sJ (sJ (sJ (sJ (sJ (sJ q9.2 213 (((116 : Int32) : Int32).toNatClampNeg) q8.1) 213 (((99 : Int32) : Int32).toNatClampNeg) y3) 213 (((119 : Int32) : Int32).toNatClampNeg) y8) 213 (((108 : Int32) : Int32).toNatClampNeg) (q9.2.2.1 218 (((y2 - (1 : Int32)) : Int32).toNatClampNeg))) 213 (((105 : Int32) : Int32).toNatClampNeg) ((y2 : Int32).toInt64)) 213 (((106 : Int32) : Int32).toNatClampNeg) ((z10 : Int32).toInt64))) rfl c18 dX12_speaks_151 rfl ?_
        refine lv_i2l (v := ((q9.2.1 204 ((y6 : Int32).toNatClampNeg)) : Int32).toInt64) hx hb dX12_speaks_152 rfl ?_
        obtain ⟨c19, h⟩ := f_n h
        refine va_last hx hb hK hP hD hS _ 1 (mg_213 G Z Y (sJ (sJ (sJ (sJ (sJ (sJ q9.2 213 (((116 : Int32) : Int32).toNatClampNeg) q8.1) 213 (((99 : Int32) : Int32).toNatClampNeg) y3) 213 (((119 : Int32) : Int32).toNatClampNeg) y8) 213 (((108 : Int32) : Int32).toNatClampNeg) (q9.2.2.1 218 (((y2 - (1 : Int32)) : Int32).toNatClampNeg))) 213 (((105 : Int32) : Int32).toNatClampNeg) ((y2 : Int32).toInt64)) 213 (((106 : Int32) : Int32).toNatClampNeg) ((z10 : Int32).toInt64))) rfl c19 dX12_speaks_153 (fun H locs hP hD hS => ?_)
        have hP := wrP (mp_213 G Z Y (sJ (sJ (sJ (sJ (sJ (sJ q9.2 213 (((116 : Int32) : Int32).toNatClampNeg) q8.1) 213 (((99 : Int32) : Int32).toNatClampNeg) y3) 213 (((119 : Int32) : Int32).toNatClampNeg) y8) 213 (((108 : Int32) : Int32).toNatClampNeg) (q9.2.2.1 218 (((y2 - (1 : Int32)) : Int32).toNatClampNeg))) 213 (((105 : Int32) : Int32).toNatClampNeg) ((y2 : Int32).toInt64)) 213 (((106 : Int32) : Int32).toNatClampNeg) ((z10 : Int32).toInt64)) _ _) hP
        have hD := wrD (mp_213 G Z Y (sJ (sJ (sJ (sJ (sJ (sJ q9.2 213 (((116 : Int32) : Int32).toNatClampNeg) q8.1) 213 (((99 : Int32) : Int32).toNatClampNeg) y3) 213 (((119 : Int32) : Int32).toNatClampNeg) y8) 213 (((108 : Int32) : Int32).toNatClampNeg) (q9.2.2.1 218 (((y2 - (1 : Int32)) : Int32).toNatClampNeg))) 213 (((105 : Int32) : Int32).toNatClampNeg) ((y2 : Int32).toInt64)) 213 (((106 : Int32) : Int32).toNatClampNeg) ((z10 : Int32).toInt64)) _ _) hD
        refine lv_aload_n hx hb dX12_speaks_154 rfl (lv_at hl 1 rfl) ?_
        refine va_get (D := D) (ci := 12) (v := .ref (G.2.1 213)) (C := RX12) (T := TX12) (N := 59) hx hb hts inU_X12 hown hK hP _ (mg_200 G Z Y (sJ (sJ (sJ (sJ (sJ (sJ (sJ q9.2 213 (((116 : Int32) : Int32).toNatClampNeg) q8.1) 213 (((99 : Int32) : Int32).toNatClampNeg) y3) 213 (((119 : Int32) : Int32).toNatClampNeg) y8) 213 (((108 : Int32) : Int32).toNatClampNeg) (q9.2.2.1 218 (((y2 - (1 : Int32)) : Int32).toNatClampNeg))) 213 (((105 : Int32) : Int32).toNatClampNeg) ((y2 : Int32).toInt64)) 213 (((106 : Int32) : Int32).toNatClampNeg) ((z10 : Int32).toInt64)) 213 (((110 : Int32) : Int32).toNatClampNeg) (((q9.2.1 204 ((y6 : Int32).toNatClampNeg)) : Int32).toInt64))) rfl 24 (by decide) (hts _ wd_1272) (fun _ h9 => h9) rfl dX12_speaks_155 ?_
        refine lv_bipush (v := 112) hx hb dX12_speaks_158 (by decide) ?_
        refine lv_iload hx hb dX12_speaks_160 (lv_at hl 7 rfl) ?_
        refine lv_i2l (v := (y7 : Int32).toInt64) hx hb dX12_speaks_162 rfl ?_
        obtain ⟨c20, h⟩ := f_n h
        refine va_last hx hb hK hP hD hS _ 1 (mg_213 G Z Y (sJ (sJ (sJ (sJ (sJ (sJ (sJ q9.2 213 (((116 : Int32) : Int32).toNatClampNeg) q8.1) 213 (((99 : Int32) : Int32).toNatClampNeg) y3) 213 (((119 : Int32) : Int32).toNatClampNeg) y8) 213 (((108 : Int32) : Int32).toNatClampNeg) (q9.2.2.1 218 (((y2 - (1 : Int32)) : Int32).toNatClampNeg))) 213 (((105 : Int32) : Int32).toNatClampNeg) ((y2 : Int32).toInt64)) 213 (((106 : Int32) : Int32).toNatClampNeg) ((z10 : Int32).toInt64)) 213 (((110 : Int32) : Int32).toNatClampNeg) (((q9.2.1 204 ((y6 : Int32).toNatClampNeg)) : Int32).toInt64))) rfl c20 dX12_speaks_163 (fun H locs hP hD hS => ?_)
        have hP := wrP (mp_213 G Z Y (sJ (sJ (sJ (sJ (sJ (sJ (sJ q9.2 213 (((116 : Int32) : Int32).toNatClampNeg) q8.1) 213 (((99 : Int32) : Int32).toNatClampNeg) y3) 213 (((119 : Int32) : Int32).toNatClampNeg) y8) 213 (((108 : Int32) : Int32).toNatClampNeg) (q9.2.2.1 218 (((y2 - (1 : Int32)) : Int32).toNatClampNeg))) 213 (((105 : Int32) : Int32).toNatClampNeg) ((y2 : Int32).toInt64)) 213 (((106 : Int32) : Int32).toNatClampNeg) ((z10 : Int32).toInt64)) 213 (((110 : Int32) : Int32).toNatClampNeg) (((q9.2.1 204 ((y6 : Int32).toNatClampNeg)) : Int32).toInt64)) _ _) hP
        have hD := wrD (mp_213 G Z Y (sJ (sJ (sJ (sJ (sJ (sJ (sJ q9.2 213 (((116 : Int32) : Int32).toNatClampNeg) q8.1) 213 (((99 : Int32) : Int32).toNatClampNeg) y3) 213 (((119 : Int32) : Int32).toNatClampNeg) y8) 213 (((108 : Int32) : Int32).toNatClampNeg) (q9.2.2.1 218 (((y2 - (1 : Int32)) : Int32).toNatClampNeg))) 213 (((105 : Int32) : Int32).toNatClampNeg) ((y2 : Int32).toInt64)) 213 (((106 : Int32) : Int32).toNatClampNeg) ((z10 : Int32).toInt64)) 213 (((110 : Int32) : Int32).toNatClampNeg) (((q9.2.1 204 ((y6 : Int32).toNatClampNeg)) : Int32).toInt64)) _ _) hD
        refine lv_aload_n hx hb dX12_speaks_164 rfl (lv_at hl 1 rfl) ?_
        refine va_get (D := D) (ci := 12) (v := .ref (G.2.1 213)) (C := RX12) (T := TX12) (N := 59) hx hb hts inU_X12 hown hK hP _ (mg_200 G Z Y (sJ (sJ (sJ (sJ (sJ (sJ (sJ (sJ q9.2 213 (((116 : Int32) : Int32).toNatClampNeg) q8.1) 213 (((99 : Int32) : Int32).toNatClampNeg) y3) 213 (((119 : Int32) : Int32).toNatClampNeg) y8) 213 (((108 : Int32) : Int32).toNatClampNeg) (q9.2.2.1 218 (((y2 - (1 : Int32)) : Int32).toNatClampNeg))) 213 (((105 : Int32) : Int32).toNatClampNeg) ((y2 : Int32).toInt64)) 213 (((106 : Int32) : Int32).toNatClampNeg) ((z10 : Int32).toInt64)) 213 (((110 : Int32) : Int32).toNatClampNeg) (((q9.2.1 204 ((y6 : Int32).toNatClampNeg)) : Int32).toInt64)) 213 (((112 : Int32) : Int32).toNatClampNeg) ((y7 : Int32).toInt64))) rfl 24 (by decide) (hts _ wd_1272) (fun _ h9 => h9) rfl dX12_speaks_165 ?_
        refine lv_bipush (v := 121) hx hb dX12_speaks_168 (by decide) ?_
        refine lv_iload hx hb dX12_speaks_170 (lv_at hl 5 rfl) ?_
        refine lv_i2l (v := (y5 : Int32).toInt64) hx hb dX12_speaks_172 rfl ?_
        obtain ⟨c21, h⟩ := f_n h
        refine va_last hx hb hK hP hD hS _ 1 (mg_213 G Z Y (sJ (sJ (sJ (sJ (sJ (sJ (sJ (sJ q9.2 213 (((116 : Int32) : Int32).toNatClampNeg) q8.1) 213 (((99 : Int32) : Int32).toNatClampNeg) y3) 213 (((119 : Int32) : Int32).toNatClampNeg) y8) 213 (((108 : Int32) : Int32).toNatClampNeg) (q9.2.2.1 218 (((y2 - (1 : Int32)) : Int32).toNatClampNeg))) 213 (((105 : Int32) : Int32).toNatClampNeg) ((y2 : Int32).toInt64)) 213 (((106 : Int32) : Int32).toNatClampNeg) ((z10 : Int32).toInt64)) 213 (((110 : Int32) : Int32).toNatClampNeg) (((q9.2.1 204 ((y6 : Int32).toNatClampNeg)) : Int32).toInt64)) 213 (((112 : Int32) : Int32).toNatClampNeg) ((y7 : Int32).toInt64))) rfl c21 dX12_speaks_173 (fun H locs hP hD hS => ?_)
        have hP := wrP (mp_213 G Z Y (sJ (sJ (sJ (sJ (sJ (sJ (sJ (sJ q9.2 213 (((116 : Int32) : Int32).toNatClampNeg) q8.1) 213 (((99 : Int32) : Int32).toNatClampNeg) y3) 213 (((119 : Int32) : Int32).toNatClampNeg) y8) 213 (((108 : Int32) : Int32).toNatClampNeg) (q9.2.2.1 218 (((y2 - (1 : Int32)) : Int32).toNatClampNeg))) 213 (((105 : Int32) : Int32).toNatClampNeg) ((y2 : Int32).toInt64)) 213 (((106 : Int32) : Int32).toNatClampNeg) ((z10 : Int32).toInt64)) 213 (((110 : Int32) : Int32).toNatClampNeg) (((q9.2.1 204 ((y6 : Int32).toNatClampNeg)) : Int32).toInt64)) 213 (((112 : Int32) : Int32).toNatClampNeg) ((y7 : Int32).toInt64)) _ _) hP
        have hD := wrD (mp_213 G Z Y (sJ (sJ (sJ (sJ (sJ (sJ (sJ (sJ q9.2 213 (((116 : Int32) : Int32).toNatClampNeg) q8.1) 213 (((99 : Int32) : Int32).toNatClampNeg) y3) 213 (((119 : Int32) : Int32).toNatClampNeg) y8) 213 (((108 : Int32) : Int32).toNatClampNeg) (q9.2.2.1 218 (((y2 - (1 : Int32)) : Int32).toNatClampNeg))) 213 (((105 : Int32) : Int32).toNatClampNeg) ((y2 : Int32).toInt64)) 213 (((106 : Int32) : Int32).toNatClampNeg) ((z10 : Int32).toInt64)) 213 (((110 : Int32) : Int32).toNatClampNeg) (((q9.2.1 204 ((y6 : Int32).toNatClampNeg)) : Int32).toInt64)) 213 (((112 : Int32) : Int32).toNatClampNeg) ((y7 : Int32).toInt64)) _ _) hD
        refine lv_aload_n hx hb dX12_speaks_174 rfl (lv_at hl 1 rfl) ?_
        refine va_get (D := D) (ci := 12) (v := .ref (G.2.1 219)) (C := RX12) (T := TX12) (N := 59) hx hb hts inU_X12 hown hK hP _ (mg_200 G Z Y (sJ (sJ (sJ (sJ (sJ (sJ (sJ (sJ (sJ q9.2 213 (((116 : Int32) : Int32).toNatClampNeg) q8.1) 213 (((99 : Int32) : Int32).toNatClampNeg) y3) 213 (((119 : Int32) : Int32).toNatClampNeg) y8) 213 (((108 : Int32) : Int32).toNatClampNeg) (q9.2.2.1 218 (((y2 - (1 : Int32)) : Int32).toNatClampNeg))) 213 (((105 : Int32) : Int32).toNatClampNeg) ((y2 : Int32).toInt64)) 213 (((106 : Int32) : Int32).toNatClampNeg) ((z10 : Int32).toInt64)) 213 (((110 : Int32) : Int32).toNatClampNeg) (((q9.2.1 204 ((y6 : Int32).toNatClampNeg)) : Int32).toInt64)) 213 (((112 : Int32) : Int32).toNatClampNeg) ((y7 : Int32).toInt64)) 213 (((121 : Int32) : Int32).toNatClampNeg) ((y5 : Int32).toInt64))) rfl 38 (by decide) (hts _ wd_1286) (fun _ h9 => h9) rfl dX12_speaks_175 ?_
        refine lv_sipush (v := 201) hx hb dX12_speaks_178 (by decide) ?_
        refine lv_iload_n hx hb dX12_speaks_181 rfl (lv_at hl 3 rfl) ?_
        refine lv_imul hx hb dX12_speaks_182 ?_
        refine lv_iload hx hb dX12_speaks_183 (lv_at hl 9 rfl) ?_
        refine lv_iadd hx hb dX12_speaks_185 ?_
        refine lv_aload_n hx hb dX12_speaks_186 rfl (lv_at hl 1 rfl) ?_
        refine lv_bipush (v := 12) hx hb dX12_speaks_187 (by decide) ?_
        refine lv_aload_n hx hb dX12_speaks_189 rfl (lv_at hl 1 rfl) ?_
        refine va_get (D := D) (ci := 12) (v := .ref (G.2.1 217)) (C := RX12) (T := TX12) (N := 59) hx hb hts inU_X12 hown hK hP _ (mg_200 G Z Y (sJ (sJ (sJ (sJ (sJ (sJ (sJ (sJ (sJ q9.2 213 (((116 : Int32) : Int32).toNatClampNeg) q8.1) 213 (((99 : Int32) : Int32).toNatClampNeg) y3) 213 (((119 : Int32) : Int32).toNatClampNeg) y8) 213 (((108 : Int32) : Int32).toNatClampNeg) (q9.2.2.1 218 (((y2 - (1 : Int32)) : Int32).toNatClampNeg))) 213 (((105 : Int32) : Int32).toNatClampNeg) ((y2 : Int32).toInt64)) 213 (((106 : Int32) : Int32).toNatClampNeg) ((z10 : Int32).toInt64)) 213 (((110 : Int32) : Int32).toNatClampNeg) (((q9.2.1 204 ((y6 : Int32).toNatClampNeg)) : Int32).toInt64)) 213 (((112 : Int32) : Int32).toNatClampNeg) ((y7 : Int32).toInt64)) 213 (((121 : Int32) : Int32).toNatClampNeg) ((y5 : Int32).toInt64))) rfl 35 (by decide) (hts _ wd_1283) (fun _ h9 => h9) rfl dX12_speaks_190 ?_
        refine lv_iload_n hx hb dX12_speaks_193 rfl (lv_at hl 2 rfl) ?_
        obtain ⟨c22, h⟩ := f_n h
        refine va_ialdE (v := (q9.2.1 217 ((y1 : Int32).toNatClampNeg))) hx hb hK hP _ 0 (mg_217 G Z Y (sJ (sJ (sJ (sJ (sJ (sJ (sJ (sJ (sJ q9.2 213 (((116 : Int32) : Int32).toNatClampNeg) q8.1) 213 (((99 : Int32) : Int32).toNatClampNeg) y3) 213 (((119 : Int32) : Int32).toNatClampNeg) y8) 213 (((108 : Int32) : Int32).toNatClampNeg) (q9.2.2.1 218 (((y2 - (1 : Int32)) : Int32).toNatClampNeg))) 213 (((105 : Int32) : Int32).toNatClampNeg) ((y2 : Int32).toInt64)) 213 (((106 : Int32) : Int32).toNatClampNeg) ((z10 : Int32).toInt64)) 213 (((110 : Int32) : Int32).toNatClampNeg) (((q9.2.1 204 ((y6 : Int32).toNatClampNeg)) : Int32).toInt64)) 213 (((112 : Int32) : Int32).toNatClampNeg) ((y7 : Int32).toInt64)) 213 (((121 : Int32) : Int32).toNatClampNeg) ((y5 : Int32).toInt64))) rfl c22 dX12_speaks_194 rfl ?_
        refine lv_iadd hx hb dX12_speaks_195 ?_
        refine lv_iconst (v := 1) hx hb dX12_speaks_196 (by decide) ?_
        refine lv_bipush (v := 118) hx hb dX12_speaks_197 (by decide) ?_
        obtain ⟨q23, hq23, h⟩ := f_b h
        refine cl_V (w := (mW G Z Y (sJ (sJ (sJ (sJ (sJ (sJ (sJ (sJ (sJ q9.2 213 (((116 : Int32) : Int32).toNatClampNeg) q8.1) 213 (((99 : Int32) : Int32).toNatClampNeg) y3) 213 (((119 : Int32) : Int32).toNatClampNeg) y8) 213 (((108 : Int32) : Int32).toNatClampNeg) (q9.2.2.1 218 (((y2 - (1 : Int32)) : Int32).toNatClampNeg))) 213 (((105 : Int32) : Int32).toNatClampNeg) ((y2 : Int32).toInt64)) 213 (((106 : Int32) : Int32).toNatClampNeg) ((z10 : Int32).toInt64)) 213 (((110 : Int32) : Int32).toNatClampNeg) (((q9.2.1 204 ((y6 : Int32).toNatClampNeg)) : Int32).toInt64)) 213 (((112 : Int32) : Int32).toNatClampNeg) ((y7 : Int32).toInt64)) 213 (((121 : Int32) : Int32).toNatClampNeg) ((y5 : Int32).toInt64)))) (w' := (mW G Z Y q23.2)) (rv := some (.long q23.1)) (bytes := cX12_worthOf) (maxL := 4) (ret := (some .long)) (C := RX12) (As := [.int ((12 : Int32) + (q9.2.1 217 ((y1 : Int32).toNatClampNeg))), .int (1 : Int32), .int (118 : Int32)]) (rest := [.int (((201 : Int32) * y2) + z10), .ref (G.2.1 219)]) (stk := [.long q23.1, .int (((201 : Int32) * y2) + z10), .ref (G.2.1 219)]) ⟨hx, hb, hml, hown, hts⟩ hK hE hA hP hD hS (c_X12_worthOf l D G Z Y (sJ (sJ (sJ (sJ (sJ (sJ (sJ (sJ (sJ q9.2 213 (((116 : Int32) : Int32).toNatClampNeg) q8.1) 213 (((99 : Int32) : Int32).toNatClampNeg) y3) 213 (((119 : Int32) : Int32).toNatClampNeg) y8) 213 (((108 : Int32) : Int32).toNatClampNeg) (q9.2.2.1 218 (((y2 - (1 : Int32)) : Int32).toNatClampNeg))) 213 (((105 : Int32) : Int32).toNatClampNeg) ((y2 : Int32).toInt64)) 213 (((106 : Int32) : Int32).toNatClampNeg) ((z10 : Int32).toInt64)) 213 (((110 : Int32) : Int32).toNatClampNeg) (((q9.2.1 204 ((y6 : Int32).toNatClampNeg)) : Int32).toInt64)) 213 (((112 : Int32) : Int32).toNatClampNeg) ((y7 : Int32).toInt64)) 213 (((121 : Int32) : Int32).toNatClampNeg) ((y5 : Int32).toInt64)) F ((12 : Int32) + (q9.2.1 217 ((y1 : Int32).toNatClampNeg))) (1 : Int32) (118 : Int32) q23 hq23) (cwV 3 hts (gwV wd_1669 wd_1671 wp_80 wd_11 wd_1672) rfl rfl rfl hd_X12_worthOf ⟨Nat.le_of_ble_eq_true rfl, Nat.le_of_ble_eq_true rfl⟩) (mg_200 G Z Y (sJ (sJ (sJ (sJ (sJ (sJ (sJ (sJ (sJ q9.2 213 (((116 : Int32) : Int32).toNatClampNeg) q8.1) 213 (((99 : Int32) : Int32).toNatClampNeg) y3) 213 (((119 : Int32) : Int32).toNatClampNeg) y8) 213 (((108 : Int32) : Int32).toNatClampNeg) (q9.2.2.1 218 (((y2 - (1 : Int32)) : Int32).toNatClampNeg))) 213 (((105 : Int32) : Int32).toNatClampNeg) ((y2 : Int32).toInt64)) 213 (((106 : Int32) : Int32).toNatClampNeg) ((z10 : Int32).toInt64)) 213 (((110 : Int32) : Int32).toNatClampNeg) (((q9.2.1 204 ((y6 : Int32).toNatClampNeg)) : Int32).toInt64)) 213 (((112 : Int32) : Int32).toNatClampNeg) ((y7 : Int32).toInt64)) 213 (((121 : Int32) : Int32).toNatClampNeg) ((y5 : Int32).toInt64))) rfl rfl rfl hl.1 rfl (Nat.le_of_ble_eq_true rfl) dX12_speaks_199 ⟨Nat.zero_le _, Nat.zero_le _⟩ rfl (fun H locs hP hD hS => ?_)
        refine lv_iload hx hb dX12_speaks_202 (lv_at hl 7 rfl) ?_
        refine lv_i2l (v := (y7 : Int32).toInt64) hx hb dX12_speaks_204 rfl ?_
        obtain ⟨q24, hq24, h⟩ := f_b h
        refine cl_S (w := (mW G Z Y q23.2)) (w' := (mW G Z Y q23.2)) (rv := some (.long q24)) (bytes := cX12_rest) (maxL := 6) (ret := (some .long)) (As := [.long q23.1, .long (y7 : Int32).toInt64]) (rest := [.int (((201 : Int32) * y2) + z10), .ref (G.2.1 219)]) (stk := [.long q24, .int (((201 : Int32) * y2) + z10), .ref (G.2.1 219)]) ⟨hx, hb, hml, hown, hts⟩ hK hE hA hP hD hS (c_X12_rest l D G (mW G Z Y q23.2) q23.1 ((y7 : Int32).toInt64) q24 hq24) (mkS hts wd_1514 wd_1515 wd_11 wd_1516 rfl rfl hd_X12_rest ⟨Nat.le_of_ble_eq_true rfl, Nat.le_of_ble_eq_true rfl⟩) rfl hl.1 rfl (Nat.le_of_ble_eq_true rfl) dX12_speaks_205 ⟨Nat.zero_le _, Nat.zero_le _⟩ rfl (fun H locs hP hD hS => ?_)
        obtain ⟨c25, h⟩ := f_n h
        refine va_last hx hb hK hP hD hS _ 1 (mg_219 G Z Y q23.2) rfl c25 dX12_speaks_208 (fun H locs hP hD hS => ?_)
        have hP := wrP (mp_219 G Z Y q23.2 _ _) hP
        have hD := wrD (mp_219 G Z Y q23.2 _ _) hD
        refine lv_iinc (v := (z10 + 1)) (lv' := [(10, .int (z10 + 1)), (11, .long q8.1), (0, .ref (G.2.1 200)), (1, .int y1), (2, .int y2), (3, .long y3), (5, .int y5), (6, .int y6), (7, .int y7), (8, .long y8)]) hx hb dX12_speaks_209 hl (k := 9) rfl rfl (by decide) rfl (fun ls hl => ?_)
        refine lv_goto (tgt := 40) hx hb dX12_speaks_212 (by decide) ?_
        exact ih (sJ q23.2 219 (((((201 : Int32) * y2) + z10) : Int32).toNatClampNeg) q24) (z10 + 1) h _ _ _ hP hD hS (lv_sub hl [2, 3, 4, 5, 6, 7, 8, 9, 0] rfl)
      · skip
        have h := f_t c13 h
        refine lv_lconst (v := 0) hx hb dX12_speaks_107 (by decide) ?_
        refine lv_goto (tgt := 119) hx hb dX12_speaks_108 (by decide) ?_
        obtain ⟨c26, h⟩ := f_n h
        refine va_last hx hb hK hP hD hS _ 1 (mg_213 G Z Y (sJ (sJ (sJ q9.2 213 (((116 : Int32) : Int32).toNatClampNeg) q8.1) 213 (((99 : Int32) : Int32).toNatClampNeg) y3) 213 (((119 : Int32) : Int32).toNatClampNeg) y8)) rfl c26 dX12_speaks_119 (fun H locs hP hD hS => ?_)
        have hP := wrP (mp_213 G Z Y (sJ (sJ (sJ q9.2 213 (((116 : Int32) : Int32).toNatClampNeg) q8.1) 213 (((99 : Int32) : Int32).toNatClampNeg) y3) 213 (((119 : Int32) : Int32).toNatClampNeg) y8) _ _) hP
        have hD := wrD (mp_213 G Z Y (sJ (sJ (sJ q9.2 213 (((116 : Int32) : Int32).toNatClampNeg) q8.1) 213 (((99 : Int32) : Int32).toNatClampNeg) y3) 213 (((119 : Int32) : Int32).toNatClampNeg) y8) _ _) hD
        refine lv_aload_n hx hb dX12_speaks_120 rfl (lv_at hl 1 rfl) ?_
        refine va_get (D := D) (ci := 12) (v := .ref (G.2.1 213)) (C := RX12) (T := TX12) (N := 59) hx hb hts inU_X12 hown hK hP _ (mg_200 G Z Y (sJ (sJ (sJ (sJ q9.2 213 (((116 : Int32) : Int32).toNatClampNeg) q8.1) 213 (((99 : Int32) : Int32).toNatClampNeg) y3) 213 (((119 : Int32) : Int32).toNatClampNeg) y8) 213 (((108 : Int32) : Int32).toNatClampNeg) (0 : Int64))) rfl 24 (by decide) (hts _ wd_1272) (fun _ h9 => h9) rfl dX12_speaks_121 ?_
        refine lv_bipush (v := 105) hx hb dX12_speaks_124 (by decide) ?_
        refine lv_iload_n hx hb dX12_speaks_126 rfl (lv_at hl 3 rfl) ?_
        refine lv_i2l (v := (y2 : Int32).toInt64) hx hb dX12_speaks_127 rfl ?_
        obtain ⟨c27, h⟩ := f_n h
        refine va_last hx hb hK hP hD hS _ 1 (mg_213 G Z Y (sJ (sJ (sJ (sJ q9.2 213 (((116 : Int32) : Int32).toNatClampNeg) q8.1) 213 (((99 : Int32) : Int32).toNatClampNeg) y3) 213 (((119 : Int32) : Int32).toNatClampNeg) y8) 213 (((108 : Int32) : Int32).toNatClampNeg) (0 : Int64))) rfl c27 dX12_speaks_128 (fun H locs hP hD hS => ?_)
        have hP := wrP (mp_213 G Z Y (sJ (sJ (sJ (sJ q9.2 213 (((116 : Int32) : Int32).toNatClampNeg) q8.1) 213 (((99 : Int32) : Int32).toNatClampNeg) y3) 213 (((119 : Int32) : Int32).toNatClampNeg) y8) 213 (((108 : Int32) : Int32).toNatClampNeg) (0 : Int64)) _ _) hP
        have hD := wrD (mp_213 G Z Y (sJ (sJ (sJ (sJ q9.2 213 (((116 : Int32) : Int32).toNatClampNeg) q8.1) 213 (((99 : Int32) : Int32).toNatClampNeg) y3) 213 (((119 : Int32) : Int32).toNatClampNeg) y8) 213 (((108 : Int32) : Int32).toNatClampNeg) (0 : Int64)) _ _) hD
        refine lv_aload_n hx hb dX12_speaks_129 rfl (lv_at hl 1 rfl) ?_
        refine va_get (D := D) (ci := 12) (v := .ref (G.2.1 213)) (C := RX12) (T := TX12) (N := 59) hx hb hts inU_X12 hown hK hP _ (mg_200 G Z Y (sJ (sJ (sJ (sJ (sJ q9.2 213 (((116 : Int32) : Int32).toNatClampNeg) q8.1) 213 (((99 : Int32) : Int32).toNatClampNeg) y3) 213 (((119 : Int32) : Int32).toNatClampNeg) y8) 213 (((108 : Int32) : Int32).toNatClampNeg) (0 : Int64)) 213 (((105 : Int32) : Int32).toNatClampNeg) ((y2 : Int32).toInt64))) rfl 24 (by decide) (hts _ wd_1272) (fun _ h9 => h9) rfl dX12_speaks_130 ?_
        refine lv_bipush (v := 106) hx hb dX12_speaks_133 (by decide) ?_
        refine lv_iload hx hb dX12_speaks_135 (lv_at hl 9 rfl) ?_
        refine lv_i2l (v := (z10 : Int32).toInt64) hx hb dX12_speaks_137 rfl ?_
        obtain ⟨c28, h⟩ := f_n h
        refine va_last hx hb hK hP hD hS _ 1 (mg_213 G Z Y (sJ (sJ (sJ (sJ (sJ q9.2 213 (((116 : Int32) : Int32).toNatClampNeg) q8.1) 213 (((99 : Int32) : Int32).toNatClampNeg) y3) 213 (((119 : Int32) : Int32).toNatClampNeg) y8) 213 (((108 : Int32) : Int32).toNatClampNeg) (0 : Int64)) 213 (((105 : Int32) : Int32).toNatClampNeg) ((y2 : Int32).toInt64))) rfl c28 dX12_speaks_138 (fun H locs hP hD hS => ?_)
        have hP := wrP (mp_213 G Z Y (sJ (sJ (sJ (sJ (sJ q9.2 213 (((116 : Int32) : Int32).toNatClampNeg) q8.1) 213 (((99 : Int32) : Int32).toNatClampNeg) y3) 213 (((119 : Int32) : Int32).toNatClampNeg) y8) 213 (((108 : Int32) : Int32).toNatClampNeg) (0 : Int64)) 213 (((105 : Int32) : Int32).toNatClampNeg) ((y2 : Int32).toInt64)) _ _) hP
        have hD := wrD (mp_213 G Z Y (sJ (sJ (sJ (sJ (sJ q9.2 213 (((116 : Int32) : Int32).toNatClampNeg) q8.1) 213 (((99 : Int32) : Int32).toNatClampNeg) y3) 213 (((119 : Int32) : Int32).toNatClampNeg) y8) 213 (((108 : Int32) : Int32).toNatClampNeg) (0 : Int64)) 213 (((105 : Int32) : Int32).toNatClampNeg) ((y2 : Int32).toInt64)) _ _) hD
        refine lv_aload_n hx hb dX12_speaks_139 rfl (lv_at hl 1 rfl) ?_
        refine va_get (D := D) (ci := 12) (v := .ref (G.2.1 213)) (C := RX12) (T := TX12) (N := 59) hx hb hts inU_X12 hown hK hP _ (mg_200 G Z Y (sJ (sJ (sJ (sJ (sJ (sJ q9.2 213 (((116 : Int32) : Int32).toNatClampNeg) q8.1) 213 (((99 : Int32) : Int32).toNatClampNeg) y3) 213 (((119 : Int32) : Int32).toNatClampNeg) y8) 213 (((108 : Int32) : Int32).toNatClampNeg) (0 : Int64)) 213 (((105 : Int32) : Int32).toNatClampNeg) ((y2 : Int32).toInt64)) 213 (((106 : Int32) : Int32).toNatClampNeg) ((z10 : Int32).toInt64))) rfl 24 (by decide) (hts _ wd_1272) (fun _ h9 => h9) rfl dX12_speaks_140 ?_
        refine lv_bipush (v := 110) hx hb dX12_speaks_143 (by decide) ?_
        refine lv_aload_n hx hb dX12_speaks_145 rfl (lv_at hl 1 rfl) ?_
        refine va_get (D := D) (ci := 12) (v := .ref (G.2.1 204)) (C := RX12) (T := TX12) (N := 59) hx hb hts inU_X12 hown hK hP _ (mg_200 G Z Y (sJ (sJ (sJ (sJ (sJ (sJ q9.2 213 (((116 : Int32) : Int32).toNatClampNeg) q8.1) 213 (((99 : Int32) : Int32).toNatClampNeg) y3) 213 (((119 : Int32) : Int32).toNatClampNeg) y8) 213 (((108 : Int32) : Int32).toNatClampNeg) (0 : Int64)) 213 (((105 : Int32) : Int32).toNatClampNeg) ((y2 : Int32).toInt64)) 213 (((106 : Int32) : Int32).toNatClampNeg) ((z10 : Int32).toInt64))) rfl 12 (by decide) (hts _ wd_1260) (fun _ h9 => h9) rfl dX12_speaks_146 ?_
        refine lv_iload hx hb dX12_speaks_149 (lv_at hl 6 rfl) ?_
        obtain ⟨c29, h⟩ := f_n h
        refine va_ialdE (v := (q9.2.1 204 ((y6 : Int32).toNatClampNeg))) hx hb hK hP _ 0 (mg_204 G Z Y (sJ (sJ (sJ (sJ (sJ (sJ q9.2 213 (((116 : Int32) : Int32).toNatClampNeg) q8.1) 213 (((99 : Int32) : Int32).toNatClampNeg) y3) 213 (((119 : Int32) : Int32).toNatClampNeg) y8) 213 (((108 : Int32) : Int32).toNatClampNeg) (0 : Int64)) 213 (((105 : Int32) : Int32).toNatClampNeg) ((y2 : Int32).toInt64)) 213 (((106 : Int32) : Int32).toNatClampNeg) ((z10 : Int32).toInt64))) rfl c29 dX12_speaks_151 rfl ?_
        refine lv_i2l (v := ((q9.2.1 204 ((y6 : Int32).toNatClampNeg)) : Int32).toInt64) hx hb dX12_speaks_152 rfl ?_
        obtain ⟨c30, h⟩ := f_n h
        refine va_last hx hb hK hP hD hS _ 1 (mg_213 G Z Y (sJ (sJ (sJ (sJ (sJ (sJ q9.2 213 (((116 : Int32) : Int32).toNatClampNeg) q8.1) 213 (((99 : Int32) : Int32).toNatClampNeg) y3) 213 (((119 : Int32) : Int32).toNatClampNeg) y8) 213 (((108 : Int32) : Int32).toNatClampNeg) (0 : Int64)) 213 (((105 : Int32) : Int32).toNatClampNeg) ((y2 : Int32).toInt64)) 213 (((106 : Int32) : Int32).toNatClampNeg) ((z10 : Int32).toInt64))) rfl c30 dX12_speaks_153 (fun H locs hP hD hS => ?_)
        have hP := wrP (mp_213 G Z Y (sJ (sJ (sJ (sJ (sJ (sJ q9.2 213 (((116 : Int32) : Int32).toNatClampNeg) q8.1) 213 (((99 : Int32) : Int32).toNatClampNeg) y3) 213 (((119 : Int32) : Int32).toNatClampNeg) y8) 213 (((108 : Int32) : Int32).toNatClampNeg) (0 : Int64)) 213 (((105 : Int32) : Int32).toNatClampNeg) ((y2 : Int32).toInt64)) 213 (((106 : Int32) : Int32).toNatClampNeg) ((z10 : Int32).toInt64)) _ _) hP
        have hD := wrD (mp_213 G Z Y (sJ (sJ (sJ (sJ (sJ (sJ q9.2 213 (((116 : Int32) : Int32).toNatClampNeg) q8.1) 213 (((99 : Int32) : Int32).toNatClampNeg) y3) 213 (((119 : Int32) : Int32).toNatClampNeg) y8) 213 (((108 : Int32) : Int32).toNatClampNeg) (0 : Int64)) 213 (((105 : Int32) : Int32).toNatClampNeg) ((y2 : Int32).toInt64)) 213 (((106 : Int32) : Int32).toNatClampNeg) ((z10 : Int32).toInt64)) _ _) hD
        refine lv_aload_n hx hb dX12_speaks_154 rfl (lv_at hl 1 rfl) ?_
        refine va_get (D := D) (ci := 12) (v := .ref (G.2.1 213)) (C := RX12) (T := TX12) (N := 59) hx hb hts inU_X12 hown hK hP _ (mg_200 G Z Y (sJ (sJ (sJ (sJ (sJ (sJ (sJ q9.2 213 (((116 : Int32) : Int32).toNatClampNeg) q8.1) 213 (((99 : Int32) : Int32).toNatClampNeg) y3) 213 (((119 : Int32) : Int32).toNatClampNeg) y8) 213 (((108 : Int32) : Int32).toNatClampNeg) (0 : Int64)) 213 (((105 : Int32) : Int32).toNatClampNeg) ((y2 : Int32).toInt64)) 213 (((106 : Int32) : Int32).toNatClampNeg) ((z10 : Int32).toInt64)) 213 (((110 : Int32) : Int32).toNatClampNeg) (((q9.2.1 204 ((y6 : Int32).toNatClampNeg)) : Int32).toInt64))) rfl 24 (by decide) (hts _ wd_1272) (fun _ h9 => h9) rfl dX12_speaks_155 ?_
        refine lv_bipush (v := 112) hx hb dX12_speaks_158 (by decide) ?_
        refine lv_iload hx hb dX12_speaks_160 (lv_at hl 7 rfl) ?_
        refine lv_i2l (v := (y7 : Int32).toInt64) hx hb dX12_speaks_162 rfl ?_
        obtain ⟨c31, h⟩ := f_n h
        refine va_last hx hb hK hP hD hS _ 1 (mg_213 G Z Y (sJ (sJ (sJ (sJ (sJ (sJ (sJ q9.2 213 (((116 : Int32) : Int32).toNatClampNeg) q8.1) 213 (((99 : Int32) : Int32).toNatClampNeg) y3) 213 (((119 : Int32) : Int32).toNatClampNeg) y8) 213 (((108 : Int32) : Int32).toNatClampNeg) (0 : Int64)) 213 (((105 : Int32) : Int32).toNatClampNeg) ((y2 : Int32).toInt64)) 213 (((106 : Int32) : Int32).toNatClampNeg) ((z10 : Int32).toInt64)) 213 (((110 : Int32) : Int32).toNatClampNeg) (((q9.2.1 204 ((y6 : Int32).toNatClampNeg)) : Int32).toInt64))) rfl c31 dX12_speaks_163 (fun H locs hP hD hS => ?_)
        have hP := wrP (mp_213 G Z Y (sJ (sJ (sJ (sJ (sJ (sJ (sJ q9.2 213 (((116 : Int32) : Int32).toNatClampNeg) q8.1) 213 (((99 : Int32) : Int32).toNatClampNeg) y3) 213 (((119 : Int32) : Int32).toNatClampNeg) y8) 213 (((108 : Int32) : Int32).toNatClampNeg) (0 : Int64)) 213 (((105 : Int32) : Int32).toNatClampNeg) ((y2 : Int32).toInt64)) 213 (((106 : Int32) : Int32).toNatClampNeg) ((z10 : Int32).toInt64)) 213 (((110 : Int32) : Int32).toNatClampNeg) (((q9.2.1 204 ((y6 : Int32).toNatClampNeg)) : Int32).toInt64)) _ _) hP
        have hD := wrD (mp_213 G Z Y (sJ (sJ (sJ (sJ (sJ (sJ (sJ q9.2 213 (((116 : Int32) : Int32).toNatClampNeg) q8.1) 213 (((99 : Int32) : Int32).toNatClampNeg) y3) 213 (((119 : Int32) : Int32).toNatClampNeg) y8) 213 (((108 : Int32) : Int32).toNatClampNeg) (0 : Int64)) 213 (((105 : Int32) : Int32).toNatClampNeg) ((y2 : Int32).toInt64)) 213 (((106 : Int32) : Int32).toNatClampNeg) ((z10 : Int32).toInt64)) 213 (((110 : Int32) : Int32).toNatClampNeg) (((q9.2.1 204 ((y6 : Int32).toNatClampNeg)) : Int32).toInt64)) _ _) hD
        refine lv_aload_n hx hb dX12_speaks_164 rfl (lv_at hl 1 rfl) ?_
        refine va_get (D := D) (ci := 12) (v := .ref (G.2.1 213)) (C := RX12) (T := TX12) (N := 59) hx hb hts inU_X12 hown hK hP _ (mg_200 G Z Y (sJ (sJ (sJ (sJ (sJ (sJ (sJ (sJ q9.2 213 (((116 : Int32) : Int32).toNatClampNeg) q8.1) 213 (((99 : Int32) : Int32).toNatClampNeg) y3) 213 (((119 : Int32) : Int32).toNatClampNeg) y8) 213 (((108 : Int32) : Int32).toNatClampNeg) (0 : Int64)) 213 (((105 : Int32) : Int32).toNatClampNeg) ((y2 : Int32).toInt64)) 213 (((106 : Int32) : Int32).toNatClampNeg) ((z10 : Int32).toInt64)) 213 (((110 : Int32) : Int32).toNatClampNeg) (((q9.2.1 204 ((y6 : Int32).toNatClampNeg)) : Int32).toInt64)) 213 (((112 : Int32) : Int32).toNatClampNeg) ((y7 : Int32).toInt64))) rfl 24 (by decide) (hts _ wd_1272) (fun _ h9 => h9) rfl dX12_speaks_165 ?_
        refine lv_bipush (v := 121) hx hb dX12_speaks_168 (by decide) ?_
        refine lv_iload hx hb dX12_speaks_170 (lv_at hl 5 rfl) ?_
        refine lv_i2l (v := (y5 : Int32).toInt64) hx hb dX12_speaks_172 rfl ?_
        obtain ⟨c32, h⟩ := f_n h
        refine va_last hx hb hK hP hD hS _ 1 (mg_213 G Z Y (sJ (sJ (sJ (sJ (sJ (sJ (sJ (sJ q9.2 213 (((116 : Int32) : Int32).toNatClampNeg) q8.1) 213 (((99 : Int32) : Int32).toNatClampNeg) y3) 213 (((119 : Int32) : Int32).toNatClampNeg) y8) 213 (((108 : Int32) : Int32).toNatClampNeg) (0 : Int64)) 213 (((105 : Int32) : Int32).toNatClampNeg) ((y2 : Int32).toInt64)) 213 (((106 : Int32) : Int32).toNatClampNeg) ((z10 : Int32).toInt64)) 213 (((110 : Int32) : Int32).toNatClampNeg) (((q9.2.1 204 ((y6 : Int32).toNatClampNeg)) : Int32).toInt64)) 213 (((112 : Int32) : Int32).toNatClampNeg) ((y7 : Int32).toInt64))) rfl c32 dX12_speaks_173 (fun H locs hP hD hS => ?_)
        have hP := wrP (mp_213 G Z Y (sJ (sJ (sJ (sJ (sJ (sJ (sJ (sJ q9.2 213 (((116 : Int32) : Int32).toNatClampNeg) q8.1) 213 (((99 : Int32) : Int32).toNatClampNeg) y3) 213 (((119 : Int32) : Int32).toNatClampNeg) y8) 213 (((108 : Int32) : Int32).toNatClampNeg) (0 : Int64)) 213 (((105 : Int32) : Int32).toNatClampNeg) ((y2 : Int32).toInt64)) 213 (((106 : Int32) : Int32).toNatClampNeg) ((z10 : Int32).toInt64)) 213 (((110 : Int32) : Int32).toNatClampNeg) (((q9.2.1 204 ((y6 : Int32).toNatClampNeg)) : Int32).toInt64)) 213 (((112 : Int32) : Int32).toNatClampNeg) ((y7 : Int32).toInt64)) _ _) hP
        have hD := wrD (mp_213 G Z Y (sJ (sJ (sJ (sJ (sJ (sJ (sJ (sJ q9.2 213 (((116 : Int32) : Int32).toNatClampNeg) q8.1) 213 (((99 : Int32) : Int32).toNatClampNeg) y3) 213 (((119 : Int32) : Int32).toNatClampNeg) y8) 213 (((108 : Int32) : Int32).toNatClampNeg) (0 : Int64)) 213 (((105 : Int32) : Int32).toNatClampNeg) ((y2 : Int32).toInt64)) 213 (((106 : Int32) : Int32).toNatClampNeg) ((z10 : Int32).toInt64)) 213 (((110 : Int32) : Int32).toNatClampNeg) (((q9.2.1 204 ((y6 : Int32).toNatClampNeg)) : Int32).toInt64)) 213 (((112 : Int32) : Int32).toNatClampNeg) ((y7 : Int32).toInt64)) _ _) hD
        refine lv_aload_n hx hb dX12_speaks_174 rfl (lv_at hl 1 rfl) ?_
        refine va_get (D := D) (ci := 12) (v := .ref (G.2.1 219)) (C := RX12) (T := TX12) (N := 59) hx hb hts inU_X12 hown hK hP _ (mg_200 G Z Y (sJ (sJ (sJ (sJ (sJ (sJ (sJ (sJ (sJ q9.2 213 (((116 : Int32) : Int32).toNatClampNeg) q8.1) 213 (((99 : Int32) : Int32).toNatClampNeg) y3) 213 (((119 : Int32) : Int32).toNatClampNeg) y8) 213 (((108 : Int32) : Int32).toNatClampNeg) (0 : Int64)) 213 (((105 : Int32) : Int32).toNatClampNeg) ((y2 : Int32).toInt64)) 213 (((106 : Int32) : Int32).toNatClampNeg) ((z10 : Int32).toInt64)) 213 (((110 : Int32) : Int32).toNatClampNeg) (((q9.2.1 204 ((y6 : Int32).toNatClampNeg)) : Int32).toInt64)) 213 (((112 : Int32) : Int32).toNatClampNeg) ((y7 : Int32).toInt64)) 213 (((121 : Int32) : Int32).toNatClampNeg) ((y5 : Int32).toInt64))) rfl 38 (by decide) (hts _ wd_1286) (fun _ h9 => h9) rfl dX12_speaks_175 ?_
        refine lv_sipush (v := 201) hx hb dX12_speaks_178 (by decide) ?_
        refine lv_iload_n hx hb dX12_speaks_181 rfl (lv_at hl 3 rfl) ?_
        refine lv_imul hx hb dX12_speaks_182 ?_
        refine lv_iload hx hb dX12_speaks_183 (lv_at hl 9 rfl) ?_
        refine lv_iadd hx hb dX12_speaks_185 ?_
        refine lv_aload_n hx hb dX12_speaks_186 rfl (lv_at hl 1 rfl) ?_
        refine lv_bipush (v := 12) hx hb dX12_speaks_187 (by decide) ?_
        refine lv_aload_n hx hb dX12_speaks_189 rfl (lv_at hl 1 rfl) ?_
        refine va_get (D := D) (ci := 12) (v := .ref (G.2.1 217)) (C := RX12) (T := TX12) (N := 59) hx hb hts inU_X12 hown hK hP _ (mg_200 G Z Y (sJ (sJ (sJ (sJ (sJ (sJ (sJ (sJ (sJ q9.2 213 (((116 : Int32) : Int32).toNatClampNeg) q8.1) 213 (((99 : Int32) : Int32).toNatClampNeg) y3) 213 (((119 : Int32) : Int32).toNatClampNeg) y8) 213 (((108 : Int32) : Int32).toNatClampNeg) (0 : Int64)) 213 (((105 : Int32) : Int32).toNatClampNeg) ((y2 : Int32).toInt64)) 213 (((106 : Int32) : Int32).toNatClampNeg) ((z10 : Int32).toInt64)) 213 (((110 : Int32) : Int32).toNatClampNeg) (((q9.2.1 204 ((y6 : Int32).toNatClampNeg)) : Int32).toInt64)) 213 (((112 : Int32) : Int32).toNatClampNeg) ((y7 : Int32).toInt64)) 213 (((121 : Int32) : Int32).toNatClampNeg) ((y5 : Int32).toInt64))) rfl 35 (by decide) (hts _ wd_1283) (fun _ h9 => h9) rfl dX12_speaks_190 ?_
        refine lv_iload_n hx hb dX12_speaks_193 rfl (lv_at hl 2 rfl) ?_
        obtain ⟨c33, h⟩ := f_n h
        refine va_ialdE (v := (q9.2.1 217 ((y1 : Int32).toNatClampNeg))) hx hb hK hP _ 0 (mg_217 G Z Y (sJ (sJ (sJ (sJ (sJ (sJ (sJ (sJ (sJ q9.2 213 (((116 : Int32) : Int32).toNatClampNeg) q8.1) 213 (((99 : Int32) : Int32).toNatClampNeg) y3) 213 (((119 : Int32) : Int32).toNatClampNeg) y8) 213 (((108 : Int32) : Int32).toNatClampNeg) (0 : Int64)) 213 (((105 : Int32) : Int32).toNatClampNeg) ((y2 : Int32).toInt64)) 213 (((106 : Int32) : Int32).toNatClampNeg) ((z10 : Int32).toInt64)) 213 (((110 : Int32) : Int32).toNatClampNeg) (((q9.2.1 204 ((y6 : Int32).toNatClampNeg)) : Int32).toInt64)) 213 (((112 : Int32) : Int32).toNatClampNeg) ((y7 : Int32).toInt64)) 213 (((121 : Int32) : Int32).toNatClampNeg) ((y5 : Int32).toInt64))) rfl c33 dX12_speaks_194 rfl ?_
        refine lv_iadd hx hb dX12_speaks_195 ?_
        refine lv_iconst (v := 1) hx hb dX12_speaks_196 (by decide) ?_
        refine lv_bipush (v := 118) hx hb dX12_speaks_197 (by decide) ?_
        obtain ⟨q34, hq34, h⟩ := f_b h
        refine cl_V (w := (mW G Z Y (sJ (sJ (sJ (sJ (sJ (sJ (sJ (sJ (sJ q9.2 213 (((116 : Int32) : Int32).toNatClampNeg) q8.1) 213 (((99 : Int32) : Int32).toNatClampNeg) y3) 213 (((119 : Int32) : Int32).toNatClampNeg) y8) 213 (((108 : Int32) : Int32).toNatClampNeg) (0 : Int64)) 213 (((105 : Int32) : Int32).toNatClampNeg) ((y2 : Int32).toInt64)) 213 (((106 : Int32) : Int32).toNatClampNeg) ((z10 : Int32).toInt64)) 213 (((110 : Int32) : Int32).toNatClampNeg) (((q9.2.1 204 ((y6 : Int32).toNatClampNeg)) : Int32).toInt64)) 213 (((112 : Int32) : Int32).toNatClampNeg) ((y7 : Int32).toInt64)) 213 (((121 : Int32) : Int32).toNatClampNeg) ((y5 : Int32).toInt64)))) (w' := (mW G Z Y q34.2)) (rv := some (.long q34.1)) (bytes := cX12_worthOf) (maxL := 4) (ret := (some .long)) (C := RX12) (As := [.int ((12 : Int32) + (q9.2.1 217 ((y1 : Int32).toNatClampNeg))), .int (1 : Int32), .int (118 : Int32)]) (rest := [.int (((201 : Int32) * y2) + z10), .ref (G.2.1 219)]) (stk := [.long q34.1, .int (((201 : Int32) * y2) + z10), .ref (G.2.1 219)]) ⟨hx, hb, hml, hown, hts⟩ hK hE hA hP hD hS (c_X12_worthOf l D G Z Y (sJ (sJ (sJ (sJ (sJ (sJ (sJ (sJ (sJ q9.2 213 (((116 : Int32) : Int32).toNatClampNeg) q8.1) 213 (((99 : Int32) : Int32).toNatClampNeg) y3) 213 (((119 : Int32) : Int32).toNatClampNeg) y8) 213 (((108 : Int32) : Int32).toNatClampNeg) (0 : Int64)) 213 (((105 : Int32) : Int32).toNatClampNeg) ((y2 : Int32).toInt64)) 213 (((106 : Int32) : Int32).toNatClampNeg) ((z10 : Int32).toInt64)) 213 (((110 : Int32) : Int32).toNatClampNeg) (((q9.2.1 204 ((y6 : Int32).toNatClampNeg)) : Int32).toInt64)) 213 (((112 : Int32) : Int32).toNatClampNeg) ((y7 : Int32).toInt64)) 213 (((121 : Int32) : Int32).toNatClampNeg) ((y5 : Int32).toInt64)) F ((12 : Int32) + (q9.2.1 217 ((y1 : Int32).toNatClampNeg))) (1 : Int32) (118 : Int32) q34 hq34) (cwV 3 hts (gwV wd_1669 wd_1671 wp_80 wd_11 wd_1672) rfl rfl rfl hd_X12_worthOf ⟨Nat.le_of_ble_eq_true rfl, Nat.le_of_ble_eq_true rfl⟩) (mg_200 G Z Y (sJ (sJ (sJ (sJ (sJ (sJ (sJ (sJ (sJ q9.2 213 (((116 : Int32) : Int32).toNatClampNeg) q8.1) 213 (((99 : Int32) : Int32).toNatClampNeg) y3) 213 (((119 : Int32) : Int32).toNatClampNeg) y8) 213 (((108 : Int32) : Int32).toNatClampNeg) (0 : Int64)) 213 (((105 : Int32) : Int32).toNatClampNeg) ((y2 : Int32).toInt64)) 213 (((106 : Int32) : Int32).toNatClampNeg) ((z10 : Int32).toInt64)) 213 (((110 : Int32) : Int32).toNatClampNeg) (((q9.2.1 204 ((y6 : Int32).toNatClampNeg)) : Int32).toInt64)) 213 (((112 : Int32) : Int32).toNatClampNeg) ((y7 : Int32).toInt64)) 213 (((121 : Int32) : Int32).toNatClampNeg) ((y5 : Int32).toInt64))) rfl rfl rfl hl.1 rfl (Nat.le_of_ble_eq_true rfl) dX12_speaks_199 ⟨Nat.zero_le _, Nat.zero_le _⟩ rfl (fun H locs hP hD hS => ?_)
        refine lv_iload hx hb dX12_speaks_202 (lv_at hl 7 rfl) ?_
        refine lv_i2l (v := (y7 : Int32).toInt64) hx hb dX12_speaks_204 rfl ?_
        obtain ⟨q35, hq35, h⟩ := f_b h
        refine cl_S (w := (mW G Z Y q34.2)) (w' := (mW G Z Y q34.2)) (rv := some (.long q35)) (bytes := cX12_rest) (maxL := 6) (ret := (some .long)) (As := [.long q34.1, .long (y7 : Int32).toInt64]) (rest := [.int (((201 : Int32) * y2) + z10), .ref (G.2.1 219)]) (stk := [.long q35, .int (((201 : Int32) * y2) + z10), .ref (G.2.1 219)]) ⟨hx, hb, hml, hown, hts⟩ hK hE hA hP hD hS (c_X12_rest l D G (mW G Z Y q34.2) q34.1 ((y7 : Int32).toInt64) q35 hq35) (mkS hts wd_1514 wd_1515 wd_11 wd_1516 rfl rfl hd_X12_rest ⟨Nat.le_of_ble_eq_true rfl, Nat.le_of_ble_eq_true rfl⟩) rfl hl.1 rfl (Nat.le_of_ble_eq_true rfl) dX12_speaks_205 ⟨Nat.zero_le _, Nat.zero_le _⟩ rfl (fun H locs hP hD hS => ?_)
        obtain ⟨c36, h⟩ := f_n h
        refine va_last hx hb hK hP hD hS _ 1 (mg_219 G Z Y q34.2) rfl c36 dX12_speaks_208 (fun H locs hP hD hS => ?_)
        have hP := wrP (mp_219 G Z Y q34.2 _ _) hP
        have hD := wrD (mp_219 G Z Y q34.2 _ _) hD
        refine lv_iinc (v := (z10 + 1)) (lv' := [(10, .int (z10 + 1)), (11, .long q8.1), (0, .ref (G.2.1 200)), (1, .int y1), (2, .int y2), (3, .long y3), (5, .int y5), (6, .int y6), (7, .int y7), (8, .long y8)]) hx hb dX12_speaks_209 hl (k := 9) rfl rfl (by decide) rfl (fun ls hl => ?_)
        refine lv_goto (tgt := 40) hx hb dX12_speaks_212 (by decide) ?_
        exact ih (sJ q34.2 219 (((((201 : Int32) * y2) + z10) : Int32).toNatClampNeg) q35) (z10 + 1) h _ _ _ hP hD hS (lv_sub hl [2, 3, 4, 5, 6, 7, 8, 9, 0] rfl)
set_option maxRecDepth 100000 in
set_option maxHeartbeats 8000000 in
theorem c_X12_speaks (l : Launch) (D : va_G) (G : hG) (Z : hZ) (Y : va_W) (σ0 : hSt) (F : Nat) (x1 : Int32) (x2 : Int32) (x3 : Int64) (x5 : Int32) (res : (Unit × hSt)) (h : f_X12_speaks F Z σ0 x1 x2 x3 x5 = some res) : CT l yX12_speaks cX12_speaks 13 none rm_X12_speaks D G 0 0 [.ref (G.2.1 200), .int x1, .int x2, .long x3, .int x5] (mW G Z Y σ0) (mW G Z Y res.2) none := by
  unfold f_X12_speaks at h
  refine CT.mk (cc := cX12_speaks) (maxL := 13) (ret := none) (own := RX12) (plainFor_of_name (by decide)) rfl (Nat.le_of_ble_eq_true rfl) ?_
  intro p e s m args below meth c A ls C0 hnm hA hP hD hl
  obtain ⟨hx, hb, hr, hml, hown, hts, hlocks, hK, hE⟩ := id C0
  have hS : va_S A s.heap s.heap [] := va_S.rf
  have hl : lv_has ls 13 [(0, .ref (G.2.1 200)), (1, .int x1), (2, .int x2), (3, .long x3), (5, .int x5)] := hl
  refine lv_aload_n hx hb dX12_speaks_0 rfl (lv_at hl 0 rfl) ?_
  refine va_get (D := D) (ci := 12) (v := .ref (G.2.1 214)) (C := RX12) (T := TX12) (N := 59) hx hb hts inU_X12 hown hK hP _ (mg_200 G Z Y σ0) rfl 32 (by decide) (hts _ wd_1280) (fun _ h9 => h9) rfl dX12_speaks_1 ?_
  refine lv_iload_n hx hb dX12_speaks_4 rfl (lv_at hl 1 rfl) ?_
  obtain ⟨c1, h⟩ := f_n h
  refine va_ialdE (v := (σ0.1 214 ((x1 : Int32).toNatClampNeg))) hx hb hK hP _ 0 (mg_214 G Z Y σ0) rfl c1 dX12_speaks_5 rfl ?_
  refine lv_istore (lv' := [(6, .int (σ0.1 214 ((x1 : Int32).toNatClampNeg))), (0, .ref (G.2.1 200)), (1, .int x1), (2, .int x2), (3, .long x3), (5, .int x5)]) hx hb dX12_speaks_6 hl (by decide) rfl (fun ls hl => ?_)
  refine lv_aload_n hx hb dX12_speaks_8 rfl (lv_at hl 1 rfl) ?_
  refine va_get (D := D) (ci := 12) (v := .ref (G.2.1 215)) (C := RX12) (T := TX12) (N := 59) hx hb hts inU_X12 hown hK hP _ (mg_200 G Z Y σ0) rfl 33 (by decide) (hts _ wd_1281) (fun _ h9 => h9) rfl dX12_speaks_9 ?_
  refine lv_iload_n hx hb dX12_speaks_12 rfl (lv_at hl 2 rfl) ?_
  obtain ⟨c2, h⟩ := f_n h
  refine va_ialdE (v := (σ0.1 215 ((x1 : Int32).toNatClampNeg))) hx hb hK hP _ 0 (mg_215 G Z Y σ0) rfl c2 dX12_speaks_13 rfl ?_
  refine lv_istore (lv' := [(7, .int (σ0.1 215 ((x1 : Int32).toNatClampNeg))), (6, .int (σ0.1 214 ((x1 : Int32).toNatClampNeg))), (0, .ref (G.2.1 200)), (1, .int x1), (2, .int x2), (3, .long x3), (5, .int x5)]) hx hb dX12_speaks_14 hl (by decide) rfl (fun ls hl => ?_)
  refine lv_aload_n hx hb dX12_speaks_16 rfl (lv_at hl 2 rfl) ?_
  refine lv_iload_n hx hb dX12_speaks_17 rfl (lv_at hl 3 rfl) ?_
  refine lv_iload_n hx hb dX12_speaks_18 rfl (lv_at hl 4 rfl) ?_
  refine lv_iconst (v := 0) hx hb dX12_speaks_19 (by decide) ?_
  obtain ⟨q3, hq3, h⟩ := f_b h
  refine cl_V (w := (mW G Z Y σ0)) (w' := (mW G Z Y q3.2)) (rv := some (.long q3.1)) (bytes := cX12_trueAt) (maxL := 6) (ret := (some .long)) (C := RX12) (As := [.int x1, .int x2, .int (0 : Int32)]) (rest := []) (stk := [.long q3.1]) ⟨hx, hb, hml, hown, hts⟩ hK hE hA hP hD hS (c_X12_trueAt l D G Z Y σ0 F x1 x2 (0 : Int32) q3 hq3) (cwV 3 hts (gwV wd_1683 wd_1685 wp_83 wd_11 wd_1686) rfl rfl rfl hd_X12_trueAt ⟨Nat.le_of_ble_eq_true rfl, Nat.le_of_ble_eq_true rfl⟩) (mg_200 G Z Y σ0) rfl rfl rfl hl.1 rfl (Nat.le_of_ble_eq_true rfl) dX12_speaks_20 ⟨Nat.zero_le _, Nat.zero_le _⟩ rfl (fun H locs hP hD hS => ?_)
  refine lv_aload_n hx hb dX12_speaks_23 rfl (lv_at hl 2 rfl) ?_
  refine lv_iload_n hx hb dX12_speaks_24 rfl (lv_at hl 3 rfl) ?_
  refine lv_iload_n hx hb dX12_speaks_25 rfl (lv_at hl 4 rfl) ?_
  refine lv_iconst (v := 1) hx hb dX12_speaks_26 (by decide) ?_
  obtain ⟨q4, hq4, h⟩ := f_b h
  refine cl_V (w := (mW G Z Y q3.2)) (w' := (mW G Z Y q4.2)) (rv := some (.long q4.1)) (bytes := cX12_trueAt) (maxL := 6) (ret := (some .long)) (C := RX12) (As := [.int x1, .int x2, .int (1 : Int32)]) (rest := [.long q3.1]) (stk := [.long q4.1, .long q3.1]) ⟨hx, hb, hml, hown, hts⟩ hK hE hA hP hD hS (c_X12_trueAt l D G Z Y q3.2 F x1 x2 (1 : Int32) q4 hq4) (cwV 3 hts (gwV wd_1683 wd_1685 wp_83 wd_11 wd_1686) rfl rfl rfl hd_X12_trueAt ⟨Nat.le_of_ble_eq_true rfl, Nat.le_of_ble_eq_true rfl⟩) (mg_200 G Z Y q3.2) rfl rfl rfl hl.1 rfl (Nat.le_of_ble_eq_true rfl) dX12_speaks_27 ⟨Nat.zero_le _, Nat.zero_le _⟩ rfl (fun H locs hP hD hS => ?_)
  refine lv_ladd hx hb dX12_speaks_30 ?_
  refine lv_iload hx hb dX12_speaks_31 (lv_at hl 0 rfl) ?_
  refine lv_i2l (v := ((σ0.1 215 ((x1 : Int32).toNatClampNeg)) : Int32).toInt64) hx hb dX12_speaks_33 rfl ?_
  obtain ⟨c5, h⟩ := f_n h
  refine lv_lrem hx hb dX12_speaks_34 c5 ?_
  refine lv_lstore (lv' := [(8, .long ((q3.1 + q4.1) - (q3.1 + q4.1) / ((σ0.1 215 ((x1 : Int32).toNatClampNeg)) : Int32).toInt64 * ((σ0.1 215 ((x1 : Int32).toNatClampNeg)) : Int32).toInt64)), (7, .int (σ0.1 215 ((x1 : Int32).toNatClampNeg))), (6, .int (σ0.1 214 ((x1 : Int32).toNatClampNeg))), (0, .ref (G.2.1 200)), (1, .int x1), (2, .int x2), (3, .long x3), (5, .int x5)]) hx hb dX12_speaks_35 hl (by decide) rfl (fun ls hl => ?_)
  refine lv_iconst (v := 0) hx hb dX12_speaks_37 (by decide) ?_
  refine lv_istore (lv' := [(10, .int (0 : Int32)), (8, .long ((q3.1 + q4.1) - (q3.1 + q4.1) / ((σ0.1 215 ((x1 : Int32).toNatClampNeg)) : Int32).toInt64 * ((σ0.1 215 ((x1 : Int32).toNatClampNeg)) : Int32).toInt64)), (7, .int (σ0.1 215 ((x1 : Int32).toNatClampNeg))), (6, .int (σ0.1 214 ((x1 : Int32).toNatClampNeg))), (0, .ref (G.2.1 200)), (1, .int x1), (2, .int x2), (3, .long x3), (5, .int x5)]) hx hb dX12_speaks_38 hl (by decide) rfl (fun ls hl => ?_)
  refine W_X12_speaks_L40 l D G Z Y σ0 F x1 x2 x3 x5 x1 x2 x3 x5 (σ0.1 214 ((x1 : Int32).toNatClampNeg)) (σ0.1 215 ((x1 : Int32).toNatClampNeg)) ((q3.1 + q4.1) - (q3.1 + q4.1) / ((σ0.1 215 ((x1 : Int32).toNatClampNeg)) : Int32).toInt64 * ((σ0.1 215 ((x1 : Int32).toNatClampNeg)) : Int32).toInt64) res C0 hA F q4.2 (0 : Int32) h _ _ _ hP hD hS (lv_sub hl [4, 5, 6, 7, 8, 3, 2, 1, 0] rfl)
abbrev rm_X12_sumsUp : Room := { frames := 0, cells := 0, slots := 0, locals := 0 }
set_option maxRecDepth 100000 in
set_option maxHeartbeats 8000000 in
theorem c_X12_sumsUp (l : Launch) (D : va_G) (G : hG) (Z : hZ) (Y : va_W) (σ0 : hSt) (x1 : Int32) (x2 : Int32) (x3 : Int64) (res : Int32) (h : f_X12_sumsUp Z σ0 x1 x2 x3 = some res) : CT l yX12_sumsUp cX12_sumsUp 6 (some .boolean) rm_X12_sumsUp D G 0 0 [.ref (G.2.1 200), .int x1, .int x2, .long x3] (mW G Z Y σ0) (mW G Z Y σ0) (some (.int res)) := by
  unfold f_X12_sumsUp at h
  refine CT.mk (cc := cX12_sumsUp) (maxL := 6) (ret := (some .boolean)) (own := RX12) (plainFor_of_name (by decide)) rfl (Nat.le_of_ble_eq_true rfl) ?_
  intro p e s m args below meth c A ls C0 hnm hA hP hD hl
  obtain ⟨hx, hb, hr, hml, hown, hts, hlocks, hK, hE⟩ := id C0
  have hS : va_S A s.heap s.heap [] := va_S.rf
  have hl : lv_has ls 6 [(0, .ref (G.2.1 200)), (1, .int x1), (2, .int x2), (3, .long x3)] := hl
  refine lv_aload_n hx hb dX12_sumsUp_0 rfl (lv_at hl 0 rfl) ?_
  refine va_get (D := D) (ci := 12) (v := .ref (G.2.1 205)) (C := RX12) (T := TX12) (N := 59) hx hb hts inU_X12 hown hK hP _ (mg_200 G Z Y σ0) rfl 13 (by decide) (hts _ wd_1261) (fun _ h9 => h9) rfl dX12_sumsUp_1 ?_
  refine lv_bipush (v := 6) hx hb dX12_sumsUp_4 (by decide) ?_
  refine lv_aload_n hx hb dX12_sumsUp_6 rfl (lv_at hl 0 rfl) ?_
  refine va_get (D := D) (ci := 12) (v := .ref (G.2.1 214)) (C := RX12) (T := TX12) (N := 59) hx hb hts inU_X12 hown hK hP _ (mg_200 G Z Y σ0) rfl 32 (by decide) (hts _ wd_1280) (fun _ h9 => h9) rfl dX12_sumsUp_7 ?_
  refine lv_iload_n hx hb dX12_sumsUp_10 rfl (lv_at hl 1 rfl) ?_
  obtain ⟨c1, h⟩ := f_n h
  refine va_ialdE (v := (σ0.1 214 ((x1 : Int32).toNatClampNeg))) hx hb hK hP _ 0 (mg_214 G Z Y σ0) rfl c1 dX12_sumsUp_11 rfl ?_
  refine lv_imul hx hb dX12_sumsUp_12 ?_
  refine lv_iload_n hx hb dX12_sumsUp_13 rfl (lv_at hl 2 rfl) ?_
  refine lv_iadd hx hb dX12_sumsUp_14 ?_
  obtain ⟨c2, h⟩ := f_n h
  refine va_ialdE (v := (σ0.1 205 (((((6 : Int32) * (σ0.1 214 ((x1 : Int32).toNatClampNeg))) + x2) : Int32).toNatClampNeg))) hx hb hK hP _ 0 (mg_205 G Z Y σ0) rfl c2 dX12_sumsUp_15 rfl ?_
  refine lv_istore (lv' := [(5, .int (σ0.1 205 (((((6 : Int32) * (σ0.1 214 ((x1 : Int32).toNatClampNeg))) + x2) : Int32).toNatClampNeg))), (0, .ref (G.2.1 200)), (1, .int x1), (2, .int x2), (3, .long x3)]) hx hb dX12_sumsUp_16 hl (by decide) rfl (fun ls hl => ?_)
  refine lv_aload_n hx hb dX12_sumsUp_18 rfl (lv_at hl 1 rfl) ?_
  refine va_get (D := D) (ci := 12) (v := .ref (G.2.1 219)) (C := RX12) (T := TX12) (N := 59) hx hb hts inU_X12 hown hK hP _ (mg_200 G Z Y σ0) rfl 38 (by decide) (hts _ wd_1286) (fun _ h9 => h9) rfl dX12_sumsUp_19 ?_
  refine lv_sipush (v := 201) hx hb dX12_sumsUp_22 (by decide) ?_
  refine lv_iload_n hx hb dX12_sumsUp_25 rfl (lv_at hl 3 rfl) ?_
  refine lv_imul hx hb dX12_sumsUp_26 ?_
  obtain ⟨c3, h⟩ := f_n h
  refine va_laldE (v := (σ0.2.1 219 ((((201 : Int32) * x2) : Int32).toNatClampNeg))) hx hb hK hP _ 1 (mg_219 G Z Y σ0) rfl c3 dX12_sumsUp_27 rfl ?_
  refine lv_aload_n hx hb dX12_sumsUp_28 rfl (lv_at hl 1 rfl) ?_
  refine va_get (D := D) (ci := 12) (v := .ref (G.2.1 219)) (C := RX12) (T := TX12) (N := 59) hx hb hts inU_X12 hown hK hP _ (mg_200 G Z Y σ0) rfl 38 (by decide) (hts _ wd_1286) (fun _ h9 => h9) rfl dX12_sumsUp_29 ?_
  refine lv_sipush (v := 201) hx hb dX12_sumsUp_32 (by decide) ?_
  refine lv_iload_n hx hb dX12_sumsUp_35 rfl (lv_at hl 3 rfl) ?_
  refine lv_imul hx hb dX12_sumsUp_36 ?_
  refine lv_iload hx hb dX12_sumsUp_37 (lv_at hl 0 rfl) ?_
  refine lv_if_ne (tgt := 46) hx hb dX12_sumsUp_39 (by decide) (fun c4 => ?_) (fun c4 => ?_)
  · skip
    have h := f_f c4 h
    refine lv_iconst (v := 1) hx hb dX12_sumsUp_46 (by decide) ?_
    refine lv_iadd hx hb dX12_sumsUp_47 ?_
    obtain ⟨c5, h⟩ := f_n h
    refine va_laldE (v := (σ0.2.1 219 (((((201 : Int32) * x2) + (1 : Int32)) : Int32).toNatClampNeg))) hx hb hK hP _ 1 (mg_219 G Z Y σ0) rfl c5 dX12_sumsUp_48 rfl ?_
    refine lv_ladd hx hb dX12_sumsUp_49 ?_
    refine lv_aload_n hx hb dX12_sumsUp_50 rfl (lv_at hl 1 rfl) ?_
    refine va_get (D := D) (ci := 12) (v := .ref (G.2.1 215)) (C := RX12) (T := TX12) (N := 59) hx hb hts inU_X12 hown hK hP _ (mg_200 G Z Y σ0) rfl 33 (by decide) (hts _ wd_1281) (fun _ h9 => h9) rfl dX12_sumsUp_51 ?_
    refine lv_iload_n hx hb dX12_sumsUp_54 rfl (lv_at hl 2 rfl) ?_
    obtain ⟨c6, h⟩ := f_n h
    refine va_ialdE (v := (σ0.1 215 ((x1 : Int32).toNatClampNeg))) hx hb hK hP _ 0 (mg_215 G Z Y σ0) rfl c6 dX12_sumsUp_55 rfl ?_
    refine lv_i2l (v := ((σ0.1 215 ((x1 : Int32).toNatClampNeg)) : Int32).toInt64) hx hb dX12_sumsUp_56 rfl ?_
    obtain ⟨c7, h⟩ := f_n h
    refine lv_lrem hx hb dX12_sumsUp_57 c7 ?_
    refine lv_lload_n hx hb dX12_sumsUp_58 rfl (lv_at hl 4 rfl) ?_
    refine W.lcmp hx hb dX12_sumsUp_59 ?_
    refine lv_if_ne (tgt := 67) hx hb dX12_sumsUp_60 (by decide) (fun c8 => ?_) (fun c8 => ?_)
    · skip
      have c8 := mt (lg_cmp_eq _ _).mpr c8
      have h := f_f c8 h
      refine lv_iconst (v := 0) hx hb dX12_sumsUp_67 (by decide) ?_
      obtain rfl := Option.some.inj h
      exact W.zret (v := (0 : Int32)) hx hb hr rfl (q_end hK hP hD hS) hS.2.2 dX12_sumsUp_68
    · skip
      have c8 := (lg_cmp_eq _ _).mp c8
      have h := f_t c8 h
      refine lv_iconst (v := 1) hx hb dX12_sumsUp_63 (by decide) ?_
      refine lv_goto (tgt := 68) hx hb dX12_sumsUp_64 (by decide) ?_
      obtain rfl := Option.some.inj h
      exact W.zret (v := (1 : Int32)) hx hb hr rfl (q_end hK hP hD hS) hS.2.2 dX12_sumsUp_68
  · skip
    have h := f_t c4 h
    refine lv_iconst (v := 0) hx hb dX12_sumsUp_42 (by decide) ?_
    refine lv_goto (tgt := 47) hx hb dX12_sumsUp_43 (by decide) ?_
    refine lv_iadd hx hb dX12_sumsUp_47 ?_
    obtain ⟨c9, h⟩ := f_n h
    refine va_laldE (v := (σ0.2.1 219 (((((201 : Int32) * x2) + (0 : Int32)) : Int32).toNatClampNeg))) hx hb hK hP _ 1 (mg_219 G Z Y σ0) rfl c9 dX12_sumsUp_48 rfl ?_
    refine lv_ladd hx hb dX12_sumsUp_49 ?_
    refine lv_aload_n hx hb dX12_sumsUp_50 rfl (lv_at hl 1 rfl) ?_
    refine va_get (D := D) (ci := 12) (v := .ref (G.2.1 215)) (C := RX12) (T := TX12) (N := 59) hx hb hts inU_X12 hown hK hP _ (mg_200 G Z Y σ0) rfl 33 (by decide) (hts _ wd_1281) (fun _ h9 => h9) rfl dX12_sumsUp_51 ?_
    refine lv_iload_n hx hb dX12_sumsUp_54 rfl (lv_at hl 2 rfl) ?_
    obtain ⟨c10, h⟩ := f_n h
    refine va_ialdE (v := (σ0.1 215 ((x1 : Int32).toNatClampNeg))) hx hb hK hP _ 0 (mg_215 G Z Y σ0) rfl c10 dX12_sumsUp_55 rfl ?_
    refine lv_i2l (v := ((σ0.1 215 ((x1 : Int32).toNatClampNeg)) : Int32).toInt64) hx hb dX12_sumsUp_56 rfl ?_
    obtain ⟨c11, h⟩ := f_n h
    refine lv_lrem hx hb dX12_sumsUp_57 c11 ?_
    refine lv_lload_n hx hb dX12_sumsUp_58 rfl (lv_at hl 4 rfl) ?_
    refine W.lcmp hx hb dX12_sumsUp_59 ?_
    refine lv_if_ne (tgt := 67) hx hb dX12_sumsUp_60 (by decide) (fun c12 => ?_) (fun c12 => ?_)
    · skip
      have c12 := mt (lg_cmp_eq _ _).mpr c12
      have h := f_f c12 h
      refine lv_iconst (v := 0) hx hb dX12_sumsUp_67 (by decide) ?_
      obtain rfl := Option.some.inj h
      exact W.zret (v := (0 : Int32)) hx hb hr rfl (q_end hK hP hD hS) hS.2.2 dX12_sumsUp_68
    · skip
      have c12 := (lg_cmp_eq _ _).mp c12
      have h := f_t c12 h
      refine lv_iconst (v := 1) hx hb dX12_sumsUp_63 (by decide) ?_
      refine lv_goto (tgt := 68) hx hb dX12_sumsUp_64 (by decide) ?_
      obtain rfl := Option.some.inj h
      exact W.zret (v := (1 : Int32)) hx hb hr rfl (q_end hK hP hD hS) hS.2.2 dX12_sumsUp_68
abbrev rm_X12_nextClaim : Room := { frames := 2, cells := 0, slots := 0, locals := 64 }
set_option maxRecDepth 100000 in
set_option maxHeartbeats 8000000 in
theorem W_X12_nextClaim_L20 {p : Program} {e : Env} {s : State} {m : MethodId} {args : Array Value} {below : List Frame} {meth : Method} {c : Code} {A : Nat → Prop} (l : Launch) (D : va_G) (G : hG) (Z : hZ) (Y : va_W) (σ0 : hSt) (F : Nat) (x1 : Int32) (x2 : Int32) (y1 : Int32) (y2 : Int32) (y3 : Int32) (res : (Int64 × hSt)) (C0 : Cx p s m args meth c cX12_nextClaim (some .long) RX12 5 D G A) (hA : ∀ q : Nat, s.heap.size ≤ q → A q) (k52 : hSt → Option (Int64 × hSt)) (hk52 : ∀ (σ1 : hSt), k52 σ1 = some res → ∀ (H : Heap) (locs : List Loc) (ls : Array Slot), va_P D vwCl (mW G Z Y σ1) H → va_D A (mW G Z Y σ1) → va_S A s.heap H locs → lv_has ls 5 [(0, .ref (G.2.1 200)), (1, .int y1), (2, .int y2), (3, .int y3)] → W p l e rm_X12_nextClaim s m args below meth c H locs 0 0 (MQ below (Qg (some (.long res.1)) D (tysG G) (mW G Z Y res.2) A) args s 0 0 A) (F0 m 52 ls [])) : ∀ (n : Nat) (σ1 : hSt) (z4 : Int32), f_X12_nextClaim_L20 y1 y2 y3 k52 n σ1 z4 = some res → ∀ (H : Heap) (locs : List Loc) (ls : Array Slot), va_P D vwCl (mW G Z Y σ1) H → va_D A (mW G Z Y σ1) → va_S A s.heap H locs → lv_has ls 5 [(0, .ref (G.2.1 200)), (1, .int y1), (2, .int y2), (3, .int y3), (4, .int z4)] → W p l e rm_X12_nextClaim s m args below meth c H locs 0 0 (MQ below (Qg (some (.long res.1)) D (tysG G) (mW G Z Y res.2) A) args s 0 0 A) (F0 m 20 ls []) := by
  obtain ⟨hx, hb, hr, hml, hown, hts, hlocks, hK, hE⟩ := id C0
  intro n
  induction n with
  | zero =>
    intro σ1 z4 h
    cases h
  | succ n ih =>
    intro σ1 z4 h H locs ls hP hD hS hl
    rw [f_X12_nextClaim_L20] at h
    refine lv_iload hx hb dX12_nextClaim_20 (lv_at hl 4 rfl) ?_
    refine lv_iload_n hx hb dX12_nextClaim_22 rfl (lv_at hl 3 rfl) ?_
    refine lv_icmp_gt (tgt := 52) hx hb dX12_nextClaim_23 (by decide) (fun c3 => ?_) (fun c3 => ?_)
    · skip
      have h := f_t c3 h
      exact hk52 σ1 h _ _ _ hP hD hS (lv_sub hl [0, 1, 2, 3] rfl)
    · skip
      have h := f_f c3 h
      refine lv_aload_n hx hb dX12_nextClaim_26 rfl (lv_at hl 0 rfl) ?_
      refine va_get (D := D) (ci := 12) (v := .ref (G.2.1 210)) (C := RX12) (T := TX12) (N := 59) hx hb hts inU_X12 hown hK hP _ (mg_200 G Z Y σ1) rfl 21 (by decide) (hts _ wd_1269) (fun _ h9 => h9) rfl dX12_nextClaim_27 ?_
      refine lv_iload hx hb dX12_nextClaim_30 (lv_at hl 4 rfl) ?_
      refine lv_aload_n hx hb dX12_nextClaim_32 rfl (lv_at hl 0 rfl) ?_
      refine va_get (D := D) (ci := 12) (v := .ref (G.2.1 219)) (C := RX12) (T := TX12) (N := 59) hx hb hts inU_X12 hown hK hP _ (mg_200 G Z Y σ1) rfl 38 (by decide) (hts _ wd_1286) (fun _ h9 => h9) rfl dX12_nextClaim_33 ?_
      refine lv_sipush (v := 201) hx hb dX12_nextClaim_36 (by decide) ?_
      refine lv_iload_n hx hb dX12_nextClaim_39 rfl (lv_at hl 2 rfl) ?_
      refine lv_imul hx hb dX12_nextClaim_40 ?_
      refine lv_iload hx hb dX12_nextClaim_41 (lv_at hl 4 rfl) ?_
      refine lv_iadd hx hb dX12_nextClaim_43 ?_
      obtain ⟨c4, h⟩ := f_n h
      refine va_laldE (v := (σ1.2.1 219 (((((201 : Int32) * y2) + z4) : Int32).toNatClampNeg))) hx hb hK hP _ 1 (mg_219 G Z Y σ1) rfl c4 dX12_nextClaim_44 rfl ?_
      obtain ⟨c5, h⟩ := f_n h
      refine va_last hx hb hK hP hD hS _ 1 (mg_210 G Z Y σ1) rfl c5 dX12_nextClaim_45 (fun H locs hP hD hS => ?_)
      have hP := wrP (mp_210 G Z Y σ1 _ _) hP
      have hD := wrD (mp_210 G Z Y σ1 _ _) hD
      refine lv_iinc (v := (z4 + 1)) (lv' := [(4, .int (z4 + 1)), (0, .ref (G.2.1 200)), (1, .int y1), (2, .int y2), (3, .int y3)]) hx hb dX12_nextClaim_46 hl (k := 4) rfl rfl (by decide) rfl (fun ls hl => ?_)
      refine lv_goto (tgt := 20) hx hb dX12_nextClaim_49 (by decide) ?_
      exact ih (sJ σ1 210 ((z4 : Int32).toNatClampNeg) (σ1.2.1 219 (((((201 : Int32) * y2) + z4) : Int32).toNatClampNeg))) (z4 + 1) h _ _ _ hP hD hS (lv_sub hl [1, 2, 3, 4, 0] rfl)
set_option maxRecDepth 100000 in
set_option maxHeartbeats 8000000 in
theorem c_X12_nextClaim (l : Launch) (D : va_G) (G : hG) (Z : hZ) (Y : va_W) (σ0 : hSt) (F : Nat) (x1 : Int32) (x2 : Int32) (res : (Int64 × hSt)) (h : f_X12_nextClaim F Z σ0 x1 x2 = some res) : CT l yX12_nextClaim cX12_nextClaim 5 (some .long) rm_X12_nextClaim D G 0 0 [.ref (G.2.1 200), .int x1, .int x2] (mW G Z Y σ0) (mW G Z Y res.2) (some (.long res.1)) := by
  unfold f_X12_nextClaim at h
  refine CT.mk (cc := cX12_nextClaim) (maxL := 5) (ret := (some .long)) (own := RX12) (plainFor_of_name (by decide)) rfl (Nat.le_of_ble_eq_true rfl) ?_
  intro p e s m args below meth c A ls C0 hnm hA hP hD hl
  obtain ⟨hx, hb, hr, hml, hown, hts, hlocks, hK, hE⟩ := id C0
  have hS : va_S A s.heap s.heap [] := va_S.rf
  have hl : lv_has ls 5 [(0, .ref (G.2.1 200)), (1, .int x1), (2, .int x2)] := hl
  refine lv_aload_n hx hb dX12_nextClaim_0 rfl (lv_at hl 0 rfl) ?_
  refine va_get (D := D) (ci := 12) (v := .ref (G.2.1 205)) (C := RX12) (T := TX12) (N := 59) hx hb hts inU_X12 hown hK hP _ (mg_200 G Z Y σ0) rfl 13 (by decide) (hts _ wd_1261) (fun _ h9 => h9) rfl dX12_nextClaim_1 ?_
  refine lv_bipush (v := 6) hx hb dX12_nextClaim_4 (by decide) ?_
  refine lv_aload_n hx hb dX12_nextClaim_6 rfl (lv_at hl 0 rfl) ?_
  refine va_get (D := D) (ci := 12) (v := .ref (G.2.1 214)) (C := RX12) (T := TX12) (N := 59) hx hb hts inU_X12 hown hK hP _ (mg_200 G Z Y σ0) rfl 32 (by decide) (hts _ wd_1280) (fun _ h9 => h9) rfl dX12_nextClaim_7 ?_
  refine lv_iload_n hx hb dX12_nextClaim_10 rfl (lv_at hl 1 rfl) ?_
  obtain ⟨c1, h⟩ := f_n h
  refine va_ialdE (v := (σ0.1 214 ((x1 : Int32).toNatClampNeg))) hx hb hK hP _ 0 (mg_214 G Z Y σ0) rfl c1 dX12_nextClaim_11 rfl ?_
  refine lv_imul hx hb dX12_nextClaim_12 ?_
  refine lv_iload_n hx hb dX12_nextClaim_13 rfl (lv_at hl 2 rfl) ?_
  refine lv_iadd hx hb dX12_nextClaim_14 ?_
  obtain ⟨c2, h⟩ := f_n h
  refine va_ialdE (v := (σ0.1 205 (((((6 : Int32) * (σ0.1 214 ((x1 : Int32).toNatClampNeg))) + x2) : Int32).toNatClampNeg))) hx hb hK hP _ 0 (mg_205 G Z Y σ0) rfl c2 dX12_nextClaim_15 rfl ?_
  refine lv_istore_n (lv' := [(3, .int (σ0.1 205 (((((6 : Int32) * (σ0.1 214 ((x1 : Int32).toNatClampNeg))) + x2) : Int32).toNatClampNeg))), (0, .ref (G.2.1 200)), (1, .int x1), (2, .int x2)]) hx hb dX12_nextClaim_16 rfl hl (by decide) rfl (fun ls hl => ?_)
  refine lv_iconst (v := 0) hx hb dX12_nextClaim_17 (by decide) ?_
  refine lv_istore (lv' := [(4, .int (0 : Int32)), (3, .int (σ0.1 205 (((((6 : Int32) * (σ0.1 214 ((x1 : Int32).toNatClampNeg))) + x2) : Int32).toNatClampNeg))), (0, .ref (G.2.1 200)), (1, .int x1), (2, .int x2)]) hx hb dX12_nextClaim_18 hl (by decide) rfl (fun ls hl => ?_)
  refine W_X12_nextClaim_L20 l D G Z Y σ0 F x1 x2 x1 x2 (σ0.1 205 (((((6 : Int32) * (σ0.1 214 ((x1 : Int32).toNatClampNeg))) + x2) : Int32).toNatClampNeg)) res C0 hA _ ?_ F σ0 (0 : Int32) h _ _ _ hP hD hS (lv_sub hl [2, 3, 4, 1, 0] rfl)
  · intro σ1 h H locs ls hP hD hS hl
    refine lv_aload_n hx hb dX12_nextClaim_52 rfl (lv_at hl 0 rfl) ?_
    refine lv_iload_n hx hb dX12_nextClaim_53 rfl (lv_at hl 3 rfl) ?_
    refine lv_iconst (v := 1) hx hb dX12_nextClaim_54 (by decide) ?_
    refine lv_iadd hx hb dX12_nextClaim_55 ?_
    refine lv_aload_n hx hb dX12_nextClaim_56 rfl (lv_at hl 0 rfl) ?_
    refine va_get (D := D) (ci := 12) (v := .ref (G.2.1 218)) (C := RX12) (T := TX12) (N := 59) hx hb hts inU_X12 hown hK hP _ (mg_200 G Z Y σ1) rfl 37 (by decide) (hts _ wd_1285) (fun _ h9 => h9) rfl dX12_nextClaim_57 ?_
    refine lv_iload_n hx hb dX12_nextClaim_60 rfl (lv_at hl 2 rfl) ?_
    obtain ⟨c6, h⟩ := f_n h
    refine va_laldE (v := (σ1.2.1 218 ((x2 : Int32).toNatClampNeg))) hx hb hK hP _ 1 (mg_218 G Z Y σ1) rfl c6 dX12_nextClaim_61 rfl ?_
    refine lv_aload_n hx hb dX12_nextClaim_62 rfl (lv_at hl 0 rfl) ?_
    refine va_get (D := D) (ci := 12) (v := .ref (G.2.1 215)) (C := RX12) (T := TX12) (N := 59) hx hb hts inU_X12 hown hK hP _ (mg_200 G Z Y σ1) rfl 33 (by decide) (hts _ wd_1281) (fun _ h9 => h9) rfl dX12_nextClaim_63 ?_
    refine lv_iload_n hx hb dX12_nextClaim_66 rfl (lv_at hl 1 rfl) ?_
    obtain ⟨c7, h⟩ := f_n h
    refine va_ialdE (v := (σ1.1 215 ((x1 : Int32).toNatClampNeg))) hx hb hK hP _ 0 (mg_215 G Z Y σ1) rfl c7 dX12_nextClaim_67 rfl ?_
    refine lv_i2l (v := ((σ1.1 215 ((x1 : Int32).toNatClampNeg)) : Int32).toInt64) hx hb dX12_nextClaim_68 rfl ?_
    obtain ⟨q8, hq8, h⟩ := f_b h
    refine cl_V (w := (mW G Z Y σ1)) (w' := (mW G Z Y σ1)) (rv := some (.long q8)) (bytes := cX12_curveAt) (maxL := 14) (ret := (some .long)) (C := RX12) (As := [.int ((σ0.1 205 (((((6 : Int32) * (σ0.1 214 ((x1 : Int32).toNatClampNeg))) + x2) : Int32).toNatClampNeg)) + (1 : Int32)), .long (σ1.2.1 218 ((x2 : Int32).toNatClampNeg)), .long ((σ1.1 215 ((x1 : Int32).toNatClampNeg)) : Int32).toInt64]) (rest := []) (stk := [.long q8]) ⟨hx, hb, hml, hown, hts⟩ hK hE hA hP hD hS (c_X12_curveAt l D G Z Y σ1 F ((σ0.1 205 (((((6 : Int32) * (σ0.1 214 ((x1 : Int32).toNatClampNeg))) + x2) : Int32).toNatClampNeg)) + (1 : Int32)) (σ1.2.1 218 ((x2 : Int32).toNatClampNeg)) (((σ1.1 215 ((x1 : Int32).toNatClampNeg)) : Int32).toInt64) q8 hq8) (cwV 3 hts (gwV wd_1562 wd_1564 wp_63 wd_11 wd_1565) rfl rfl rfl hd_X12_curveAt ⟨Nat.le_of_ble_eq_true rfl, Nat.le_of_ble_eq_true rfl⟩) (mg_200 G Z Y σ1) rfl rfl rfl hl.1 rfl (Nat.le_of_ble_eq_true rfl) dX12_nextClaim_69 ⟨Nat.zero_le _, Nat.zero_le _⟩ rfl (fun H locs hP hD hS => ?_)
    obtain rfl := Option.some.inj h
    exact W.lret (v := q8) hx hb hr (q_end hK hP hD hS) hS.2.2 dX12_nextClaim_72
abbrev rm_X12_endsWell : Room := { frames := 76, cells := 0, slots := 0, locals := 1888 }
set_option maxRecDepth 100000 in
set_option maxHeartbeats 8000000 in
theorem W_X12_endsWell_L34 {p : Program} {e : Env} {s : State} {m : MethodId} {args : Array Value} {below : List Frame} {meth : Method} {c : Code} {A : Nat → Prop} (l : Launch) (D : va_G) (G : hG) (Z : hZ) (Y : va_W) (σ0 : hSt) (F : Nat) (x1 : Int32) (x2 : Int64) (y1 : Int32) (y2 : Int64) (y4 : Int32) (res : (Int32 × hSt)) (C0 : Cx p s m args meth c cX12_endsWell (some .boolean) RX12 6 D G A) (hA : ∀ q : Nat, s.heap.size ≤ q → A q) (k66 : hSt → Option (Int32 × hSt)) (hk66 : ∀ (σ1 : hSt), k66 σ1 = some res → ∀ (H : Heap) (locs : List Loc) (ls : Array Slot), va_P D vwCl (mW G Z Y σ1) H → va_D A (mW G Z Y σ1) → va_S A s.heap H locs → lv_has ls 6 [(0, .ref (G.2.1 200)), (1, .int y1), (2, .long y2), (4, .int y4)] → W p l e rm_X12_endsWell s m args below meth c H locs 0 0 (MQ below (Qg (some (.int res.1)) D (tysG G) (mW G Z Y res.2) A) args s 0 0 A) (F0 m 66 ls [])) : ∀ (n : Nat) (σ1 : hSt) (z5 : Int32), f_X12_endsWell_L34 y1 y2 y4 k66 n σ1 z5 = some res → ∀ (H : Heap) (locs : List Loc) (ls : Array Slot), va_P D vwCl (mW G Z Y σ1) H → va_D A (mW G Z Y σ1) → va_S A s.heap H locs → lv_has ls 6 [(0, .ref (G.2.1 200)), (1, .int y1), (2, .long y2), (4, .int y4), (5, .int z5)] → W p l e rm_X12_endsWell s m args below meth c H locs 0 0 (MQ below (Qg (some (.int res.1)) D (tysG G) (mW G Z Y res.2) A) args s 0 0 A) (F0 m 34 ls []) := by
  obtain ⟨hx, hb, hr, hml, hown, hts, hlocks, hK, hE⟩ := id C0
  intro n
  induction n with
  | zero =>
    intro σ1 z5 h
    cases h
  | succ n ih =>
    intro σ1 z5 h H locs ls hP hD hS hl
    rw [f_X12_endsWell_L34] at h
    refine lv_iload hx hb dX12_endsWell_34 (lv_at hl 4 rfl) ?_
    refine lv_aload_n hx hb dX12_endsWell_36 rfl (lv_at hl 0 rfl) ?_
    refine va_get (D := D) (ci := 12) (v := .ref (G.2.1 204)) (C := RX12) (T := TX12) (N := 59) hx hb hts inU_X12 hown hK hP _ (mg_200 G Z Y σ1) rfl 12 (by decide) (hts _ wd_1260) (fun _ h9 => h9) rfl dX12_endsWell_37 ?_
    refine lv_iload hx hb dX12_endsWell_40 (lv_at hl 3 rfl) ?_
    obtain ⟨c6, h⟩ := f_n h
    refine va_ialdE (v := (σ1.1 204 ((y4 : Int32).toNatClampNeg))) hx hb hK hP _ 0 (mg_204 G Z Y σ1) rfl c6 dX12_endsWell_42 rfl ?_
    refine lv_icmp_ge (tgt := 66) hx hb dX12_endsWell_43 (by decide) (fun c7 => ?_) (fun c7 => ?_)
    · skip
      have h := f_t c7 h
      exact hk66 σ1 h _ _ _ hP hD hS (lv_sub hl [0, 1, 2, 3] rfl)
    · skip
      have h := f_f c7 h
      refine lv_aload_n hx hb dX12_endsWell_46 rfl (lv_at hl 0 rfl) ?_
      refine va_get (D := D) (ci := 12) (v := .ref (G.2.1 208)) (C := RX12) (T := TX12) (N := 59) hx hb hts inU_X12 hown hK hP _ (mg_200 G Z Y σ1) rfl 18 (by decide) (hts _ wd_1266) (fun _ h9 => h9) rfl dX12_endsWell_47 ?_
      refine lv_iload hx hb dX12_endsWell_50 (lv_at hl 4 rfl) ?_
      refine lv_aload_n hx hb dX12_endsWell_52 rfl (lv_at hl 0 rfl) ?_
      refine va_get (D := D) (ci := 12) (v := .ref (G.2.1 218)) (C := RX12) (T := TX12) (N := 59) hx hb hts inU_X12 hown hK hP _ (mg_200 G Z Y σ1) rfl 37 (by decide) (hts _ wd_1285) (fun _ h9 => h9) rfl dX12_endsWell_53 ?_
      refine lv_iload hx hb dX12_endsWell_56 (lv_at hl 4 rfl) ?_
      obtain ⟨c8, h⟩ := f_n h
      refine va_laldE (v := (σ1.2.1 218 ((z5 : Int32).toNatClampNeg))) hx hb hK hP _ 1 (mg_218 G Z Y σ1) rfl c8 dX12_endsWell_58 rfl ?_
      obtain ⟨c9, h⟩ := f_n h
      refine va_last hx hb hK hP hD hS _ 1 (mg_208 G Z Y σ1) rfl c9 dX12_endsWell_59 (fun H locs hP hD hS => ?_)
      have hP := wrP (mp_208 G Z Y σ1 _ _) hP
      have hD := wrD (mp_208 G Z Y σ1 _ _) hD
      refine lv_iinc (v := (z5 + 1)) (lv' := [(5, .int (z5 + 1)), (0, .ref (G.2.1 200)), (1, .int y1), (2, .long y2), (4, .int y4)]) hx hb dX12_endsWell_60 hl (k := 4) rfl rfl (by decide) rfl (fun ls hl => ?_)
      refine lv_goto (tgt := 34) hx hb dX12_endsWell_63 (by decide) ?_
      exact ih (sJ σ1 208 ((z5 : Int32).toNatClampNeg) (σ1.2.1 218 ((z5 : Int32).toNatClampNeg))) (z5 + 1) h _ _ _ hP hD hS (lv_sub hl [1, 2, 3, 4, 0] rfl)
set_option maxRecDepth 100000 in
set_option maxHeartbeats 8000000 in
theorem c_X12_endsWell (l : Launch) (D : va_G) (G : hG) (Z : hZ) (Y : va_W) (σ0 : hSt) (F : Nat) (x1 : Int32) (x2 : Int64) (res : (Int32 × hSt)) (h : f_X12_endsWell F Z σ0 x1 x2 = some res) : CT l yX12_endsWell cX12_endsWell 6 (some .boolean) rm_X12_endsWell D G 0 0 [.ref (G.2.1 200), .int x1, .long x2] (mW G Z Y σ0) (mW G Z Y res.2) (some (.int res.1)) := by
  unfold f_X12_endsWell at h
  refine CT.mk (cc := cX12_endsWell) (maxL := 6) (ret := (some .boolean)) (own := RX12) (plainFor_of_name (by decide)) rfl (Nat.le_of_ble_eq_true rfl) ?_
  intro p e s m args below meth c A ls C0 hnm hA hP hD hl
  obtain ⟨hx, hb, hr, hml, hown, hts, hlocks, hK, hE⟩ := id C0
  have hS : va_S A s.heap s.heap [] := va_S.rf
  have hl : lv_has ls 6 [(0, .ref (G.2.1 200)), (1, .int x1), (2, .long x2)] := hl
  refine lv_aload_n hx hb dX12_endsWell_0 rfl (lv_at hl 0 rfl) ?_
  refine va_get (D := D) (ci := 12) (v := .ref (G.2.1 214)) (C := RX12) (T := TX12) (N := 59) hx hb hts inU_X12 hown hK hP _ (mg_200 G Z Y σ0) rfl 32 (by decide) (hts _ wd_1280) (fun _ h9 => h9) rfl dX12_endsWell_1 ?_
  refine lv_iload_n hx hb dX12_endsWell_4 rfl (lv_at hl 1 rfl) ?_
  obtain ⟨c1, h⟩ := f_n h
  refine va_ialdE (v := (σ0.1 214 ((x1 : Int32).toNatClampNeg))) hx hb hK hP _ 0 (mg_214 G Z Y σ0) rfl c1 dX12_endsWell_5 rfl ?_
  refine lv_istore (lv' := [(4, .int (σ0.1 214 ((x1 : Int32).toNatClampNeg))), (0, .ref (G.2.1 200)), (1, .int x1), (2, .long x2)]) hx hb dX12_endsWell_6 hl (by decide) rfl (fun ls hl => ?_)
  refine lv_aload_n hx hb dX12_endsWell_8 rfl (lv_at hl 1 rfl) ?_
  refine lv_aload_n hx hb dX12_endsWell_9 rfl (lv_at hl 1 rfl) ?_
  refine va_get (D := D) (ci := 12) (v := .ref (G.2.1 216)) (C := RX12) (T := TX12) (N := 59) hx hb hts inU_X12 hown hK hP _ (mg_200 G Z Y σ0) rfl 34 (by decide) (hts _ wd_1282) (fun _ h9 => h9) rfl dX12_endsWell_10 ?_
  refine lv_iload_n hx hb dX12_endsWell_13 rfl (lv_at hl 2 rfl) ?_
  obtain ⟨c2, h⟩ := f_n h
  refine va_ialdE (v := (σ0.1 216 ((x1 : Int32).toNatClampNeg))) hx hb hK hP _ 0 (mg_216 G Z Y σ0) rfl c2 dX12_endsWell_14 rfl ?_
  refine lv_iload hx hb dX12_endsWell_15 (lv_at hl 0 rfl) ?_
  refine lv_aload_n hx hb dX12_endsWell_17 rfl (lv_at hl 1 rfl) ?_
  refine va_get (D := D) (ci := 12) (v := .ref (G.2.1 215)) (C := RX12) (T := TX12) (N := 59) hx hb hts inU_X12 hown hK hP _ (mg_200 G Z Y σ0) rfl 33 (by decide) (hts _ wd_1281) (fun _ h9 => h9) rfl dX12_endsWell_18 ?_
  refine lv_iload_n hx hb dX12_endsWell_21 rfl (lv_at hl 2 rfl) ?_
  obtain ⟨c3, h⟩ := f_n h
  refine va_ialdE (v := (σ0.1 215 ((x1 : Int32).toNatClampNeg))) hx hb hK hP _ 0 (mg_215 G Z Y σ0) rfl c3 dX12_endsWell_22 rfl ?_
  obtain ⟨q4, hq4, h⟩ := f_b h
  refine cl_V (w := (mW G Z Y σ0)) (w' := (mW G Z Y q4.2)) (rv := some (.int q4.1)) (bytes := cX12_asksEnd) (maxL := 4) (ret := (some .boolean)) (C := RX12) (As := [.int (σ0.1 216 ((x1 : Int32).toNatClampNeg)), .int (σ0.1 214 ((x1 : Int32).toNatClampNeg)), .int (σ0.1 215 ((x1 : Int32).toNatClampNeg))]) (rest := []) (stk := [.int q4.1]) ⟨hx, hb, hml, hown, hts⟩ hK hE hA hP hD hS (c_X12_asksEnd l D G Z Y σ0 F (σ0.1 216 ((x1 : Int32).toNatClampNeg)) (σ0.1 214 ((x1 : Int32).toNatClampNeg)) (σ0.1 215 ((x1 : Int32).toNatClampNeg)) q4 hq4) (cwV 3 hts (gwV wd_1711 wd_1713 wp_90 wd_11 wd_1714) rfl rfl rfl hd_X12_asksEnd ⟨Nat.le_of_ble_eq_true rfl, Nat.le_of_ble_eq_true rfl⟩) (mg_200 G Z Y σ0) rfl rfl rfl hl.1 rfl (Nat.le_of_ble_eq_true rfl) dX12_endsWell_23 ⟨Nat.zero_le _, Nat.zero_le _⟩ rfl (fun H locs hP hD hS => ?_)
  refine lv_if_ne (tgt := 31) hx hb dX12_endsWell_26 (by decide) (fun c5 => ?_) (fun c5 => ?_)
  · skip
    have h := f_f c5 h
    refine lv_iconst (v := 0) hx hb dX12_endsWell_31 (by decide) ?_
    refine lv_istore (lv' := [(5, .int (0 : Int32)), (4, .int (σ0.1 214 ((x1 : Int32).toNatClampNeg))), (0, .ref (G.2.1 200)), (1, .int x1), (2, .long x2)]) hx hb dX12_endsWell_32 hl (by decide) rfl (fun ls hl => ?_)
    refine W_X12_endsWell_L34 l D G Z Y σ0 F x1 x2 x1 x2 (σ0.1 214 ((x1 : Int32).toNatClampNeg)) res C0 hA _ ?_ F q4.2 (0 : Int32) h _ _ _ hP hD hS (lv_sub hl [2, 3, 4, 1, 0] rfl)
    · intro σ1 h H locs ls hP hD hS hl
      refine lv_aload_n hx hb dX12_endsWell_66 rfl (lv_at hl 0 rfl) ?_
      refine lv_iload hx hb dX12_endsWell_67 (lv_at hl 3 rfl) ?_
      refine lv_aload_n hx hb dX12_endsWell_69 rfl (lv_at hl 0 rfl) ?_
      refine va_get (D := D) (ci := 12) (v := .ref (G.2.1 215)) (C := RX12) (T := TX12) (N := 59) hx hb hts inU_X12 hown hK hP _ (mg_200 G Z Y σ1) rfl 33 (by decide) (hts _ wd_1281) (fun _ h9 => h9) rfl dX12_endsWell_70 ?_
      refine lv_iload_n hx hb dX12_endsWell_73 rfl (lv_at hl 1 rfl) ?_
      obtain ⟨c10, h⟩ := f_n h
      refine va_ialdE (v := (σ1.1 215 ((x1 : Int32).toNatClampNeg))) hx hb hK hP _ 0 (mg_215 G Z Y σ1) rfl c10 dX12_endsWell_74 rfl ?_
      refine lv_i2l (v := ((σ1.1 215 ((x1 : Int32).toNatClampNeg)) : Int32).toInt64) hx hb dX12_endsWell_75 rfl ?_
      obtain ⟨q11, hq11, h⟩ := f_b h
      refine cl_V (w := (mW G Z Y σ1)) (w' := (mW G Z Y q11.2)) (rv := some (.long q11.1)) (bytes := cX12_worthAt) (maxL := 13) (ret := (some .long)) (C := RX12) (As := [.int (σ0.1 214 ((x1 : Int32).toNatClampNeg)), .long ((σ1.1 215 ((x1 : Int32).toNatClampNeg)) : Int32).toInt64]) (rest := []) (stk := [.long q11.1]) ⟨hx, hb, hml, hown, hts⟩ hK hE hA hP hD hS (c_X12_worthAt l D G Z Y σ1 F (σ0.1 214 ((x1 : Int32).toNatClampNeg)) (((σ1.1 215 ((x1 : Int32).toNatClampNeg)) : Int32).toInt64) q11 hq11) (cwV 2 hts (gwV wd_1510 wd_1512 wp_60 wd_11 wd_1513) rfl rfl rfl hd_X12_worthAt ⟨Nat.le_of_ble_eq_true rfl, Nat.le_of_ble_eq_true rfl⟩) (mg_200 G Z Y σ1) rfl rfl rfl hl.1 rfl (Nat.le_of_ble_eq_true rfl) dX12_endsWell_76 ⟨Nat.zero_le _, Nat.zero_le _⟩ rfl (fun H locs hP hD hS => ?_)
      refine lv_lload_n hx hb dX12_endsWell_79 rfl (lv_at hl 2 rfl) ?_
      refine W.lcmp hx hb dX12_endsWell_80 ?_
      refine lv_if_ne (tgt := 88) hx hb dX12_endsWell_81 (by decide) (fun c12 => ?_) (fun c12 => ?_)
      · skip
        have c12 := mt (lg_cmp_eq _ _).mpr c12
        have h := f_f c12 h
        refine lv_iconst (v := 0) hx hb dX12_endsWell_88 (by decide) ?_
        obtain rfl := Option.some.inj h
        exact W.zret (v := (0 : Int32)) hx hb hr rfl (q_end hK hP hD hS) hS.2.2 dX12_endsWell_89
      · skip
        have c12 := (lg_cmp_eq _ _).mp c12
        have h := f_t c12 h
        refine lv_iconst (v := 1) hx hb dX12_endsWell_84 (by decide) ?_
        refine lv_goto (tgt := 89) hx hb dX12_endsWell_85 (by decide) ?_
        obtain rfl := Option.some.inj h
        exact W.zret (v := (1 : Int32)) hx hb hr rfl (q_end hK hP hD hS) hS.2.2 dX12_endsWell_89
  · skip
    have h := f_t c5 h
    refine lv_iconst (v := 1) hx hb dX12_endsWell_29 (by decide) ?_
    obtain rfl := Option.some.inj h
    exact W.zret (v := (1 : Int32)) hx hb hr rfl (q_end hK hP hD hS) hS.2.2 dX12_endsWell_30
abbrev rm_X12_mix : Room := { frames := 0, cells := 0, slots := 0, locals := 0 }
set_option maxRecDepth 100000 in
set_option maxHeartbeats 8000000 in
theorem c_X12_mix (l : Launch) (D : va_G) (G : hG) (Z : hZ) (Y : va_W) (σ0 : hSt) (x1 : Int64) (res : (Unit × hSt)) (h : f_X12_mix Z σ0 x1 = some res) : CT l yX12_mix cX12_mix 3 none rm_X12_mix D G 0 0 [.ref (G.2.1 200), .long x1] (mW G Z Y σ0) (mW G Z Y res.2) none := by
  unfold f_X12_mix at h
  refine CT.mk (cc := cX12_mix) (maxL := 3) (ret := none) (own := RX12) (plainFor_of_name (by decide)) rfl (Nat.le_of_ble_eq_true rfl) ?_
  intro p e s m args below meth c A ls C0 hnm hA hP hD hl
  obtain ⟨hx, hb, hr, hml, hown, hts, hlocks, hK, hE⟩ := id C0
  have hS : va_S A s.heap s.heap [] := va_S.rf
  have hl : lv_has ls 3 [(0, .ref (G.2.1 200)), (1, .long x1)] := hl
  refine lv_aload_n hx hb dX12_mix_0 rfl (lv_at hl 0 rfl) ?_
  refine lv_aload_n hx hb dX12_mix_1 rfl (lv_at hl 0 rfl) ?_
  refine va_get (D := D) (ci := 12) (v := .long (σ0.2.1 200 45)) (C := RX12) (T := TX12) (N := 59) hx hb hts inU_X12 hown hK hP _ (mg_200 G Z Y σ0) rfl 45 (by decide) (hts _ wd_1292) (fun _ h9 => h9) rfl dX12_mix_2 ?_
  refine lv_ldc2 (v := 6364136223846793005) hx hb hown (hts _ wd_1677) dX12_mix_5 ?_
  refine lv_lmul hx hb dX12_mix_8 ?_
  refine lv_ldc2 (v := 1442695040888963407) hx hb hown (hts _ wd_1678) dX12_mix_9 ?_
  refine lv_ladd hx hb dX12_mix_12 ?_
  refine lv_lload_n hx hb dX12_mix_13 rfl (lv_at hl 1 rfl) ?_
  refine lv_ladd hx hb dX12_mix_14 ?_
  refine va_put (D := D) (ci := 12) (v := .long ((((σ0.2.1 200 45) * (6364136223846793005 : Int64)) + (1442695040888963407 : Int64)) + x1)) (ty := .long) (C := RX12) (T := TX12) (N := 59) hx hb hts inU_X12 tyX12 tyX12_ok nmX12 hown hK hP hD hS _ (mg_200 G Z Y σ0) rfl 45 (by decide) (hts _ wd_1292) (fun _ h9 => h9) rfl (by decide +kernel) rfl rfl (Nat.le_of_ble_eq_true rfl) dX12_mix_15 (fun H locs hP hD hS => ?_)
  have hP := wrP (mp_200_45 G Z Y σ0 ((((σ0.2.1 200 45) * (6364136223846793005 : Int64)) + (1442695040888963407 : Int64)) + x1)) hP
  have hD := wrD (mp_200_45 G Z Y σ0 ((((σ0.2.1 200 45) * (6364136223846793005 : Int64)) + (1442695040888963407 : Int64)) + x1)) hD
  obtain rfl := Option.some.inj h
  exact W.vret hx hb hr (q_end hK hP hD hS) hS.2.2 dX12_mix_18
abbrev rm_X12_goes : Room := { frames := 77, cells := 0, slots := 0, locals := 1913 }
set_option maxRecDepth 100000 in
set_option maxHeartbeats 8000000 in
theorem W_X12_goes_L93 {p : Program} {e : Env} {s : State} {m : MethodId} {args : Array Value} {below : List Frame} {meth : Method} {c : Code} {A : Nat → Prop} (l : Launch) (D : va_G) (G : hG) (Z : hZ) (Y : va_W) (σ0 : hSt) (F : Nat) (x1 : Int32) (x2 : Int32) (x3 : Int64) (x5 : Int32) (y1 : Int32) (y2 : Int32) (y5 : Int32) (y6 : Int32) (y7 : Int32) (res : (Int32 × hSt)) (C0 : Cx p s m args meth c cX12_goes (some .boolean) RX12 9 D G A) (hA : ∀ q : Nat, s.heap.size ≤ q → A q) (k139 : hSt → Option (Int32 × hSt)) (hk139 : ∀ (σ1 : hSt), k139 σ1 = some res → ∀ (H : Heap) (locs : List Loc) (ls : Array Slot), va_P D vwCl (mW G Z Y σ1) H → va_D A (mW G Z Y σ1) → va_S A s.heap H locs → lv_has ls 9 [(0, .ref (G.2.1 200)), (1, .int y1), (2, .int y2), (5, .int y5), (6, .int y6), (7, .int y7)] → W p l e rm_X12_goes s m args below meth c H locs 0 0 (MQ below (Qg (some (.int res.1)) D (tysG G) (mW G Z Y res.2) A) args s 0 0 A) (F0 m 139 ls [])) : ∀ (n : Nat) (σ1 : hSt) (z8 : Int32), f_X12_goes_L93 Z y1 y2 y5 y6 y7 k139 n σ1 z8 = some res → ∀ (H : Heap) (locs : List Loc) (ls : Array Slot), va_P D vwCl (mW G Z Y σ1) H → va_D A (mW G Z Y σ1) → va_S A s.heap H locs → lv_has ls 9 [(0, .ref (G.2.1 200)), (1, .int y1), (2, .int y2), (5, .int y5), (6, .int y6), (7, .int y7), (8, .int z8)] → W p l e rm_X12_goes s m args below meth c H locs 0 0 (MQ below (Qg (some (.int res.1)) D (tysG G) (mW G Z Y res.2) A) args s 0 0 A) (F0 m 93 ls []) := by
  obtain ⟨hx, hb, hr, hml, hown, hts, hlocks, hK, hE⟩ := id C0
  intro n
  induction n with
  | zero =>
    intro σ1 z8 h
    cases h
  | succ n ih =>
    intro σ1 z8 h H locs ls hP hD hS hl
    rw [f_X12_goes_L93] at h
    refine lv_iload hx hb dX12_goes_93 (lv_at hl 6 rfl) ?_
    refine lv_aload_n hx hb dX12_goes_95 rfl (lv_at hl 0 rfl) ?_
    refine va_get (D := D) (ci := 12) (v := .ref (G.2.1 205)) (C := RX12) (T := TX12) (N := 59) hx hb hts inU_X12 hown hK hP _ (mg_200 G Z Y σ1) rfl 13 (by decide) (hts _ wd_1261) (fun _ h9 => h9) rfl dX12_goes_96 ?_
    refine lv_bipush (v := 6) hx hb dX12_goes_99 (by decide) ?_
    refine lv_iload hx hb dX12_goes_101 (lv_at hl 4 rfl) ?_
    refine lv_imul hx hb dX12_goes_103 ?_
    refine lv_iload hx hb dX12_goes_104 (lv_at hl 5 rfl) ?_
    refine lv_iadd hx hb dX12_goes_106 ?_
    obtain ⟨c8, h⟩ := f_n h
    refine va_ialdE (v := (σ1.1 205 (((((6 : Int32) * y6) + y7) : Int32).toNatClampNeg))) hx hb hK hP _ 0 (mg_205 G Z Y σ1) rfl c8 dX12_goes_107 rfl ?_
    refine lv_icmp_gt (tgt := 139) hx hb dX12_goes_108 (by decide) (fun c9 => ?_) (fun c9 => ?_)
    · skip
      have h := f_t c9 h
      exact hk139 σ1 h _ _ _ hP hD hS (lv_sub hl [0, 1, 2, 3, 4, 5] rfl)
    · skip
      have h := f_f c9 h
      refine lv_iload_n hx hb dX12_goes_111 rfl (lv_at hl 2 rfl) ?_
      refine lv_if_eq (tgt := 139) hx hb dX12_goes_112 (by decide) (fun c10 => ?_) (fun c10 => ?_)
      · skip
        have h := f_t c10 h
        exact hk139 σ1 h _ _ _ hP hD hS (lv_sub hl [0, 1, 2, 3, 4, 5] rfl)
      · skip
        have h := f_f c10 h
        refine lv_aload_n hx hb dX12_goes_115 rfl (lv_at hl 0 rfl) ?_
        refine lv_aload_n hx hb dX12_goes_116 rfl (lv_at hl 0 rfl) ?_
        refine va_get (D := D) (ci := 12) (v := .ref (G.2.1 219)) (C := RX12) (T := TX12) (N := 59) hx hb hts inU_X12 hown hK hP _ (mg_200 G Z Y σ1) rfl 38 (by decide) (hts _ wd_1286) (fun _ h9 => h9) rfl dX12_goes_117 ?_
        refine lv_sipush (v := 201) hx hb dX12_goes_120 (by decide) ?_
        refine lv_iload hx hb dX12_goes_123 (lv_at hl 5 rfl) ?_
        refine lv_imul hx hb dX12_goes_125 ?_
        refine lv_iload hx hb dX12_goes_126 (lv_at hl 6 rfl) ?_
        refine lv_iadd hx hb dX12_goes_128 ?_
        obtain ⟨c11, h⟩ := f_n h
        refine va_laldE (v := (σ1.2.1 219 (((((201 : Int32) * y7) + z8) : Int32).toNatClampNeg))) hx hb hK hP _ 1 (mg_219 G Z Y σ1) rfl c11 dX12_goes_129 rfl ?_
        obtain ⟨q12, hq12, h⟩ := f_b h
        refine cl_V (w := (mW G Z Y σ1)) (w' := (mW G Z Y q12.2)) (rv := none) (bytes := cX12_mix) (maxL := 3) (ret := none) (C := RX12) (As := [.long (σ1.2.1 219 (((((201 : Int32) * y7) + z8) : Int32).toNatClampNeg))]) (rest := []) (stk := []) ⟨hx, hb, hml, hown, hts⟩ hK hE hA hP hD hS (c_X12_mix l D G Z Y σ1 (σ1.2.1 219 (((((201 : Int32) * y7) + z8) : Int32).toNatClampNeg)) q12 hq12) (cwV 1 hts (gwV wd_1673 wd_1675 wp_81 wd_11 wd_1676) rfl rfl rfl hd_X12_mix ⟨Nat.le_of_ble_eq_true rfl, Nat.le_of_ble_eq_true rfl⟩) (mg_200 G Z Y σ1) rfl rfl rfl hl.1 rfl (Nat.le_of_ble_eq_true rfl) dX12_goes_130 ⟨Nat.zero_le _, Nat.zero_le _⟩ rfl (fun H locs hP hD hS => ?_)
        refine lv_iinc (v := (z8 + 1)) (lv' := [(8, .int (z8 + 1)), (0, .ref (G.2.1 200)), (1, .int y1), (2, .int y2), (5, .int y5), (6, .int y6), (7, .int y7)]) hx hb dX12_goes_133 hl (k := 6) rfl rfl (by decide) rfl (fun ls hl => ?_)
        refine lv_goto (tgt := 93) hx hb dX12_goes_136 (by decide) ?_
        exact ih q12.2 (z8 + 1) h _ _ _ hP hD hS (lv_sub hl [1, 2, 3, 4, 5, 6, 0] rfl)
set_option maxRecDepth 100000 in
set_option maxHeartbeats 8000000 in
theorem W_X12_goes_L65 {p : Program} {e : Env} {s : State} {m : MethodId} {args : Array Value} {below : List Frame} {meth : Method} {c : Code} {A : Nat → Prop} (l : Launch) (D : va_G) (G : hG) (Z : hZ) (Y : va_W) (σ0 : hSt) (F : Nat) (x1 : Int32) (x2 : Int32) (x3 : Int64) (x5 : Int32) (y1 : Int32) (y2 : Int32) (y5 : Int32) (y6 : Int32) (res : (Int32 × hSt)) (C0 : Cx p s m args meth c cX12_goes (some .boolean) RX12 9 D G A) (hA : ∀ q : Nat, s.heap.size ≤ q → A q) (k256 : hSt → Option (Int32 × hSt)) (hk256 : ∀ (σ1 : hSt), k256 σ1 = some res → ∀ (H : Heap) (locs : List Loc) (ls : Array Slot), va_P D vwCl (mW G Z Y σ1) H → va_D A (mW G Z Y σ1) → va_S A s.heap H locs → lv_has ls 9 [(0, .ref (G.2.1 200)), (1, .int y1), (6, .int y6)] → W p l e rm_X12_goes s m args below meth c H locs 0 0 (MQ below (Qg (some (.int res.1)) D (tysG G) (mW G Z Y res.2) A) args s 0 0 A) (F0 m 256 ls [])) : ∀ (n : Nat) (σ1 : hSt) (z7 : Int32), f_X12_goes_L65 F Z y1 y2 y5 y6 k256 n σ1 z7 = some res → ∀ (H : Heap) (locs : List Loc) (ls : Array Slot), va_P D vwCl (mW G Z Y σ1) H → va_D A (mW G Z Y σ1) → va_S A s.heap H locs → lv_has ls 9 [(0, .ref (G.2.1 200)), (1, .int y1), (2, .int y2), (5, .int y5), (6, .int y6), (7, .int z7)] → W p l e rm_X12_goes s m args below meth c H locs 0 0 (MQ below (Qg (some (.int res.1)) D (tysG G) (mW G Z Y res.2) A) args s 0 0 A) (F0 m 65 ls []) := by
  obtain ⟨hx, hb, hr, hml, hown, hts, hlocks, hK, hE⟩ := id C0
  intro n
  induction n with
  | zero =>
    intro σ1 z7 h
    cases h
  | succ n ih =>
    intro σ1 z7 h H locs ls hP hD hS hl
    rw [f_X12_goes_L65] at h
    refine lv_iload hx hb dX12_goes_65 (lv_at hl 5 rfl) ?_
    refine lv_aload_n hx hb dX12_goes_67 rfl (lv_at hl 0 rfl) ?_
    refine va_get (D := D) (ci := 12) (v := .ref (G.2.1 204)) (C := RX12) (T := TX12) (N := 59) hx hb hts inU_X12 hown hK hP _ (mg_200 G Z Y σ1) rfl 12 (by decide) (hts _ wd_1260) (fun _ h9 => h9) rfl dX12_goes_68 ?_
    refine lv_iload hx hb dX12_goes_71 (lv_at hl 4 rfl) ?_
    obtain ⟨c5, h⟩ := f_n h
    refine va_ialdE (v := (σ1.1 204 ((y6 : Int32).toNatClampNeg))) hx hb hK hP _ 0 (mg_204 G Z Y σ1) rfl c5 dX12_goes_73 rfl ?_
    refine lv_icmp_ge (tgt := 256) hx hb dX12_goes_74 (by decide) (fun c6 => ?_) (fun c6 => ?_)
    · skip
      have h := f_t c6 h
      exact hk256 σ1 h _ _ _ hP hD hS (lv_sub hl [0, 1, 4] rfl)
    · skip
      have h := f_f c6 h
      refine lv_aload_n hx hb dX12_goes_77 rfl (lv_at hl 0 rfl) ?_
      refine lv_iload_n hx hb dX12_goes_78 rfl (lv_at hl 1 rfl) ?_
      refine lv_iload hx hb dX12_goes_79 (lv_at hl 5 rfl) ?_
      refine lv_aload_n hx hb dX12_goes_81 rfl (lv_at hl 0 rfl) ?_
      refine va_get (D := D) (ci := 12) (v := .long (σ1.2.1 200 44)) (C := RX12) (T := TX12) (N := 59) hx hb hts inU_X12 hown hK hP _ (mg_200 G Z Y σ1) rfl 44 (by decide) (hts _ wd_1291) (fun _ h9 => h9) rfl dX12_goes_82 ?_
      refine lv_iload hx hb dX12_goes_85 (lv_at hl 3 rfl) ?_
      obtain ⟨q7, hq7, h⟩ := f_b h
      refine cl_V (w := (mW G Z Y σ1)) (w' := (mW G Z Y q7.2)) (rv := none) (bytes := cX12_speaks) (maxL := 13) (ret := none) (C := RX12) (As := [.int y1, .int z7, .long (σ1.2.1 200 44), .int y5]) (rest := []) (stk := []) ⟨hx, hb, hml, hown, hts⟩ hK hE hA hP hD hS (c_X12_speaks l D G Z Y σ1 F y1 z7 (σ1.2.1 200 44) y5 q7 hq7) (cwV 4 hts (gwV wd_1679 wd_1681 wp_82 wd_11 wd_1682) rfl rfl rfl hd_X12_speaks ⟨Nat.le_of_ble_eq_true rfl, Nat.le_of_ble_eq_true rfl⟩) (mg_200 G Z Y σ1) rfl rfl rfl hl.1 rfl (Nat.le_of_ble_eq_true rfl) dX12_goes_87 ⟨Nat.zero_le _, Nat.zero_le _⟩ rfl (fun H locs hP hD hS => ?_)
      refine lv_iconst (v := 0) hx hb dX12_goes_90 (by decide) ?_
      refine lv_istore (lv' := [(8, .int (0 : Int32)), (0, .ref (G.2.1 200)), (1, .int y1), (2, .int y2), (5, .int y5), (6, .int y6), (7, .int z7)]) hx hb dX12_goes_91 hl (by decide) rfl (fun ls hl => ?_)
      refine W_X12_goes_L93 l D G Z Y σ0 F x1 x2 x3 x5 y1 y2 y5 y6 z7 res C0 hA _ ?_ F q7.2 (0 : Int32) h _ _ _ hP hD hS (lv_sub hl [1, 2, 3, 4, 5, 6, 0] rfl)
      · intro σ1 h H locs ls hP hD hS hl
        refine lv_aload_n hx hb dX12_goes_139 rfl (lv_at hl 0 rfl) ?_
        refine lv_aload_n hx hb dX12_goes_140 rfl (lv_at hl 0 rfl) ?_
        refine va_get (D := D) (ci := 12) (v := .ref (G.2.1 216)) (C := RX12) (T := TX12) (N := 59) hx hb hts inU_X12 hown hK hP _ (mg_200 G Z Y σ1) rfl 34 (by decide) (hts _ wd_1282) (fun _ h9 => h9) rfl dX12_goes_141 ?_
        refine lv_iload_n hx hb dX12_goes_144 rfl (lv_at hl 1 rfl) ?_
        obtain ⟨c13, h⟩ := f_n h
        refine va_ialdE (v := (σ1.1 216 ((y1 : Int32).toNatClampNeg))) hx hb hK hP _ 0 (mg_216 G Z Y σ1) rfl c13 dX12_goes_145 rfl ?_
        refine lv_iload hx hb dX12_goes_146 (lv_at hl 4 rfl) ?_
        refine lv_aload_n hx hb dX12_goes_148 rfl (lv_at hl 0 rfl) ?_
        refine va_get (D := D) (ci := 12) (v := .ref (G.2.1 215)) (C := RX12) (T := TX12) (N := 59) hx hb hts inU_X12 hown hK hP _ (mg_200 G Z Y σ1) rfl 33 (by decide) (hts _ wd_1281) (fun _ h9 => h9) rfl dX12_goes_149 ?_
        refine lv_iload_n hx hb dX12_goes_152 rfl (lv_at hl 1 rfl) ?_
        obtain ⟨c14, h⟩ := f_n h
        refine va_ialdE (v := (σ1.1 215 ((y1 : Int32).toNatClampNeg))) hx hb hK hP _ 0 (mg_215 G Z Y σ1) rfl c14 dX12_goes_153 rfl ?_
        refine lv_iload hx hb dX12_goes_154 (lv_at hl 5 rfl) ?_
        obtain ⟨q15, hq15, h⟩ := f_b h
        refine cl_V (w := (mW G Z Y σ1)) (w' := (mW G Z Y q15.2)) (rv := some (.int q15.1)) (bytes := cX12_asksSum) (maxL := 5) (ret := (some .boolean)) (C := RX12) (As := [.int (σ1.1 216 ((y1 : Int32).toNatClampNeg)), .int y6, .int (σ1.1 215 ((y1 : Int32).toNatClampNeg)), .int z7]) (rest := []) (stk := [.int q15.1]) ⟨hx, hb, hml, hown, hts⟩ hK hE hA hP hD hS (c_X12_asksSum l D G Z Y σ1 F (σ1.1 216 ((y1 : Int32).toNatClampNeg)) y6 (σ1.1 215 ((y1 : Int32).toNatClampNeg)) z7 q15 hq15) (cwV 4 hts (gwV wd_1687 wd_1689 wp_84 wd_11 wd_1690) rfl rfl rfl hd_X12_asksSum ⟨Nat.le_of_ble_eq_true rfl, Nat.le_of_ble_eq_true rfl⟩) (mg_200 G Z Y σ1) rfl rfl rfl hl.1 rfl (Nat.le_of_ble_eq_true rfl) dX12_goes_156 ⟨Nat.zero_le _, Nat.zero_le _⟩ rfl (fun H locs hP hD hS => ?_)
        refine lv_if_eq (tgt := 184) hx hb dX12_goes_159 (by decide) (fun c16 => ?_) (fun c16 => ?_)
        · skip
          have h := f_t c16 h
          refine lv_iload_n hx hb dX12_goes_184 rfl (lv_at hl 2 rfl) ?_
          refine lv_if_ne (tgt := 193) hx hb dX12_goes_185 (by decide) (fun c17 => ?_) (fun c17 => ?_)
          · skip
            have h := f_f c17 h
            refine lv_aload_n hx hb dX12_goes_193 rfl (lv_at hl 0 rfl) ?_
            refine va_get (D := D) (ci := 12) (v := .ref (G.2.1 218)) (C := RX12) (T := TX12) (N := 59) hx hb hts inU_X12 hown hK hP _ (mg_200 G Z Y q15.2) rfl 37 (by decide) (hts _ wd_1285) (fun _ h9 => h9) rfl dX12_goes_194 ?_
            refine lv_iload hx hb dX12_goes_197 (lv_at hl 5 rfl) ?_
            refine lv_aload_n hx hb dX12_goes_199 rfl (lv_at hl 0 rfl) ?_
            refine va_get (D := D) (ci := 12) (v := .long (q15.2.2.1 200 45)) (C := RX12) (T := TX12) (N := 59) hx hb hts inU_X12 hown hK hP _ (mg_200 G Z Y q15.2) rfl 45 (by decide) (hts _ wd_1292) (fun _ h9 => h9) rfl dX12_goes_200 ?_
            refine lv_bipush (v := 33) hx hb dX12_goes_203 (by decide) ?_
            refine lv_lushr (v := (((q15.2.2.1 200 45)).toUInt64 >>> (((33 : Int32) : Int32).toInt64.toUInt64 &&& Int64.toUInt64 63)).toInt64) hx hb dX12_goes_205 rfl ?_
            refine lv_aload_n hx hb dX12_goes_206 rfl (lv_at hl 0 rfl) ?_
            refine lv_aload_n hx hb dX12_goes_207 rfl (lv_at hl 0 rfl) ?_
            refine va_get (D := D) (ci := 12) (v := .ref (G.2.1 216)) (C := RX12) (T := TX12) (N := 59) hx hb hts inU_X12 hown hK hP _ (mg_200 G Z Y q15.2) rfl 34 (by decide) (hts _ wd_1282) (fun _ h9 => h9) rfl dX12_goes_208 ?_
            refine lv_iload_n hx hb dX12_goes_211 rfl (lv_at hl 1 rfl) ?_
            obtain ⟨c18, h⟩ := f_n h
            refine va_ialdE (v := (q15.2.1 216 ((y1 : Int32).toNatClampNeg))) hx hb hK hP _ 0 (mg_216 G Z Y q15.2) rfl c18 dX12_goes_212 rfl ?_
            refine lv_iload hx hb dX12_goes_213 (lv_at hl 4 rfl) ?_
            refine lv_aload_n hx hb dX12_goes_215 rfl (lv_at hl 0 rfl) ?_
            refine va_get (D := D) (ci := 12) (v := .ref (G.2.1 215)) (C := RX12) (T := TX12) (N := 59) hx hb hts inU_X12 hown hK hP _ (mg_200 G Z Y q15.2) rfl 33 (by decide) (hts _ wd_1281) (fun _ h9 => h9) rfl dX12_goes_216 ?_
            refine lv_iload_n hx hb dX12_goes_219 rfl (lv_at hl 1 rfl) ?_
            obtain ⟨c19, h⟩ := f_n h
            refine va_ialdE (v := (q15.2.1 215 ((y1 : Int32).toNatClampNeg))) hx hb hK hP _ 0 (mg_215 G Z Y q15.2) rfl c19 dX12_goes_220 rfl ?_
            refine lv_iload hx hb dX12_goes_221 (lv_at hl 5 rfl) ?_
            obtain ⟨q20, hq20, h⟩ := f_b h
            refine cl_V (w := (mW G Z Y q15.2)) (w' := (mW G Z Y q20.2)) (rv := some (.int q20.1)) (bytes := cX12_draws) (maxL := 5) (ret := (some .int)) (C := RX12) (As := [.int (q15.2.1 216 ((y1 : Int32).toNatClampNeg)), .int y6, .int (q15.2.1 215 ((y1 : Int32).toNatClampNeg)), .int z7]) (rest := [.long (((q15.2.2.1 200 45)).toUInt64 >>> (((33 : Int32) : Int32).toInt64.toUInt64 &&& Int64.toUInt64 63)).toInt64, .int z7, .ref (G.2.1 218)]) (stk := [.int q20.1, .long (((q15.2.2.1 200 45)).toUInt64 >>> (((33 : Int32) : Int32).toInt64.toUInt64 &&& Int64.toUInt64 63)).toInt64, .int z7, .ref (G.2.1 218)]) ⟨hx, hb, hml, hown, hts⟩ hK hE hA hP hD hS (c_X12_draws l D G Z Y q15.2 F (q15.2.1 216 ((y1 : Int32).toNatClampNeg)) y6 (q15.2.1 215 ((y1 : Int32).toNatClampNeg)) z7 q20 hq20) (cwV 4 hts (gwV wd_1699 wd_1701 wp_87 wd_11 wd_1702) rfl rfl rfl hd_X12_draws ⟨Nat.le_of_ble_eq_true rfl, Nat.le_of_ble_eq_true rfl⟩) (mg_200 G Z Y q15.2) rfl rfl rfl hl.1 rfl (Nat.le_of_ble_eq_true rfl) dX12_goes_223 ⟨Nat.zero_le _, Nat.zero_le _⟩ rfl (fun H locs hP hD hS => ?_)
            refine lv_i2l (v := (q20.1 : Int32).toInt64) hx hb dX12_goes_226 rfl ?_
            obtain ⟨c21, h⟩ := f_n h
            refine lv_lrem hx hb dX12_goes_227 c21 ?_
            obtain ⟨c22, h⟩ := f_n h
            refine va_last hx hb hK hP hD hS _ 1 (mg_218 G Z Y q20.2) rfl c22 dX12_goes_228 (fun H locs hP hD hS => ?_)
            have hP := wrP (mp_218 G Z Y q20.2 _ _) hP
            have hD := wrD (mp_218 G Z Y q20.2 _ _) hD
            refine lv_aload_n hx hb dX12_goes_229 rfl (lv_at hl 0 rfl) ?_
            refine lv_dup hx hb dX12_goes_230 rfl ?_
            refine va_get (D := D) (ci := 12) (v := .int (q20.2.1 200 42)) (C := RX12) (T := TX12) (N := 59) hx hb hts inU_X12 hown hK hP _ (mg_200 G Z Y (sJ q20.2 218 ((z7 : Int32).toNatClampNeg) ((((q15.2.2.1 200 45)).toUInt64 >>> (((33 : Int32) : Int32).toInt64.toUInt64 &&& Int64.toUInt64 63)).toInt64 - (((q15.2.2.1 200 45)).toUInt64 >>> (((33 : Int32) : Int32).toInt64.toUInt64 &&& Int64.toUInt64 63)).toInt64 / (q20.1 : Int32).toInt64 * (q20.1 : Int32).toInt64))) rfl 42 (by decide) (hts _ wd_1289) (fun _ h9 => h9) rfl dX12_goes_231 ?_
            refine lv_iconst (v := 1) hx hb dX12_goes_234 (by decide) ?_
            refine lv_iadd hx hb dX12_goes_235 ?_
            refine va_put (D := D) (ci := 12) (v := .int ((q20.2.1 200 42) + (1 : Int32))) (ty := .int) (C := RX12) (T := TX12) (N := 59) hx hb hts inU_X12 tyX12 tyX12_ok nmX12 hown hK hP hD hS _ (mg_200 G Z Y (sJ q20.2 218 ((z7 : Int32).toNatClampNeg) ((((q15.2.2.1 200 45)).toUInt64 >>> (((33 : Int32) : Int32).toInt64.toUInt64 &&& Int64.toUInt64 63)).toInt64 - (((q15.2.2.1 200 45)).toUInt64 >>> (((33 : Int32) : Int32).toInt64.toUInt64 &&& Int64.toUInt64 63)).toInt64 / (q20.1 : Int32).toInt64 * (q20.1 : Int32).toInt64))) rfl 42 (by decide) (hts _ wd_1289) (fun _ h9 => h9) rfl (by decide +kernel) rfl rfl (Nat.le_of_ble_eq_true rfl) dX12_goes_236 (fun H locs hP hD hS => ?_)
            have hP := wrP (mp_200_42 G Z Y (sJ q20.2 218 ((z7 : Int32).toNatClampNeg) ((((q15.2.2.1 200 45)).toUInt64 >>> (((33 : Int32) : Int32).toInt64.toUInt64 &&& Int64.toUInt64 63)).toInt64 - (((q15.2.2.1 200 45)).toUInt64 >>> (((33 : Int32) : Int32).toInt64.toUInt64 &&& Int64.toUInt64 63)).toInt64 / (q20.1 : Int32).toInt64 * (q20.1 : Int32).toInt64)) ((q20.2.1 200 42) + (1 : Int32))) hP
            have hD := wrD (mp_200_42 G Z Y (sJ q20.2 218 ((z7 : Int32).toNatClampNeg) ((((q15.2.2.1 200 45)).toUInt64 >>> (((33 : Int32) : Int32).toInt64.toUInt64 &&& Int64.toUInt64 63)).toInt64 - (((q15.2.2.1 200 45)).toUInt64 >>> (((33 : Int32) : Int32).toInt64.toUInt64 &&& Int64.toUInt64 63)).toInt64 / (q20.1 : Int32).toInt64 * (q20.1 : Int32).toInt64)) ((q20.2.1 200 42) + (1 : Int32))) hD
            refine lv_aload_n hx hb dX12_goes_239 rfl (lv_at hl 0 rfl) ?_
            refine lv_aload_n hx hb dX12_goes_240 rfl (lv_at hl 0 rfl) ?_
            refine lv_iload_n hx hb dX12_goes_241 rfl (lv_at hl 1 rfl) ?_
            refine lv_iload hx hb dX12_goes_242 (lv_at hl 5 rfl) ?_
            obtain ⟨q23, hq23, h⟩ := f_b h
            refine cl_V (w := (mW G Z Y (sI (sJ q20.2 218 ((z7 : Int32).toNatClampNeg) ((((q15.2.2.1 200 45)).toUInt64 >>> (((33 : Int32) : Int32).toInt64.toUInt64 &&& Int64.toUInt64 63)).toInt64 - (((q15.2.2.1 200 45)).toUInt64 >>> (((33 : Int32) : Int32).toInt64.toUInt64 &&& Int64.toUInt64 63)).toInt64 / (q20.1 : Int32).toInt64 * (q20.1 : Int32).toInt64)) 200 42 ((q20.2.1 200 42) + (1 : Int32))))) (w' := (mW G Z Y q23.2)) (rv := some (.long q23.1)) (bytes := cX12_nextClaim) (maxL := 5) (ret := (some .long)) (C := RX12) (As := [.int y1, .int z7]) (rest := [.ref (G.2.1 200)]) (stk := [.long q23.1, .ref (G.2.1 200)]) ⟨hx, hb, hml, hown, hts⟩ hK hE hA hP hD hS (c_X12_nextClaim l D G Z Y (sI (sJ q20.2 218 ((z7 : Int32).toNatClampNeg) ((((q15.2.2.1 200 45)).toUInt64 >>> (((33 : Int32) : Int32).toInt64.toUInt64 &&& Int64.toUInt64 63)).toInt64 - (((q15.2.2.1 200 45)).toUInt64 >>> (((33 : Int32) : Int32).toInt64.toUInt64 &&& Int64.toUInt64 63)).toInt64 / (q20.1 : Int32).toInt64 * (q20.1 : Int32).toInt64)) 200 42 ((q20.2.1 200 42) + (1 : Int32))) F y1 z7 q23 hq23) (cwV 2 hts (gwV wd_1703 wd_1705 wp_88 wd_11 wd_1706) rfl rfl rfl hd_X12_nextClaim ⟨Nat.le_of_ble_eq_true rfl, Nat.le_of_ble_eq_true rfl⟩) (mg_200 G Z Y (sI (sJ q20.2 218 ((z7 : Int32).toNatClampNeg) ((((q15.2.2.1 200 45)).toUInt64 >>> (((33 : Int32) : Int32).toInt64.toUInt64 &&& Int64.toUInt64 63)).toInt64 - (((q15.2.2.1 200 45)).toUInt64 >>> (((33 : Int32) : Int32).toInt64.toUInt64 &&& Int64.toUInt64 63)).toInt64 / (q20.1 : Int32).toInt64 * (q20.1 : Int32).toInt64)) 200 42 ((q20.2.1 200 42) + (1 : Int32)))) rfl rfl rfl hl.1 rfl (Nat.le_of_ble_eq_true rfl) dX12_goes_244 ⟨Nat.zero_le _, Nat.zero_le _⟩ rfl (fun H locs hP hD hS => ?_)
            refine va_put (D := D) (ci := 12) (v := .long q23.1) (ty := .long) (C := RX12) (T := TX12) (N := 59) hx hb hts inU_X12 tyX12 tyX12_ok nmX12 hown hK hP hD hS _ (mg_200 G Z Y q23.2) rfl 44 (by decide) (hts _ wd_1291) (fun _ h9 => h9) rfl (by decide +kernel) rfl rfl (Nat.le_of_ble_eq_true rfl) dX12_goes_247 (fun H locs hP hD hS => ?_)
            have hP := wrP (mp_200_44 G Z Y q23.2 q23.1) hP
            have hD := wrD (mp_200_44 G Z Y q23.2 q23.1) hD
            refine lv_iinc (v := (z7 + 1)) (lv' := [(7, .int (z7 + 1)), (0, .ref (G.2.1 200)), (1, .int y1), (2, .int y2), (5, .int y5), (6, .int y6)]) hx hb dX12_goes_250 hl (k := 5) rfl rfl (by decide) rfl (fun ls hl => ?_)
            refine lv_goto (tgt := 65) hx hb dX12_goes_253 (by decide) ?_
            exact ih (sJ q23.2 200 44 q23.1) (z7 + 1) h _ _ _ hP hD hS (lv_sub hl [1, 2, 3, 4, 5, 0] rfl)
          · skip
            have h := f_t c17 h
            refine lv_aload_n hx hb dX12_goes_188 rfl (lv_at hl 0 rfl) ?_
            refine lv_lconst (v := 0) hx hb dX12_goes_189 (by decide) ?_
            obtain ⟨q24, hq24, h⟩ := f_b h
            refine cl_V (w := (mW G Z Y q15.2)) (w' := (mW G Z Y q24.2)) (rv := none) (bytes := cX12_mix) (maxL := 3) (ret := none) (C := RX12) (As := [.long (0 : Int64)]) (rest := []) (stk := []) ⟨hx, hb, hml, hown, hts⟩ hK hE hA hP hD hS (c_X12_mix l D G Z Y q15.2 (0 : Int64) q24 hq24) (cwV 1 hts (gwV wd_1673 wd_1675 wp_81 wd_11 wd_1676) rfl rfl rfl hd_X12_mix ⟨Nat.le_of_ble_eq_true rfl, Nat.le_of_ble_eq_true rfl⟩) (mg_200 G Z Y q15.2) rfl rfl rfl hl.1 rfl (Nat.le_of_ble_eq_true rfl) dX12_goes_190 ⟨Nat.zero_le _, Nat.zero_le _⟩ rfl (fun H locs hP hD hS => ?_)
            refine lv_aload_n hx hb dX12_goes_193 rfl (lv_at hl 0 rfl) ?_
            refine va_get (D := D) (ci := 12) (v := .ref (G.2.1 218)) (C := RX12) (T := TX12) (N := 59) hx hb hts inU_X12 hown hK hP _ (mg_200 G Z Y q24.2) rfl 37 (by decide) (hts _ wd_1285) (fun _ h9 => h9) rfl dX12_goes_194 ?_
            refine lv_iload hx hb dX12_goes_197 (lv_at hl 5 rfl) ?_
            refine lv_aload_n hx hb dX12_goes_199 rfl (lv_at hl 0 rfl) ?_
            refine va_get (D := D) (ci := 12) (v := .long (q24.2.2.1 200 45)) (C := RX12) (T := TX12) (N := 59) hx hb hts inU_X12 hown hK hP _ (mg_200 G Z Y q24.2) rfl 45 (by decide) (hts _ wd_1292) (fun _ h9 => h9) rfl dX12_goes_200 ?_
            refine lv_bipush (v := 33) hx hb dX12_goes_203 (by decide) ?_
            refine lv_lushr (v := (((q24.2.2.1 200 45)).toUInt64 >>> (((33 : Int32) : Int32).toInt64.toUInt64 &&& Int64.toUInt64 63)).toInt64) hx hb dX12_goes_205 rfl ?_
            refine lv_aload_n hx hb dX12_goes_206 rfl (lv_at hl 0 rfl) ?_
            refine lv_aload_n hx hb dX12_goes_207 rfl (lv_at hl 0 rfl) ?_
            refine va_get (D := D) (ci := 12) (v := .ref (G.2.1 216)) (C := RX12) (T := TX12) (N := 59) hx hb hts inU_X12 hown hK hP _ (mg_200 G Z Y q24.2) rfl 34 (by decide) (hts _ wd_1282) (fun _ h9 => h9) rfl dX12_goes_208 ?_
            refine lv_iload_n hx hb dX12_goes_211 rfl (lv_at hl 1 rfl) ?_
            obtain ⟨c25, h⟩ := f_n h
            refine va_ialdE (v := (q24.2.1 216 ((y1 : Int32).toNatClampNeg))) hx hb hK hP _ 0 (mg_216 G Z Y q24.2) rfl c25 dX12_goes_212 rfl ?_
            refine lv_iload hx hb dX12_goes_213 (lv_at hl 4 rfl) ?_
            refine lv_aload_n hx hb dX12_goes_215 rfl (lv_at hl 0 rfl) ?_
            refine va_get (D := D) (ci := 12) (v := .ref (G.2.1 215)) (C := RX12) (T := TX12) (N := 59) hx hb hts inU_X12 hown hK hP _ (mg_200 G Z Y q24.2) rfl 33 (by decide) (hts _ wd_1281) (fun _ h9 => h9) rfl dX12_goes_216 ?_
            refine lv_iload_n hx hb dX12_goes_219 rfl (lv_at hl 1 rfl) ?_
            obtain ⟨c26, h⟩ := f_n h
            refine va_ialdE (v := (q24.2.1 215 ((y1 : Int32).toNatClampNeg))) hx hb hK hP _ 0 (mg_215 G Z Y q24.2) rfl c26 dX12_goes_220 rfl ?_
            refine lv_iload hx hb dX12_goes_221 (lv_at hl 5 rfl) ?_
            obtain ⟨q27, hq27, h⟩ := f_b h
            refine cl_V (w := (mW G Z Y q24.2)) (w' := (mW G Z Y q27.2)) (rv := some (.int q27.1)) (bytes := cX12_draws) (maxL := 5) (ret := (some .int)) (C := RX12) (As := [.int (q24.2.1 216 ((y1 : Int32).toNatClampNeg)), .int y6, .int (q24.2.1 215 ((y1 : Int32).toNatClampNeg)), .int z7]) (rest := [.long (((q24.2.2.1 200 45)).toUInt64 >>> (((33 : Int32) : Int32).toInt64.toUInt64 &&& Int64.toUInt64 63)).toInt64, .int z7, .ref (G.2.1 218)]) (stk := [.int q27.1, .long (((q24.2.2.1 200 45)).toUInt64 >>> (((33 : Int32) : Int32).toInt64.toUInt64 &&& Int64.toUInt64 63)).toInt64, .int z7, .ref (G.2.1 218)]) ⟨hx, hb, hml, hown, hts⟩ hK hE hA hP hD hS (c_X12_draws l D G Z Y q24.2 F (q24.2.1 216 ((y1 : Int32).toNatClampNeg)) y6 (q24.2.1 215 ((y1 : Int32).toNatClampNeg)) z7 q27 hq27) (cwV 4 hts (gwV wd_1699 wd_1701 wp_87 wd_11 wd_1702) rfl rfl rfl hd_X12_draws ⟨Nat.le_of_ble_eq_true rfl, Nat.le_of_ble_eq_true rfl⟩) (mg_200 G Z Y q24.2) rfl rfl rfl hl.1 rfl (Nat.le_of_ble_eq_true rfl) dX12_goes_223 ⟨Nat.zero_le _, Nat.zero_le _⟩ rfl (fun H locs hP hD hS => ?_)
            refine lv_i2l (v := (q27.1 : Int32).toInt64) hx hb dX12_goes_226 rfl ?_
            obtain ⟨c28, h⟩ := f_n h
            refine lv_lrem hx hb dX12_goes_227 c28 ?_
            obtain ⟨c29, h⟩ := f_n h
            refine va_last hx hb hK hP hD hS _ 1 (mg_218 G Z Y q27.2) rfl c29 dX12_goes_228 (fun H locs hP hD hS => ?_)
            have hP := wrP (mp_218 G Z Y q27.2 _ _) hP
            have hD := wrD (mp_218 G Z Y q27.2 _ _) hD
            refine lv_aload_n hx hb dX12_goes_229 rfl (lv_at hl 0 rfl) ?_
            refine lv_dup hx hb dX12_goes_230 rfl ?_
            refine va_get (D := D) (ci := 12) (v := .int (q27.2.1 200 42)) (C := RX12) (T := TX12) (N := 59) hx hb hts inU_X12 hown hK hP _ (mg_200 G Z Y (sJ q27.2 218 ((z7 : Int32).toNatClampNeg) ((((q24.2.2.1 200 45)).toUInt64 >>> (((33 : Int32) : Int32).toInt64.toUInt64 &&& Int64.toUInt64 63)).toInt64 - (((q24.2.2.1 200 45)).toUInt64 >>> (((33 : Int32) : Int32).toInt64.toUInt64 &&& Int64.toUInt64 63)).toInt64 / (q27.1 : Int32).toInt64 * (q27.1 : Int32).toInt64))) rfl 42 (by decide) (hts _ wd_1289) (fun _ h9 => h9) rfl dX12_goes_231 ?_
            refine lv_iconst (v := 1) hx hb dX12_goes_234 (by decide) ?_
            refine lv_iadd hx hb dX12_goes_235 ?_
            refine va_put (D := D) (ci := 12) (v := .int ((q27.2.1 200 42) + (1 : Int32))) (ty := .int) (C := RX12) (T := TX12) (N := 59) hx hb hts inU_X12 tyX12 tyX12_ok nmX12 hown hK hP hD hS _ (mg_200 G Z Y (sJ q27.2 218 ((z7 : Int32).toNatClampNeg) ((((q24.2.2.1 200 45)).toUInt64 >>> (((33 : Int32) : Int32).toInt64.toUInt64 &&& Int64.toUInt64 63)).toInt64 - (((q24.2.2.1 200 45)).toUInt64 >>> (((33 : Int32) : Int32).toInt64.toUInt64 &&& Int64.toUInt64 63)).toInt64 / (q27.1 : Int32).toInt64 * (q27.1 : Int32).toInt64))) rfl 42 (by decide) (hts _ wd_1289) (fun _ h9 => h9) rfl (by decide +kernel) rfl rfl (Nat.le_of_ble_eq_true rfl) dX12_goes_236 (fun H locs hP hD hS => ?_)
            have hP := wrP (mp_200_42 G Z Y (sJ q27.2 218 ((z7 : Int32).toNatClampNeg) ((((q24.2.2.1 200 45)).toUInt64 >>> (((33 : Int32) : Int32).toInt64.toUInt64 &&& Int64.toUInt64 63)).toInt64 - (((q24.2.2.1 200 45)).toUInt64 >>> (((33 : Int32) : Int32).toInt64.toUInt64 &&& Int64.toUInt64 63)).toInt64 / (q27.1 : Int32).toInt64 * (q27.1 : Int32).toInt64)) ((q27.2.1 200 42) + (1 : Int32))) hP
            have hD := wrD (mp_200_42 G Z Y (sJ q27.2 218 ((z7 : Int32).toNatClampNeg) ((((q24.2.2.1 200 45)).toUInt64 >>> (((33 : Int32) : Int32).toInt64.toUInt64 &&& Int64.toUInt64 63)).toInt64 - (((q24.2.2.1 200 45)).toUInt64 >>> (((33 : Int32) : Int32).toInt64.toUInt64 &&& Int64.toUInt64 63)).toInt64 / (q27.1 : Int32).toInt64 * (q27.1 : Int32).toInt64)) ((q27.2.1 200 42) + (1 : Int32))) hD
            refine lv_aload_n hx hb dX12_goes_239 rfl (lv_at hl 0 rfl) ?_
            refine lv_aload_n hx hb dX12_goes_240 rfl (lv_at hl 0 rfl) ?_
            refine lv_iload_n hx hb dX12_goes_241 rfl (lv_at hl 1 rfl) ?_
            refine lv_iload hx hb dX12_goes_242 (lv_at hl 5 rfl) ?_
            obtain ⟨q30, hq30, h⟩ := f_b h
            refine cl_V (w := (mW G Z Y (sI (sJ q27.2 218 ((z7 : Int32).toNatClampNeg) ((((q24.2.2.1 200 45)).toUInt64 >>> (((33 : Int32) : Int32).toInt64.toUInt64 &&& Int64.toUInt64 63)).toInt64 - (((q24.2.2.1 200 45)).toUInt64 >>> (((33 : Int32) : Int32).toInt64.toUInt64 &&& Int64.toUInt64 63)).toInt64 / (q27.1 : Int32).toInt64 * (q27.1 : Int32).toInt64)) 200 42 ((q27.2.1 200 42) + (1 : Int32))))) (w' := (mW G Z Y q30.2)) (rv := some (.long q30.1)) (bytes := cX12_nextClaim) (maxL := 5) (ret := (some .long)) (C := RX12) (As := [.int y1, .int z7]) (rest := [.ref (G.2.1 200)]) (stk := [.long q30.1, .ref (G.2.1 200)]) ⟨hx, hb, hml, hown, hts⟩ hK hE hA hP hD hS (c_X12_nextClaim l D G Z Y (sI (sJ q27.2 218 ((z7 : Int32).toNatClampNeg) ((((q24.2.2.1 200 45)).toUInt64 >>> (((33 : Int32) : Int32).toInt64.toUInt64 &&& Int64.toUInt64 63)).toInt64 - (((q24.2.2.1 200 45)).toUInt64 >>> (((33 : Int32) : Int32).toInt64.toUInt64 &&& Int64.toUInt64 63)).toInt64 / (q27.1 : Int32).toInt64 * (q27.1 : Int32).toInt64)) 200 42 ((q27.2.1 200 42) + (1 : Int32))) F y1 z7 q30 hq30) (cwV 2 hts (gwV wd_1703 wd_1705 wp_88 wd_11 wd_1706) rfl rfl rfl hd_X12_nextClaim ⟨Nat.le_of_ble_eq_true rfl, Nat.le_of_ble_eq_true rfl⟩) (mg_200 G Z Y (sI (sJ q27.2 218 ((z7 : Int32).toNatClampNeg) ((((q24.2.2.1 200 45)).toUInt64 >>> (((33 : Int32) : Int32).toInt64.toUInt64 &&& Int64.toUInt64 63)).toInt64 - (((q24.2.2.1 200 45)).toUInt64 >>> (((33 : Int32) : Int32).toInt64.toUInt64 &&& Int64.toUInt64 63)).toInt64 / (q27.1 : Int32).toInt64 * (q27.1 : Int32).toInt64)) 200 42 ((q27.2.1 200 42) + (1 : Int32)))) rfl rfl rfl hl.1 rfl (Nat.le_of_ble_eq_true rfl) dX12_goes_244 ⟨Nat.zero_le _, Nat.zero_le _⟩ rfl (fun H locs hP hD hS => ?_)
            refine va_put (D := D) (ci := 12) (v := .long q30.1) (ty := .long) (C := RX12) (T := TX12) (N := 59) hx hb hts inU_X12 tyX12 tyX12_ok nmX12 hown hK hP hD hS _ (mg_200 G Z Y q30.2) rfl 44 (by decide) (hts _ wd_1291) (fun _ h9 => h9) rfl (by decide +kernel) rfl rfl (Nat.le_of_ble_eq_true rfl) dX12_goes_247 (fun H locs hP hD hS => ?_)
            have hP := wrP (mp_200_44 G Z Y q30.2 q30.1) hP
            have hD := wrD (mp_200_44 G Z Y q30.2 q30.1) hD
            refine lv_iinc (v := (z7 + 1)) (lv' := [(7, .int (z7 + 1)), (0, .ref (G.2.1 200)), (1, .int y1), (2, .int y2), (5, .int y5), (6, .int y6)]) hx hb dX12_goes_250 hl (k := 5) rfl rfl (by decide) rfl (fun ls hl => ?_)
            refine lv_goto (tgt := 65) hx hb dX12_goes_253 (by decide) ?_
            exact ih (sJ q30.2 200 44 q30.1) (z7 + 1) h _ _ _ hP hD hS (lv_sub hl [1, 2, 3, 4, 5, 0] rfl)
        · skip
          have h := f_f c16 h
          refine lv_aload_n hx hb dX12_goes_162 rfl (lv_at hl 0 rfl) ?_
          refine lv_iload_n hx hb dX12_goes_163 rfl (lv_at hl 1 rfl) ?_
          refine lv_iload hx hb dX12_goes_164 (lv_at hl 5 rfl) ?_
          refine lv_aload_n hx hb dX12_goes_166 rfl (lv_at hl 0 rfl) ?_
          refine va_get (D := D) (ci := 12) (v := .long (q15.2.2.1 200 44)) (C := RX12) (T := TX12) (N := 59) hx hb hts inU_X12 hown hK hP _ (mg_200 G Z Y q15.2) rfl 44 (by decide) (hts _ wd_1291) (fun _ h9 => h9) rfl dX12_goes_167 ?_
          obtain ⟨q31, hq31, h⟩ := f_b h
          refine cl_V (w := (mW G Z Y q15.2)) (w' := (mW G Z Y q15.2)) (rv := some (.int q31)) (bytes := cX12_sumsUp) (maxL := 6) (ret := (some .boolean)) (C := RX12) (As := [.int y1, .int z7, .long (q15.2.2.1 200 44)]) (rest := []) (stk := [.int q31]) ⟨hx, hb, hml, hown, hts⟩ hK hE hA hP hD hS (c_X12_sumsUp l D G Z Y q15.2 y1 z7 (q15.2.2.1 200 44) q31 hq31) (cwV 3 hts (gwV wd_1695 wd_1697 wp_86 wd_11 wd_1698) rfl rfl rfl hd_X12_sumsUp ⟨Nat.le_of_ble_eq_true rfl, Nat.le_of_ble_eq_true rfl⟩) (mg_200 G Z Y q15.2) rfl rfl rfl hl.1 rfl (Nat.le_of_ble_eq_true rfl) dX12_goes_170 ⟨Nat.zero_le _, Nat.zero_le _⟩ rfl (fun H locs hP hD hS => ?_)
          refine lv_if_ne (tgt := 184) hx hb dX12_goes_173 (by decide) (fun c32 => ?_) (fun c32 => ?_)
          · skip
            have h := f_f c32 h
            refine lv_iload_n hx hb dX12_goes_184 rfl (lv_at hl 2 rfl) ?_
            refine lv_if_ne (tgt := 193) hx hb dX12_goes_185 (by decide) (fun c33 => ?_) (fun c33 => ?_)
            · skip
              have h := f_f c33 h
              refine lv_aload_n hx hb dX12_goes_193 rfl (lv_at hl 0 rfl) ?_
              refine va_get (D := D) (ci := 12) (v := .ref (G.2.1 218)) (C := RX12) (T := TX12) (N := 59) hx hb hts inU_X12 hown hK hP _ (mg_200 G Z Y q15.2) rfl 37 (by decide) (hts _ wd_1285) (fun _ h9 => h9) rfl dX12_goes_194 ?_
              refine lv_iload hx hb dX12_goes_197 (lv_at hl 5 rfl) ?_
              refine lv_aload_n hx hb dX12_goes_199 rfl (lv_at hl 0 rfl) ?_
              refine va_get (D := D) (ci := 12) (v := .long (q15.2.2.1 200 45)) (C := RX12) (T := TX12) (N := 59) hx hb hts inU_X12 hown hK hP _ (mg_200 G Z Y q15.2) rfl 45 (by decide) (hts _ wd_1292) (fun _ h9 => h9) rfl dX12_goes_200 ?_
              refine lv_bipush (v := 33) hx hb dX12_goes_203 (by decide) ?_
              refine lv_lushr (v := (((q15.2.2.1 200 45)).toUInt64 >>> (((33 : Int32) : Int32).toInt64.toUInt64 &&& Int64.toUInt64 63)).toInt64) hx hb dX12_goes_205 rfl ?_
              refine lv_aload_n hx hb dX12_goes_206 rfl (lv_at hl 0 rfl) ?_
              refine lv_aload_n hx hb dX12_goes_207 rfl (lv_at hl 0 rfl) ?_
              refine va_get (D := D) (ci := 12) (v := .ref (G.2.1 216)) (C := RX12) (T := TX12) (N := 59) hx hb hts inU_X12 hown hK hP _ (mg_200 G Z Y q15.2) rfl 34 (by decide) (hts _ wd_1282) (fun _ h9 => h9) rfl dX12_goes_208 ?_
              refine lv_iload_n hx hb dX12_goes_211 rfl (lv_at hl 1 rfl) ?_
              obtain ⟨c34, h⟩ := f_n h
              refine va_ialdE (v := (q15.2.1 216 ((y1 : Int32).toNatClampNeg))) hx hb hK hP _ 0 (mg_216 G Z Y q15.2) rfl c34 dX12_goes_212 rfl ?_
              refine lv_iload hx hb dX12_goes_213 (lv_at hl 4 rfl) ?_
              refine lv_aload_n hx hb dX12_goes_215 rfl (lv_at hl 0 rfl) ?_
              refine va_get (D := D) (ci := 12) (v := .ref (G.2.1 215)) (C := RX12) (T := TX12) (N := 59) hx hb hts inU_X12 hown hK hP _ (mg_200 G Z Y q15.2) rfl 33 (by decide) (hts _ wd_1281) (fun _ h9 => h9) rfl dX12_goes_216 ?_
              refine lv_iload_n hx hb dX12_goes_219 rfl (lv_at hl 1 rfl) ?_
              obtain ⟨c35, h⟩ := f_n h
              refine va_ialdE (v := (q15.2.1 215 ((y1 : Int32).toNatClampNeg))) hx hb hK hP _ 0 (mg_215 G Z Y q15.2) rfl c35 dX12_goes_220 rfl ?_
              refine lv_iload hx hb dX12_goes_221 (lv_at hl 5 rfl) ?_
              obtain ⟨q36, hq36, h⟩ := f_b h
              refine cl_V (w := (mW G Z Y q15.2)) (w' := (mW G Z Y q36.2)) (rv := some (.int q36.1)) (bytes := cX12_draws) (maxL := 5) (ret := (some .int)) (C := RX12) (As := [.int (q15.2.1 216 ((y1 : Int32).toNatClampNeg)), .int y6, .int (q15.2.1 215 ((y1 : Int32).toNatClampNeg)), .int z7]) (rest := [.long (((q15.2.2.1 200 45)).toUInt64 >>> (((33 : Int32) : Int32).toInt64.toUInt64 &&& Int64.toUInt64 63)).toInt64, .int z7, .ref (G.2.1 218)]) (stk := [.int q36.1, .long (((q15.2.2.1 200 45)).toUInt64 >>> (((33 : Int32) : Int32).toInt64.toUInt64 &&& Int64.toUInt64 63)).toInt64, .int z7, .ref (G.2.1 218)]) ⟨hx, hb, hml, hown, hts⟩ hK hE hA hP hD hS (c_X12_draws l D G Z Y q15.2 F (q15.2.1 216 ((y1 : Int32).toNatClampNeg)) y6 (q15.2.1 215 ((y1 : Int32).toNatClampNeg)) z7 q36 hq36) (cwV 4 hts (gwV wd_1699 wd_1701 wp_87 wd_11 wd_1702) rfl rfl rfl hd_X12_draws ⟨Nat.le_of_ble_eq_true rfl, Nat.le_of_ble_eq_true rfl⟩) (mg_200 G Z Y q15.2) rfl rfl rfl hl.1 rfl (Nat.le_of_ble_eq_true rfl) dX12_goes_223 ⟨Nat.zero_le _, Nat.zero_le _⟩ rfl (fun H locs hP hD hS => ?_)
              refine lv_i2l (v := (q36.1 : Int32).toInt64) hx hb dX12_goes_226 rfl ?_
              obtain ⟨c37, h⟩ := f_n h
              refine lv_lrem hx hb dX12_goes_227 c37 ?_
              obtain ⟨c38, h⟩ := f_n h
              refine va_last hx hb hK hP hD hS _ 1 (mg_218 G Z Y q36.2) rfl c38 dX12_goes_228 (fun H locs hP hD hS => ?_)
              have hP := wrP (mp_218 G Z Y q36.2 _ _) hP
              have hD := wrD (mp_218 G Z Y q36.2 _ _) hD
              refine lv_aload_n hx hb dX12_goes_229 rfl (lv_at hl 0 rfl) ?_
              refine lv_dup hx hb dX12_goes_230 rfl ?_
              refine va_get (D := D) (ci := 12) (v := .int (q36.2.1 200 42)) (C := RX12) (T := TX12) (N := 59) hx hb hts inU_X12 hown hK hP _ (mg_200 G Z Y (sJ q36.2 218 ((z7 : Int32).toNatClampNeg) ((((q15.2.2.1 200 45)).toUInt64 >>> (((33 : Int32) : Int32).toInt64.toUInt64 &&& Int64.toUInt64 63)).toInt64 - (((q15.2.2.1 200 45)).toUInt64 >>> (((33 : Int32) : Int32).toInt64.toUInt64 &&& Int64.toUInt64 63)).toInt64 / (q36.1 : Int32).toInt64 * (q36.1 : Int32).toInt64))) rfl 42 (by decide) (hts _ wd_1289) (fun _ h9 => h9) rfl dX12_goes_231 ?_
              refine lv_iconst (v := 1) hx hb dX12_goes_234 (by decide) ?_
              refine lv_iadd hx hb dX12_goes_235 ?_
              refine va_put (D := D) (ci := 12) (v := .int ((q36.2.1 200 42) + (1 : Int32))) (ty := .int) (C := RX12) (T := TX12) (N := 59) hx hb hts inU_X12 tyX12 tyX12_ok nmX12 hown hK hP hD hS _ (mg_200 G Z Y (sJ q36.2 218 ((z7 : Int32).toNatClampNeg) ((((q15.2.2.1 200 45)).toUInt64 >>> (((33 : Int32) : Int32).toInt64.toUInt64 &&& Int64.toUInt64 63)).toInt64 - (((q15.2.2.1 200 45)).toUInt64 >>> (((33 : Int32) : Int32).toInt64.toUInt64 &&& Int64.toUInt64 63)).toInt64 / (q36.1 : Int32).toInt64 * (q36.1 : Int32).toInt64))) rfl 42 (by decide) (hts _ wd_1289) (fun _ h9 => h9) rfl (by decide +kernel) rfl rfl (Nat.le_of_ble_eq_true rfl) dX12_goes_236 (fun H locs hP hD hS => ?_)
              have hP := wrP (mp_200_42 G Z Y (sJ q36.2 218 ((z7 : Int32).toNatClampNeg) ((((q15.2.2.1 200 45)).toUInt64 >>> (((33 : Int32) : Int32).toInt64.toUInt64 &&& Int64.toUInt64 63)).toInt64 - (((q15.2.2.1 200 45)).toUInt64 >>> (((33 : Int32) : Int32).toInt64.toUInt64 &&& Int64.toUInt64 63)).toInt64 / (q36.1 : Int32).toInt64 * (q36.1 : Int32).toInt64)) ((q36.2.1 200 42) + (1 : Int32))) hP
              have hD := wrD (mp_200_42 G Z Y (sJ q36.2 218 ((z7 : Int32).toNatClampNeg) ((((q15.2.2.1 200 45)).toUInt64 >>> (((33 : Int32) : Int32).toInt64.toUInt64 &&& Int64.toUInt64 63)).toInt64 - (((q15.2.2.1 200 45)).toUInt64 >>> (((33 : Int32) : Int32).toInt64.toUInt64 &&& Int64.toUInt64 63)).toInt64 / (q36.1 : Int32).toInt64 * (q36.1 : Int32).toInt64)) ((q36.2.1 200 42) + (1 : Int32))) hD
              refine lv_aload_n hx hb dX12_goes_239 rfl (lv_at hl 0 rfl) ?_
              refine lv_aload_n hx hb dX12_goes_240 rfl (lv_at hl 0 rfl) ?_
              refine lv_iload_n hx hb dX12_goes_241 rfl (lv_at hl 1 rfl) ?_
              refine lv_iload hx hb dX12_goes_242 (lv_at hl 5 rfl) ?_
              obtain ⟨q39, hq39, h⟩ := f_b h
              refine cl_V (w := (mW G Z Y (sI (sJ q36.2 218 ((z7 : Int32).toNatClampNeg) ((((q15.2.2.1 200 45)).toUInt64 >>> (((33 : Int32) : Int32).toInt64.toUInt64 &&& Int64.toUInt64 63)).toInt64 - (((q15.2.2.1 200 45)).toUInt64 >>> (((33 : Int32) : Int32).toInt64.toUInt64 &&& Int64.toUInt64 63)).toInt64 / (q36.1 : Int32).toInt64 * (q36.1 : Int32).toInt64)) 200 42 ((q36.2.1 200 42) + (1 : Int32))))) (w' := (mW G Z Y q39.2)) (rv := some (.long q39.1)) (bytes := cX12_nextClaim) (maxL := 5) (ret := (some .long)) (C := RX12) (As := [.int y1, .int z7]) (rest := [.ref (G.2.1 200)]) (stk := [.long q39.1, .ref (G.2.1 200)]) ⟨hx, hb, hml, hown, hts⟩ hK hE hA hP hD hS (c_X12_nextClaim l D G Z Y (sI (sJ q36.2 218 ((z7 : Int32).toNatClampNeg) ((((q15.2.2.1 200 45)).toUInt64 >>> (((33 : Int32) : Int32).toInt64.toUInt64 &&& Int64.toUInt64 63)).toInt64 - (((q15.2.2.1 200 45)).toUInt64 >>> (((33 : Int32) : Int32).toInt64.toUInt64 &&& Int64.toUInt64 63)).toInt64 / (q36.1 : Int32).toInt64 * (q36.1 : Int32).toInt64)) 200 42 ((q36.2.1 200 42) + (1 : Int32))) F y1 z7 q39 hq39) (cwV 2 hts (gwV wd_1703 wd_1705 wp_88 wd_11 wd_1706) rfl rfl rfl hd_X12_nextClaim ⟨Nat.le_of_ble_eq_true rfl, Nat.le_of_ble_eq_true rfl⟩) (mg_200 G Z Y (sI (sJ q36.2 218 ((z7 : Int32).toNatClampNeg) ((((q15.2.2.1 200 45)).toUInt64 >>> (((33 : Int32) : Int32).toInt64.toUInt64 &&& Int64.toUInt64 63)).toInt64 - (((q15.2.2.1 200 45)).toUInt64 >>> (((33 : Int32) : Int32).toInt64.toUInt64 &&& Int64.toUInt64 63)).toInt64 / (q36.1 : Int32).toInt64 * (q36.1 : Int32).toInt64)) 200 42 ((q36.2.1 200 42) + (1 : Int32)))) rfl rfl rfl hl.1 rfl (Nat.le_of_ble_eq_true rfl) dX12_goes_244 ⟨Nat.zero_le _, Nat.zero_le _⟩ rfl (fun H locs hP hD hS => ?_)
              refine va_put (D := D) (ci := 12) (v := .long q39.1) (ty := .long) (C := RX12) (T := TX12) (N := 59) hx hb hts inU_X12 tyX12 tyX12_ok nmX12 hown hK hP hD hS _ (mg_200 G Z Y q39.2) rfl 44 (by decide) (hts _ wd_1291) (fun _ h9 => h9) rfl (by decide +kernel) rfl rfl (Nat.le_of_ble_eq_true rfl) dX12_goes_247 (fun H locs hP hD hS => ?_)
              have hP := wrP (mp_200_44 G Z Y q39.2 q39.1) hP
              have hD := wrD (mp_200_44 G Z Y q39.2 q39.1) hD
              refine lv_iinc (v := (z7 + 1)) (lv' := [(7, .int (z7 + 1)), (0, .ref (G.2.1 200)), (1, .int y1), (2, .int y2), (5, .int y5), (6, .int y6)]) hx hb dX12_goes_250 hl (k := 5) rfl rfl (by decide) rfl (fun ls hl => ?_)
              refine lv_goto (tgt := 65) hx hb dX12_goes_253 (by decide) ?_
              exact ih (sJ q39.2 200 44 q39.1) (z7 + 1) h _ _ _ hP hD hS (lv_sub hl [1, 2, 3, 4, 5, 0] rfl)
            · skip
              have h := f_t c33 h
              refine lv_aload_n hx hb dX12_goes_188 rfl (lv_at hl 0 rfl) ?_
              refine lv_lconst (v := 0) hx hb dX12_goes_189 (by decide) ?_
              obtain ⟨q40, hq40, h⟩ := f_b h
              refine cl_V (w := (mW G Z Y q15.2)) (w' := (mW G Z Y q40.2)) (rv := none) (bytes := cX12_mix) (maxL := 3) (ret := none) (C := RX12) (As := [.long (0 : Int64)]) (rest := []) (stk := []) ⟨hx, hb, hml, hown, hts⟩ hK hE hA hP hD hS (c_X12_mix l D G Z Y q15.2 (0 : Int64) q40 hq40) (cwV 1 hts (gwV wd_1673 wd_1675 wp_81 wd_11 wd_1676) rfl rfl rfl hd_X12_mix ⟨Nat.le_of_ble_eq_true rfl, Nat.le_of_ble_eq_true rfl⟩) (mg_200 G Z Y q15.2) rfl rfl rfl hl.1 rfl (Nat.le_of_ble_eq_true rfl) dX12_goes_190 ⟨Nat.zero_le _, Nat.zero_le _⟩ rfl (fun H locs hP hD hS => ?_)
              refine lv_aload_n hx hb dX12_goes_193 rfl (lv_at hl 0 rfl) ?_
              refine va_get (D := D) (ci := 12) (v := .ref (G.2.1 218)) (C := RX12) (T := TX12) (N := 59) hx hb hts inU_X12 hown hK hP _ (mg_200 G Z Y q40.2) rfl 37 (by decide) (hts _ wd_1285) (fun _ h9 => h9) rfl dX12_goes_194 ?_
              refine lv_iload hx hb dX12_goes_197 (lv_at hl 5 rfl) ?_
              refine lv_aload_n hx hb dX12_goes_199 rfl (lv_at hl 0 rfl) ?_
              refine va_get (D := D) (ci := 12) (v := .long (q40.2.2.1 200 45)) (C := RX12) (T := TX12) (N := 59) hx hb hts inU_X12 hown hK hP _ (mg_200 G Z Y q40.2) rfl 45 (by decide) (hts _ wd_1292) (fun _ h9 => h9) rfl dX12_goes_200 ?_
              refine lv_bipush (v := 33) hx hb dX12_goes_203 (by decide) ?_
              refine lv_lushr (v := (((q40.2.2.1 200 45)).toUInt64 >>> (((33 : Int32) : Int32).toInt64.toUInt64 &&& Int64.toUInt64 63)).toInt64) hx hb dX12_goes_205 rfl ?_
              refine lv_aload_n hx hb dX12_goes_206 rfl (lv_at hl 0 rfl) ?_
              refine lv_aload_n hx hb dX12_goes_207 rfl (lv_at hl 0 rfl) ?_
              refine va_get (D := D) (ci := 12) (v := .ref (G.2.1 216)) (C := RX12) (T := TX12) (N := 59) hx hb hts inU_X12 hown hK hP _ (mg_200 G Z Y q40.2) rfl 34 (by decide) (hts _ wd_1282) (fun _ h9 => h9) rfl dX12_goes_208 ?_
              refine lv_iload_n hx hb dX12_goes_211 rfl (lv_at hl 1 rfl) ?_
              obtain ⟨c41, h⟩ := f_n h
              refine va_ialdE (v := (q40.2.1 216 ((y1 : Int32).toNatClampNeg))) hx hb hK hP _ 0 (mg_216 G Z Y q40.2) rfl c41 dX12_goes_212 rfl ?_
              refine lv_iload hx hb dX12_goes_213 (lv_at hl 4 rfl) ?_
              refine lv_aload_n hx hb dX12_goes_215 rfl (lv_at hl 0 rfl) ?_
              refine va_get (D := D) (ci := 12) (v := .ref (G.2.1 215)) (C := RX12) (T := TX12) (N := 59) hx hb hts inU_X12 hown hK hP _ (mg_200 G Z Y q40.2) rfl 33 (by decide) (hts _ wd_1281) (fun _ h9 => h9) rfl dX12_goes_216 ?_
              refine lv_iload_n hx hb dX12_goes_219 rfl (lv_at hl 1 rfl) ?_
              obtain ⟨c42, h⟩ := f_n h
              refine va_ialdE (v := (q40.2.1 215 ((y1 : Int32).toNatClampNeg))) hx hb hK hP _ 0 (mg_215 G Z Y q40.2) rfl c42 dX12_goes_220 rfl ?_
              refine lv_iload hx hb dX12_goes_221 (lv_at hl 5 rfl) ?_
              obtain ⟨q43, hq43, h⟩ := f_b h
              refine cl_V (w := (mW G Z Y q40.2)) (w' := (mW G Z Y q43.2)) (rv := some (.int q43.1)) (bytes := cX12_draws) (maxL := 5) (ret := (some .int)) (C := RX12) (As := [.int (q40.2.1 216 ((y1 : Int32).toNatClampNeg)), .int y6, .int (q40.2.1 215 ((y1 : Int32).toNatClampNeg)), .int z7]) (rest := [.long (((q40.2.2.1 200 45)).toUInt64 >>> (((33 : Int32) : Int32).toInt64.toUInt64 &&& Int64.toUInt64 63)).toInt64, .int z7, .ref (G.2.1 218)]) (stk := [.int q43.1, .long (((q40.2.2.1 200 45)).toUInt64 >>> (((33 : Int32) : Int32).toInt64.toUInt64 &&& Int64.toUInt64 63)).toInt64, .int z7, .ref (G.2.1 218)]) ⟨hx, hb, hml, hown, hts⟩ hK hE hA hP hD hS (c_X12_draws l D G Z Y q40.2 F (q40.2.1 216 ((y1 : Int32).toNatClampNeg)) y6 (q40.2.1 215 ((y1 : Int32).toNatClampNeg)) z7 q43 hq43) (cwV 4 hts (gwV wd_1699 wd_1701 wp_87 wd_11 wd_1702) rfl rfl rfl hd_X12_draws ⟨Nat.le_of_ble_eq_true rfl, Nat.le_of_ble_eq_true rfl⟩) (mg_200 G Z Y q40.2) rfl rfl rfl hl.1 rfl (Nat.le_of_ble_eq_true rfl) dX12_goes_223 ⟨Nat.zero_le _, Nat.zero_le _⟩ rfl (fun H locs hP hD hS => ?_)
              refine lv_i2l (v := (q43.1 : Int32).toInt64) hx hb dX12_goes_226 rfl ?_
              obtain ⟨c44, h⟩ := f_n h
              refine lv_lrem hx hb dX12_goes_227 c44 ?_
              obtain ⟨c45, h⟩ := f_n h
              refine va_last hx hb hK hP hD hS _ 1 (mg_218 G Z Y q43.2) rfl c45 dX12_goes_228 (fun H locs hP hD hS => ?_)
              have hP := wrP (mp_218 G Z Y q43.2 _ _) hP
              have hD := wrD (mp_218 G Z Y q43.2 _ _) hD
              refine lv_aload_n hx hb dX12_goes_229 rfl (lv_at hl 0 rfl) ?_
              refine lv_dup hx hb dX12_goes_230 rfl ?_
              refine va_get (D := D) (ci := 12) (v := .int (q43.2.1 200 42)) (C := RX12) (T := TX12) (N := 59) hx hb hts inU_X12 hown hK hP _ (mg_200 G Z Y (sJ q43.2 218 ((z7 : Int32).toNatClampNeg) ((((q40.2.2.1 200 45)).toUInt64 >>> (((33 : Int32) : Int32).toInt64.toUInt64 &&& Int64.toUInt64 63)).toInt64 - (((q40.2.2.1 200 45)).toUInt64 >>> (((33 : Int32) : Int32).toInt64.toUInt64 &&& Int64.toUInt64 63)).toInt64 / (q43.1 : Int32).toInt64 * (q43.1 : Int32).toInt64))) rfl 42 (by decide) (hts _ wd_1289) (fun _ h9 => h9) rfl dX12_goes_231 ?_
              refine lv_iconst (v := 1) hx hb dX12_goes_234 (by decide) ?_
              refine lv_iadd hx hb dX12_goes_235 ?_
              refine va_put (D := D) (ci := 12) (v := .int ((q43.2.1 200 42) + (1 : Int32))) (ty := .int) (C := RX12) (T := TX12) (N := 59) hx hb hts inU_X12 tyX12 tyX12_ok nmX12 hown hK hP hD hS _ (mg_200 G Z Y (sJ q43.2 218 ((z7 : Int32).toNatClampNeg) ((((q40.2.2.1 200 45)).toUInt64 >>> (((33 : Int32) : Int32).toInt64.toUInt64 &&& Int64.toUInt64 63)).toInt64 - (((q40.2.2.1 200 45)).toUInt64 >>> (((33 : Int32) : Int32).toInt64.toUInt64 &&& Int64.toUInt64 63)).toInt64 / (q43.1 : Int32).toInt64 * (q43.1 : Int32).toInt64))) rfl 42 (by decide) (hts _ wd_1289) (fun _ h9 => h9) rfl (by decide +kernel) rfl rfl (Nat.le_of_ble_eq_true rfl) dX12_goes_236 (fun H locs hP hD hS => ?_)
              have hP := wrP (mp_200_42 G Z Y (sJ q43.2 218 ((z7 : Int32).toNatClampNeg) ((((q40.2.2.1 200 45)).toUInt64 >>> (((33 : Int32) : Int32).toInt64.toUInt64 &&& Int64.toUInt64 63)).toInt64 - (((q40.2.2.1 200 45)).toUInt64 >>> (((33 : Int32) : Int32).toInt64.toUInt64 &&& Int64.toUInt64 63)).toInt64 / (q43.1 : Int32).toInt64 * (q43.1 : Int32).toInt64)) ((q43.2.1 200 42) + (1 : Int32))) hP
              have hD := wrD (mp_200_42 G Z Y (sJ q43.2 218 ((z7 : Int32).toNatClampNeg) ((((q40.2.2.1 200 45)).toUInt64 >>> (((33 : Int32) : Int32).toInt64.toUInt64 &&& Int64.toUInt64 63)).toInt64 - (((q40.2.2.1 200 45)).toUInt64 >>> (((33 : Int32) : Int32).toInt64.toUInt64 &&& Int64.toUInt64 63)).toInt64 / (q43.1 : Int32).toInt64 * (q43.1 : Int32).toInt64)) ((q43.2.1 200 42) + (1 : Int32))) hD
              refine lv_aload_n hx hb dX12_goes_239 rfl (lv_at hl 0 rfl) ?_
              refine lv_aload_n hx hb dX12_goes_240 rfl (lv_at hl 0 rfl) ?_
              refine lv_iload_n hx hb dX12_goes_241 rfl (lv_at hl 1 rfl) ?_
              refine lv_iload hx hb dX12_goes_242 (lv_at hl 5 rfl) ?_
              obtain ⟨q46, hq46, h⟩ := f_b h
              refine cl_V (w := (mW G Z Y (sI (sJ q43.2 218 ((z7 : Int32).toNatClampNeg) ((((q40.2.2.1 200 45)).toUInt64 >>> (((33 : Int32) : Int32).toInt64.toUInt64 &&& Int64.toUInt64 63)).toInt64 - (((q40.2.2.1 200 45)).toUInt64 >>> (((33 : Int32) : Int32).toInt64.toUInt64 &&& Int64.toUInt64 63)).toInt64 / (q43.1 : Int32).toInt64 * (q43.1 : Int32).toInt64)) 200 42 ((q43.2.1 200 42) + (1 : Int32))))) (w' := (mW G Z Y q46.2)) (rv := some (.long q46.1)) (bytes := cX12_nextClaim) (maxL := 5) (ret := (some .long)) (C := RX12) (As := [.int y1, .int z7]) (rest := [.ref (G.2.1 200)]) (stk := [.long q46.1, .ref (G.2.1 200)]) ⟨hx, hb, hml, hown, hts⟩ hK hE hA hP hD hS (c_X12_nextClaim l D G Z Y (sI (sJ q43.2 218 ((z7 : Int32).toNatClampNeg) ((((q40.2.2.1 200 45)).toUInt64 >>> (((33 : Int32) : Int32).toInt64.toUInt64 &&& Int64.toUInt64 63)).toInt64 - (((q40.2.2.1 200 45)).toUInt64 >>> (((33 : Int32) : Int32).toInt64.toUInt64 &&& Int64.toUInt64 63)).toInt64 / (q43.1 : Int32).toInt64 * (q43.1 : Int32).toInt64)) 200 42 ((q43.2.1 200 42) + (1 : Int32))) F y1 z7 q46 hq46) (cwV 2 hts (gwV wd_1703 wd_1705 wp_88 wd_11 wd_1706) rfl rfl rfl hd_X12_nextClaim ⟨Nat.le_of_ble_eq_true rfl, Nat.le_of_ble_eq_true rfl⟩) (mg_200 G Z Y (sI (sJ q43.2 218 ((z7 : Int32).toNatClampNeg) ((((q40.2.2.1 200 45)).toUInt64 >>> (((33 : Int32) : Int32).toInt64.toUInt64 &&& Int64.toUInt64 63)).toInt64 - (((q40.2.2.1 200 45)).toUInt64 >>> (((33 : Int32) : Int32).toInt64.toUInt64 &&& Int64.toUInt64 63)).toInt64 / (q43.1 : Int32).toInt64 * (q43.1 : Int32).toInt64)) 200 42 ((q43.2.1 200 42) + (1 : Int32)))) rfl rfl rfl hl.1 rfl (Nat.le_of_ble_eq_true rfl) dX12_goes_244 ⟨Nat.zero_le _, Nat.zero_le _⟩ rfl (fun H locs hP hD hS => ?_)
              refine va_put (D := D) (ci := 12) (v := .long q46.1) (ty := .long) (C := RX12) (T := TX12) (N := 59) hx hb hts inU_X12 tyX12 tyX12_ok nmX12 hown hK hP hD hS _ (mg_200 G Z Y q46.2) rfl 44 (by decide) (hts _ wd_1291) (fun _ h9 => h9) rfl (by decide +kernel) rfl rfl (Nat.le_of_ble_eq_true rfl) dX12_goes_247 (fun H locs hP hD hS => ?_)
              have hP := wrP (mp_200_44 G Z Y q46.2 q46.1) hP
              have hD := wrD (mp_200_44 G Z Y q46.2 q46.1) hD
              refine lv_iinc (v := (z7 + 1)) (lv' := [(7, .int (z7 + 1)), (0, .ref (G.2.1 200)), (1, .int y1), (2, .int y2), (5, .int y5), (6, .int y6)]) hx hb dX12_goes_250 hl (k := 5) rfl rfl (by decide) rfl (fun ls hl => ?_)
              refine lv_goto (tgt := 65) hx hb dX12_goes_253 (by decide) ?_
              exact ih (sJ q46.2 200 44 q46.1) (z7 + 1) h _ _ _ hP hD hS (lv_sub hl [1, 2, 3, 4, 5, 0] rfl)
          · skip
            have h := f_t c32 h
            refine lv_aload_n hx hb dX12_goes_176 rfl (lv_at hl 0 rfl) ?_
            refine lv_iload hx hb dX12_goes_177 (lv_at hl 5 rfl) ?_
            refine va_put (D := D) (ci := 12) (v := .int z7) (ty := .int) (C := RX12) (T := TX12) (N := 59) hx hb hts inU_X12 tyX12 tyX12_ok nmX12 hown hK hP hD hS _ (mg_200 G Z Y q15.2) rfl 41 (by decide) (hts _ wd_1288) (fun _ h9 => h9) rfl (by decide +kernel) rfl rfl (Nat.le_of_ble_eq_true rfl) dX12_goes_179 (fun H locs hP hD hS => ?_)
            have hP := wrP (mp_200_41 G Z Y q15.2 z7) hP
            have hD := wrD (mp_200_41 G Z Y q15.2 z7) hD
            refine lv_iconst (v := 0) hx hb dX12_goes_182 (by decide) ?_
            obtain rfl := Option.some.inj h
            exact W.zret (v := (0 : Int32)) hx hb hr rfl (q_end hK hP hD hS) hS.2.2 dX12_goes_183
set_option maxRecDepth 100000 in
set_option maxHeartbeats 8000000 in
theorem c_X12_goes (l : Launch) (D : va_G) (G : hG) (Z : hZ) (Y : va_W) (σ0 : hSt) (F : Nat) (x1 : Int32) (x2 : Int32) (x3 : Int64) (x5 : Int32) (res : (Int32 × hSt)) (h : f_X12_goes F Z σ0 x1 x2 x3 x5 = some res) : CT l yX12_goes cX12_goes 9 (some .boolean) rm_X12_goes D G 0 0 [.ref (G.2.1 200), .int x1, .int x2, .long x3, .int x5] (mW G Z Y σ0) (mW G Z Y res.2) (some (.int res.1)) := by
  unfold f_X12_goes at h
  refine CT.mk (cc := cX12_goes) (maxL := 9) (ret := (some .boolean)) (own := RX12) (plainFor_of_name (by decide)) rfl (Nat.le_of_ble_eq_true rfl) ?_
  intro p e s m args below meth c A ls C0 hnm hA hP hD hl
  obtain ⟨hx, hb, hr, hml, hown, hts, hlocks, hK, hE⟩ := id C0
  have hS : va_S A s.heap s.heap [] := va_S.rf
  have hl : lv_has ls 9 [(0, .ref (G.2.1 200)), (1, .int x1), (2, .int x2), (3, .long x3), (5, .int x5)] := hl
  refine lv_aload_n hx hb dX12_goes_0 rfl (lv_at hl 0 rfl) ?_
  refine va_get (D := D) (ci := 12) (v := .ref (G.2.1 214)) (C := RX12) (T := TX12) (N := 59) hx hb hts inU_X12 hown hK hP _ (mg_200 G Z Y σ0) rfl 32 (by decide) (hts _ wd_1280) (fun _ h9 => h9) rfl dX12_goes_1 ?_
  refine lv_iload_n hx hb dX12_goes_4 rfl (lv_at hl 1 rfl) ?_
  obtain ⟨c1, h⟩ := f_n h
  refine va_ialdE (v := (σ0.1 214 ((x1 : Int32).toNatClampNeg))) hx hb hK hP _ 0 (mg_214 G Z Y σ0) rfl c1 dX12_goes_5 rfl ?_
  refine lv_istore (lv' := [(6, .int (σ0.1 214 ((x1 : Int32).toNatClampNeg))), (0, .ref (G.2.1 200)), (1, .int x1), (2, .int x2), (3, .long x3), (5, .int x5)]) hx hb dX12_goes_6 hl (by decide) rfl (fun ls hl => ?_)
  refine lv_aload_n hx hb dX12_goes_8 rfl (lv_at hl 1 rfl) ?_
  refine lv_iload_n hx hb dX12_goes_9 rfl (lv_at hl 3 rfl) ?_
  refine lv_if_eq (tgt := 17) hx hb dX12_goes_10 (by decide) (fun c2 => ?_) (fun c2 => ?_)
  · skip
    have h := f_t c2 h
    refine lv_lload_n hx hb dX12_goes_17 rfl (lv_at hl 4 rfl) ?_
    refine va_put (D := D) (ci := 12) (v := .long x3) (ty := .long) (C := RX12) (T := TX12) (N := 59) hx hb hts inU_X12 tyX12 tyX12_ok nmX12 hown hK hP hD hS _ (mg_200 G Z Y σ0) rfl 45 (by decide) (hts _ wd_1292) (fun _ h9 => h9) rfl (by decide +kernel) rfl rfl (Nat.le_of_ble_eq_true rfl) dX12_goes_18 (fun H locs hP hD hS => ?_)
    have hP := wrP (mp_200_45 G Z Y σ0 x3) hP
    have hD := wrD (mp_200_45 G Z Y σ0 x3) hD
    refine lv_aload_n hx hb dX12_goes_21 rfl (lv_at hl 1 rfl) ?_
    refine lv_iconst (v := (-1)) hx hb dX12_goes_22 (by decide) ?_
    refine va_put (D := D) (ci := 12) (v := .int (-1 : Int32)) (ty := .int) (C := RX12) (T := TX12) (N := 59) hx hb hts inU_X12 tyX12 tyX12_ok nmX12 hown hK hP hD hS _ (mg_200 G Z Y (sJ σ0 200 45 x3)) rfl 41 (by decide) (hts _ wd_1288) (fun _ h9 => h9) rfl (by decide +kernel) rfl rfl (Nat.le_of_ble_eq_true rfl) dX12_goes_23 (fun H locs hP hD hS => ?_)
    have hP := wrP (mp_200_41 G Z Y (sJ σ0 200 45 x3) (-1 : Int32)) hP
    have hD := wrD (mp_200_41 G Z Y (sJ σ0 200 45 x3) (-1 : Int32)) hD
    refine lv_aload_n hx hb dX12_goes_26 rfl (lv_at hl 1 rfl) ?_
    refine lv_iconst (v := 0) hx hb dX12_goes_27 (by decide) ?_
    refine va_put (D := D) (ci := 12) (v := .int (0 : Int32)) (ty := .int) (C := RX12) (T := TX12) (N := 59) hx hb hts inU_X12 tyX12 tyX12_ok nmX12 hown hK hP hD hS _ (mg_200 G Z Y (sI (sJ σ0 200 45 x3) 200 41 (-1 : Int32))) rfl 42 (by decide) (hts _ wd_1289) (fun _ h9 => h9) rfl (by decide +kernel) rfl rfl (Nat.le_of_ble_eq_true rfl) dX12_goes_28 (fun H locs hP hD hS => ?_)
    have hP := wrP (mp_200_42 G Z Y (sI (sJ σ0 200 45 x3) 200 41 (-1 : Int32)) (0 : Int32)) hP
    have hD := wrD (mp_200_42 G Z Y (sI (sJ σ0 200 45 x3) 200 41 (-1 : Int32)) (0 : Int32)) hD
    refine lv_aload_n hx hb dX12_goes_31 rfl (lv_at hl 1 rfl) ?_
    refine lv_aload_n hx hb dX12_goes_32 rfl (lv_at hl 1 rfl) ?_
    refine lv_iload_n hx hb dX12_goes_33 rfl (lv_at hl 2 rfl) ?_
    refine lv_iload hx hb dX12_goes_34 (lv_at hl 5 rfl) ?_
    obtain ⟨q3, hq3, h⟩ := f_b h
    refine cl_V (w := (mW G Z Y (sI (sI (sJ σ0 200 45 x3) 200 41 (-1 : Int32)) 200 42 (0 : Int32)))) (w' := (mW G Z Y q3.2)) (rv := some (.long q3.1)) (bytes := cX12_firstClaim) (maxL := 5) (ret := (some .long)) (C := RX12) (As := [.int x1, .int x5]) (rest := [.ref (G.2.1 200)]) (stk := [.long q3.1, .ref (G.2.1 200)]) ⟨hx, hb, hml, hown, hts⟩ hK hE hA hP hD hS (c_X12_firstClaim l D G Z Y (sI (sI (sJ σ0 200 45 x3) 200 41 (-1 : Int32)) 200 42 (0 : Int32)) F x1 x5 q3 hq3) (cwV 2 hts (gwV wd_1661 wd_1663 wp_78 wd_11 wd_1664) rfl rfl rfl hd_X12_firstClaim ⟨Nat.le_of_ble_eq_true rfl, Nat.le_of_ble_eq_true rfl⟩) (mg_200 G Z Y (sI (sI (sJ σ0 200 45 x3) 200 41 (-1 : Int32)) 200 42 (0 : Int32))) rfl rfl rfl hl.1 rfl (Nat.le_of_ble_eq_true rfl) dX12_goes_36 ⟨Nat.zero_le _, Nat.zero_le _⟩ rfl (fun H locs hP hD hS => ?_)
    refine va_put (D := D) (ci := 12) (v := .long q3.1) (ty := .long) (C := RX12) (T := TX12) (N := 59) hx hb hts inU_X12 tyX12 tyX12_ok nmX12 hown hK hP hD hS _ (mg_200 G Z Y q3.2) rfl 43 (by decide) (hts _ wd_1290) (fun _ h9 => h9) rfl (by decide +kernel) rfl rfl (Nat.le_of_ble_eq_true rfl) dX12_goes_39 (fun H locs hP hD hS => ?_)
    have hP := wrP (mp_200_43 G Z Y q3.2 q3.1) hP
    have hD := wrD (mp_200_43 G Z Y q3.2 q3.1) hD
    refine lv_aload_n hx hb dX12_goes_42 rfl (lv_at hl 1 rfl) ?_
    refine lv_aload_n hx hb dX12_goes_43 rfl (lv_at hl 1 rfl) ?_
    refine va_get (D := D) (ci := 12) (v := .long q3.1) (C := RX12) (T := TX12) (N := 59) hx hb hts inU_X12 hown hK hP _ (mg_200 G Z Y (sJ q3.2 200 43 q3.1)) rfl 43 (by decide) (hts _ wd_1290) (fun _ h9 => h9) rfl dX12_goes_44 ?_
    refine va_put (D := D) (ci := 12) (v := .long q3.1) (ty := .long) (C := RX12) (T := TX12) (N := 59) hx hb hts inU_X12 tyX12 tyX12_ok nmX12 hown hK hP hD hS _ (mg_200 G Z Y (sJ q3.2 200 43 q3.1)) rfl 44 (by decide) (hts _ wd_1291) (fun _ h9 => h9) rfl (by decide +kernel) rfl rfl (Nat.le_of_ble_eq_true rfl) dX12_goes_47 (fun H locs hP hD hS => ?_)
    have hP := wrP (mp_200_44 G Z Y (sJ q3.2 200 43 q3.1) q3.1) hP
    have hD := wrD (mp_200_44 G Z Y (sJ q3.2 200 43 q3.1) q3.1) hD
    refine lv_iload_n hx hb dX12_goes_50 rfl (lv_at hl 3 rfl) ?_
    refine lv_if_eq (tgt := 62) hx hb dX12_goes_51 (by decide) (fun c4 => ?_) (fun c4 => ?_)
    · skip
      have h := f_t c4 h
      refine lv_iconst (v := 0) hx hb dX12_goes_62 (by decide) ?_
      refine lv_istore (lv' := [(7, .int (0 : Int32)), (6, .int (σ0.1 214 ((x1 : Int32).toNatClampNeg))), (0, .ref (G.2.1 200)), (1, .int x1), (2, .int x2), (3, .long x3), (5, .int x5)]) hx hb dX12_goes_63 hl (by decide) rfl (fun ls hl => ?_)
      refine W_X12_goes_L65 l D G Z Y σ0 F x1 x2 x3 x5 x1 x2 x5 (σ0.1 214 ((x1 : Int32).toNatClampNeg)) res C0 hA _ ?_ F (sJ (sJ q3.2 200 43 q3.1) 200 44 q3.1) (0 : Int32) h _ _ _ hP hD hS (lv_sub hl [2, 3, 4, 6, 1, 0] rfl)
      · intro σ1 h H locs ls hP hD hS hl
        refine lv_aload_n hx hb dX12_goes_256 rfl (lv_at hl 0 rfl) ?_
        refine lv_iload_n hx hb dX12_goes_257 rfl (lv_at hl 1 rfl) ?_
        refine lv_aload_n hx hb dX12_goes_258 rfl (lv_at hl 0 rfl) ?_
        refine va_get (D := D) (ci := 12) (v := .long (σ1.2.1 200 44)) (C := RX12) (T := TX12) (N := 59) hx hb hts inU_X12 hown hK hP _ (mg_200 G Z Y σ1) rfl 44 (by decide) (hts _ wd_1291) (fun _ h9 => h9) rfl dX12_goes_259 ?_
        obtain ⟨q47, hq47, h⟩ := f_b h
        refine cl_V (w := (mW G Z Y σ1)) (w' := (mW G Z Y q47.2)) (rv := some (.int q47.1)) (bytes := cX12_endsWell) (maxL := 6) (ret := (some .boolean)) (C := RX12) (As := [.int x1, .long (σ1.2.1 200 44)]) (rest := []) (stk := [.int q47.1]) ⟨hx, hb, hml, hown, hts⟩ hK hE hA hP hD hS (c_X12_endsWell l D G Z Y σ1 F x1 (σ1.2.1 200 44) q47 hq47) (cwV 2 hts (gwV wd_1707 wd_1709 wp_89 wd_11 wd_1710) rfl rfl rfl hd_X12_endsWell ⟨Nat.le_of_ble_eq_true rfl, Nat.le_of_ble_eq_true rfl⟩) (mg_200 G Z Y σ1) rfl rfl rfl hl.1 rfl (Nat.le_of_ble_eq_true rfl) dX12_goes_262 ⟨Nat.zero_le _, Nat.zero_le _⟩ rfl (fun H locs hP hD hS => ?_)
        refine lv_if_eq (tgt := 270) hx hb dX12_goes_265 (by decide) (fun c48 => ?_) (fun c48 => ?_)
        · skip
          have h := f_t c48 h
          refine lv_aload_n hx hb dX12_goes_270 rfl (lv_at hl 0 rfl) ?_
          refine lv_aload_n hx hb dX12_goes_271 rfl (lv_at hl 0 rfl) ?_
          refine va_get (D := D) (ci := 12) (v := .ref (G.2.1 204)) (C := RX12) (T := TX12) (N := 59) hx hb hts inU_X12 hown hK hP _ (mg_200 G Z Y q47.2) rfl 12 (by decide) (hts _ wd_1260) (fun _ h9 => h9) rfl dX12_goes_272 ?_
          refine lv_iload hx hb dX12_goes_275 (lv_at hl 2 rfl) ?_
          obtain ⟨c49, h⟩ := f_n h
          refine va_ialdE (v := (q47.2.1 204 (((σ0.1 214 ((x1 : Int32).toNatClampNeg)) : Int32).toNatClampNeg))) hx hb hK hP _ 0 (mg_204 G Z Y q47.2) rfl c49 dX12_goes_277 rfl ?_
          refine va_put (D := D) (ci := 12) (v := .int (q47.2.1 204 (((σ0.1 214 ((x1 : Int32).toNatClampNeg)) : Int32).toNatClampNeg))) (ty := .int) (C := RX12) (T := TX12) (N := 59) hx hb hts inU_X12 tyX12 tyX12_ok nmX12 hown hK hP hD hS _ (mg_200 G Z Y q47.2) rfl 41 (by decide) (hts _ wd_1288) (fun _ h9 => h9) rfl (by decide +kernel) rfl rfl (Nat.le_of_ble_eq_true rfl) dX12_goes_278 (fun H locs hP hD hS => ?_)
          have hP := wrP (mp_200_41 G Z Y q47.2 (q47.2.1 204 (((σ0.1 214 ((x1 : Int32).toNatClampNeg)) : Int32).toNatClampNeg))) hP
          have hD := wrD (mp_200_41 G Z Y q47.2 (q47.2.1 204 (((σ0.1 214 ((x1 : Int32).toNatClampNeg)) : Int32).toNatClampNeg))) hD
          refine lv_iconst (v := 0) hx hb dX12_goes_281 (by decide) ?_
          obtain rfl := Option.some.inj h
          exact W.zret (v := (0 : Int32)) hx hb hr rfl (q_end hK hP hD hS) hS.2.2 dX12_goes_282
        · skip
          have h := f_f c48 h
          refine lv_iconst (v := 1) hx hb dX12_goes_268 (by decide) ?_
          obtain rfl := Option.some.inj h
          exact W.zret (v := (1 : Int32)) hx hb hr rfl (q_end hK hP hD hS) hS.2.2 dX12_goes_269
    · skip
      have h := f_f c4 h
      refine lv_aload_n hx hb dX12_goes_54 rfl (lv_at hl 1 rfl) ?_
      refine lv_aload_n hx hb dX12_goes_55 rfl (lv_at hl 1 rfl) ?_
      refine va_get (D := D) (ci := 12) (v := .long q3.1) (C := RX12) (T := TX12) (N := 59) hx hb hts inU_X12 hown hK hP _ (mg_200 G Z Y (sJ (sJ q3.2 200 43 q3.1) 200 44 q3.1)) rfl 43 (by decide) (hts _ wd_1290) (fun _ h9 => h9) rfl dX12_goes_56 ?_
      obtain ⟨q50, hq50, h⟩ := f_b h
      refine cl_V (w := (mW G Z Y (sJ (sJ q3.2 200 43 q3.1) 200 44 q3.1))) (w' := (mW G Z Y q50.2)) (rv := none) (bytes := cX12_mix) (maxL := 3) (ret := none) (C := RX12) (As := [.long q3.1]) (rest := []) (stk := []) ⟨hx, hb, hml, hown, hts⟩ hK hE hA hP hD hS (c_X12_mix l D G Z Y (sJ (sJ q3.2 200 43 q3.1) 200 44 q3.1) q3.1 q50 hq50) (cwV 1 hts (gwV wd_1673 wd_1675 wp_81 wd_11 wd_1676) rfl rfl rfl hd_X12_mix ⟨Nat.le_of_ble_eq_true rfl, Nat.le_of_ble_eq_true rfl⟩) (mg_200 G Z Y (sJ (sJ q3.2 200 43 q3.1) 200 44 q3.1)) rfl rfl rfl hl.1 rfl (Nat.le_of_ble_eq_true rfl) dX12_goes_59 ⟨Nat.zero_le _, Nat.zero_le _⟩ rfl (fun H locs hP hD hS => ?_)
      refine lv_iconst (v := 0) hx hb dX12_goes_62 (by decide) ?_
      refine lv_istore (lv' := [(7, .int (0 : Int32)), (6, .int (σ0.1 214 ((x1 : Int32).toNatClampNeg))), (0, .ref (G.2.1 200)), (1, .int x1), (2, .int x2), (3, .long x3), (5, .int x5)]) hx hb dX12_goes_63 hl (by decide) rfl (fun ls hl => ?_)
      refine W_X12_goes_L65 l D G Z Y σ0 F x1 x2 x3 x5 x1 x2 x5 (σ0.1 214 ((x1 : Int32).toNatClampNeg)) res C0 hA _ ?_ F q50.2 (0 : Int32) h _ _ _ hP hD hS (lv_sub hl [2, 3, 4, 6, 1, 0] rfl)
      · intro σ1 h H locs ls hP hD hS hl
        refine lv_aload_n hx hb dX12_goes_256 rfl (lv_at hl 0 rfl) ?_
        refine lv_iload_n hx hb dX12_goes_257 rfl (lv_at hl 1 rfl) ?_
        refine lv_aload_n hx hb dX12_goes_258 rfl (lv_at hl 0 rfl) ?_
        refine va_get (D := D) (ci := 12) (v := .long (σ1.2.1 200 44)) (C := RX12) (T := TX12) (N := 59) hx hb hts inU_X12 hown hK hP _ (mg_200 G Z Y σ1) rfl 44 (by decide) (hts _ wd_1291) (fun _ h9 => h9) rfl dX12_goes_259 ?_
        obtain ⟨q51, hq51, h⟩ := f_b h
        refine cl_V (w := (mW G Z Y σ1)) (w' := (mW G Z Y q51.2)) (rv := some (.int q51.1)) (bytes := cX12_endsWell) (maxL := 6) (ret := (some .boolean)) (C := RX12) (As := [.int x1, .long (σ1.2.1 200 44)]) (rest := []) (stk := [.int q51.1]) ⟨hx, hb, hml, hown, hts⟩ hK hE hA hP hD hS (c_X12_endsWell l D G Z Y σ1 F x1 (σ1.2.1 200 44) q51 hq51) (cwV 2 hts (gwV wd_1707 wd_1709 wp_89 wd_11 wd_1710) rfl rfl rfl hd_X12_endsWell ⟨Nat.le_of_ble_eq_true rfl, Nat.le_of_ble_eq_true rfl⟩) (mg_200 G Z Y σ1) rfl rfl rfl hl.1 rfl (Nat.le_of_ble_eq_true rfl) dX12_goes_262 ⟨Nat.zero_le _, Nat.zero_le _⟩ rfl (fun H locs hP hD hS => ?_)
        refine lv_if_eq (tgt := 270) hx hb dX12_goes_265 (by decide) (fun c52 => ?_) (fun c52 => ?_)
        · skip
          have h := f_t c52 h
          refine lv_aload_n hx hb dX12_goes_270 rfl (lv_at hl 0 rfl) ?_
          refine lv_aload_n hx hb dX12_goes_271 rfl (lv_at hl 0 rfl) ?_
          refine va_get (D := D) (ci := 12) (v := .ref (G.2.1 204)) (C := RX12) (T := TX12) (N := 59) hx hb hts inU_X12 hown hK hP _ (mg_200 G Z Y q51.2) rfl 12 (by decide) (hts _ wd_1260) (fun _ h9 => h9) rfl dX12_goes_272 ?_
          refine lv_iload hx hb dX12_goes_275 (lv_at hl 2 rfl) ?_
          obtain ⟨c53, h⟩ := f_n h
          refine va_ialdE (v := (q51.2.1 204 (((σ0.1 214 ((x1 : Int32).toNatClampNeg)) : Int32).toNatClampNeg))) hx hb hK hP _ 0 (mg_204 G Z Y q51.2) rfl c53 dX12_goes_277 rfl ?_
          refine va_put (D := D) (ci := 12) (v := .int (q51.2.1 204 (((σ0.1 214 ((x1 : Int32).toNatClampNeg)) : Int32).toNatClampNeg))) (ty := .int) (C := RX12) (T := TX12) (N := 59) hx hb hts inU_X12 tyX12 tyX12_ok nmX12 hown hK hP hD hS _ (mg_200 G Z Y q51.2) rfl 41 (by decide) (hts _ wd_1288) (fun _ h9 => h9) rfl (by decide +kernel) rfl rfl (Nat.le_of_ble_eq_true rfl) dX12_goes_278 (fun H locs hP hD hS => ?_)
          have hP := wrP (mp_200_41 G Z Y q51.2 (q51.2.1 204 (((σ0.1 214 ((x1 : Int32).toNatClampNeg)) : Int32).toNatClampNeg))) hP
          have hD := wrD (mp_200_41 G Z Y q51.2 (q51.2.1 204 (((σ0.1 214 ((x1 : Int32).toNatClampNeg)) : Int32).toNatClampNeg))) hD
          refine lv_iconst (v := 0) hx hb dX12_goes_281 (by decide) ?_
          obtain rfl := Option.some.inj h
          exact W.zret (v := (0 : Int32)) hx hb hr rfl (q_end hK hP hD hS) hS.2.2 dX12_goes_282
        · skip
          have h := f_f c52 h
          refine lv_iconst (v := 1) hx hb dX12_goes_268 (by decide) ?_
          obtain rfl := Option.some.inj h
          exact W.zret (v := (1 : Int32)) hx hb hr rfl (q_end hK hP hD hS) hS.2.2 dX12_goes_269
  · skip
    have h := f_f c2 h
    refine lv_lconst (v := 1) hx hb dX12_goes_13 (by decide) ?_
    refine lv_goto (tgt := 18) hx hb dX12_goes_14 (by decide) ?_
    refine va_put (D := D) (ci := 12) (v := .long (1 : Int64)) (ty := .long) (C := RX12) (T := TX12) (N := 59) hx hb hts inU_X12 tyX12 tyX12_ok nmX12 hown hK hP hD hS _ (mg_200 G Z Y σ0) rfl 45 (by decide) (hts _ wd_1292) (fun _ h9 => h9) rfl (by decide +kernel) rfl rfl (Nat.le_of_ble_eq_true rfl) dX12_goes_18 (fun H locs hP hD hS => ?_)
    have hP := wrP (mp_200_45 G Z Y σ0 (1 : Int64)) hP
    have hD := wrD (mp_200_45 G Z Y σ0 (1 : Int64)) hD
    refine lv_aload_n hx hb dX12_goes_21 rfl (lv_at hl 1 rfl) ?_
    refine lv_iconst (v := (-1)) hx hb dX12_goes_22 (by decide) ?_
    refine va_put (D := D) (ci := 12) (v := .int (-1 : Int32)) (ty := .int) (C := RX12) (T := TX12) (N := 59) hx hb hts inU_X12 tyX12 tyX12_ok nmX12 hown hK hP hD hS _ (mg_200 G Z Y (sJ σ0 200 45 (1 : Int64))) rfl 41 (by decide) (hts _ wd_1288) (fun _ h9 => h9) rfl (by decide +kernel) rfl rfl (Nat.le_of_ble_eq_true rfl) dX12_goes_23 (fun H locs hP hD hS => ?_)
    have hP := wrP (mp_200_41 G Z Y (sJ σ0 200 45 (1 : Int64)) (-1 : Int32)) hP
    have hD := wrD (mp_200_41 G Z Y (sJ σ0 200 45 (1 : Int64)) (-1 : Int32)) hD
    refine lv_aload_n hx hb dX12_goes_26 rfl (lv_at hl 1 rfl) ?_
    refine lv_iconst (v := 0) hx hb dX12_goes_27 (by decide) ?_
    refine va_put (D := D) (ci := 12) (v := .int (0 : Int32)) (ty := .int) (C := RX12) (T := TX12) (N := 59) hx hb hts inU_X12 tyX12 tyX12_ok nmX12 hown hK hP hD hS _ (mg_200 G Z Y (sI (sJ σ0 200 45 (1 : Int64)) 200 41 (-1 : Int32))) rfl 42 (by decide) (hts _ wd_1289) (fun _ h9 => h9) rfl (by decide +kernel) rfl rfl (Nat.le_of_ble_eq_true rfl) dX12_goes_28 (fun H locs hP hD hS => ?_)
    have hP := wrP (mp_200_42 G Z Y (sI (sJ σ0 200 45 (1 : Int64)) 200 41 (-1 : Int32)) (0 : Int32)) hP
    have hD := wrD (mp_200_42 G Z Y (sI (sJ σ0 200 45 (1 : Int64)) 200 41 (-1 : Int32)) (0 : Int32)) hD
    refine lv_aload_n hx hb dX12_goes_31 rfl (lv_at hl 1 rfl) ?_
    refine lv_aload_n hx hb dX12_goes_32 rfl (lv_at hl 1 rfl) ?_
    refine lv_iload_n hx hb dX12_goes_33 rfl (lv_at hl 2 rfl) ?_
    refine lv_iload hx hb dX12_goes_34 (lv_at hl 5 rfl) ?_
    obtain ⟨q54, hq54, h⟩ := f_b h
    refine cl_V (w := (mW G Z Y (sI (sI (sJ σ0 200 45 (1 : Int64)) 200 41 (-1 : Int32)) 200 42 (0 : Int32)))) (w' := (mW G Z Y q54.2)) (rv := some (.long q54.1)) (bytes := cX12_firstClaim) (maxL := 5) (ret := (some .long)) (C := RX12) (As := [.int x1, .int x5]) (rest := [.ref (G.2.1 200)]) (stk := [.long q54.1, .ref (G.2.1 200)]) ⟨hx, hb, hml, hown, hts⟩ hK hE hA hP hD hS (c_X12_firstClaim l D G Z Y (sI (sI (sJ σ0 200 45 (1 : Int64)) 200 41 (-1 : Int32)) 200 42 (0 : Int32)) F x1 x5 q54 hq54) (cwV 2 hts (gwV wd_1661 wd_1663 wp_78 wd_11 wd_1664) rfl rfl rfl hd_X12_firstClaim ⟨Nat.le_of_ble_eq_true rfl, Nat.le_of_ble_eq_true rfl⟩) (mg_200 G Z Y (sI (sI (sJ σ0 200 45 (1 : Int64)) 200 41 (-1 : Int32)) 200 42 (0 : Int32))) rfl rfl rfl hl.1 rfl (Nat.le_of_ble_eq_true rfl) dX12_goes_36 ⟨Nat.zero_le _, Nat.zero_le _⟩ rfl (fun H locs hP hD hS => ?_)
    refine va_put (D := D) (ci := 12) (v := .long q54.1) (ty := .long) (C := RX12) (T := TX12) (N := 59) hx hb hts inU_X12 tyX12 tyX12_ok nmX12 hown hK hP hD hS _ (mg_200 G Z Y q54.2) rfl 43 (by decide) (hts _ wd_1290) (fun _ h9 => h9) rfl (by decide +kernel) rfl rfl (Nat.le_of_ble_eq_true rfl) dX12_goes_39 (fun H locs hP hD hS => ?_)
    have hP := wrP (mp_200_43 G Z Y q54.2 q54.1) hP
    have hD := wrD (mp_200_43 G Z Y q54.2 q54.1) hD
    refine lv_aload_n hx hb dX12_goes_42 rfl (lv_at hl 1 rfl) ?_
    refine lv_aload_n hx hb dX12_goes_43 rfl (lv_at hl 1 rfl) ?_
    refine va_get (D := D) (ci := 12) (v := .long q54.1) (C := RX12) (T := TX12) (N := 59) hx hb hts inU_X12 hown hK hP _ (mg_200 G Z Y (sJ q54.2 200 43 q54.1)) rfl 43 (by decide) (hts _ wd_1290) (fun _ h9 => h9) rfl dX12_goes_44 ?_
    refine va_put (D := D) (ci := 12) (v := .long q54.1) (ty := .long) (C := RX12) (T := TX12) (N := 59) hx hb hts inU_X12 tyX12 tyX12_ok nmX12 hown hK hP hD hS _ (mg_200 G Z Y (sJ q54.2 200 43 q54.1)) rfl 44 (by decide) (hts _ wd_1291) (fun _ h9 => h9) rfl (by decide +kernel) rfl rfl (Nat.le_of_ble_eq_true rfl) dX12_goes_47 (fun H locs hP hD hS => ?_)
    have hP := wrP (mp_200_44 G Z Y (sJ q54.2 200 43 q54.1) q54.1) hP
    have hD := wrD (mp_200_44 G Z Y (sJ q54.2 200 43 q54.1) q54.1) hD
    refine lv_iload_n hx hb dX12_goes_50 rfl (lv_at hl 3 rfl) ?_
    refine lv_if_eq (tgt := 62) hx hb dX12_goes_51 (by decide) (fun c55 => ?_) (fun c55 => ?_)
    · skip
      have h := f_t c55 h
      refine lv_iconst (v := 0) hx hb dX12_goes_62 (by decide) ?_
      refine lv_istore (lv' := [(7, .int (0 : Int32)), (6, .int (σ0.1 214 ((x1 : Int32).toNatClampNeg))), (0, .ref (G.2.1 200)), (1, .int x1), (2, .int x2), (3, .long x3), (5, .int x5)]) hx hb dX12_goes_63 hl (by decide) rfl (fun ls hl => ?_)
      refine W_X12_goes_L65 l D G Z Y σ0 F x1 x2 x3 x5 x1 x2 x5 (σ0.1 214 ((x1 : Int32).toNatClampNeg)) res C0 hA _ ?_ F (sJ (sJ q54.2 200 43 q54.1) 200 44 q54.1) (0 : Int32) h _ _ _ hP hD hS (lv_sub hl [2, 3, 4, 6, 1, 0] rfl)
      · intro σ1 h H locs ls hP hD hS hl
        refine lv_aload_n hx hb dX12_goes_256 rfl (lv_at hl 0 rfl) ?_
        refine lv_iload_n hx hb dX12_goes_257 rfl (lv_at hl 1 rfl) ?_
        refine lv_aload_n hx hb dX12_goes_258 rfl (lv_at hl 0 rfl) ?_
        refine va_get (D := D) (ci := 12) (v := .long (σ1.2.1 200 44)) (C := RX12) (T := TX12) (N := 59) hx hb hts inU_X12 hown hK hP _ (mg_200 G Z Y σ1) rfl 44 (by decide) (hts _ wd_1291) (fun _ h9 => h9) rfl dX12_goes_259 ?_
        obtain ⟨q56, hq56, h⟩ := f_b h
        refine cl_V (w := (mW G Z Y σ1)) (w' := (mW G Z Y q56.2)) (rv := some (.int q56.1)) (bytes := cX12_endsWell) (maxL := 6) (ret := (some .boolean)) (C := RX12) (As := [.int x1, .long (σ1.2.1 200 44)]) (rest := []) (stk := [.int q56.1]) ⟨hx, hb, hml, hown, hts⟩ hK hE hA hP hD hS (c_X12_endsWell l D G Z Y σ1 F x1 (σ1.2.1 200 44) q56 hq56) (cwV 2 hts (gwV wd_1707 wd_1709 wp_89 wd_11 wd_1710) rfl rfl rfl hd_X12_endsWell ⟨Nat.le_of_ble_eq_true rfl, Nat.le_of_ble_eq_true rfl⟩) (mg_200 G Z Y σ1) rfl rfl rfl hl.1 rfl (Nat.le_of_ble_eq_true rfl) dX12_goes_262 ⟨Nat.zero_le _, Nat.zero_le _⟩ rfl (fun H locs hP hD hS => ?_)
        refine lv_if_eq (tgt := 270) hx hb dX12_goes_265 (by decide) (fun c57 => ?_) (fun c57 => ?_)
        · skip
          have h := f_t c57 h
          refine lv_aload_n hx hb dX12_goes_270 rfl (lv_at hl 0 rfl) ?_
          refine lv_aload_n hx hb dX12_goes_271 rfl (lv_at hl 0 rfl) ?_
          refine va_get (D := D) (ci := 12) (v := .ref (G.2.1 204)) (C := RX12) (T := TX12) (N := 59) hx hb hts inU_X12 hown hK hP _ (mg_200 G Z Y q56.2) rfl 12 (by decide) (hts _ wd_1260) (fun _ h9 => h9) rfl dX12_goes_272 ?_
          refine lv_iload hx hb dX12_goes_275 (lv_at hl 2 rfl) ?_
          obtain ⟨c58, h⟩ := f_n h
          refine va_ialdE (v := (q56.2.1 204 (((σ0.1 214 ((x1 : Int32).toNatClampNeg)) : Int32).toNatClampNeg))) hx hb hK hP _ 0 (mg_204 G Z Y q56.2) rfl c58 dX12_goes_277 rfl ?_
          refine va_put (D := D) (ci := 12) (v := .int (q56.2.1 204 (((σ0.1 214 ((x1 : Int32).toNatClampNeg)) : Int32).toNatClampNeg))) (ty := .int) (C := RX12) (T := TX12) (N := 59) hx hb hts inU_X12 tyX12 tyX12_ok nmX12 hown hK hP hD hS _ (mg_200 G Z Y q56.2) rfl 41 (by decide) (hts _ wd_1288) (fun _ h9 => h9) rfl (by decide +kernel) rfl rfl (Nat.le_of_ble_eq_true rfl) dX12_goes_278 (fun H locs hP hD hS => ?_)
          have hP := wrP (mp_200_41 G Z Y q56.2 (q56.2.1 204 (((σ0.1 214 ((x1 : Int32).toNatClampNeg)) : Int32).toNatClampNeg))) hP
          have hD := wrD (mp_200_41 G Z Y q56.2 (q56.2.1 204 (((σ0.1 214 ((x1 : Int32).toNatClampNeg)) : Int32).toNatClampNeg))) hD
          refine lv_iconst (v := 0) hx hb dX12_goes_281 (by decide) ?_
          obtain rfl := Option.some.inj h
          exact W.zret (v := (0 : Int32)) hx hb hr rfl (q_end hK hP hD hS) hS.2.2 dX12_goes_282
        · skip
          have h := f_f c57 h
          refine lv_iconst (v := 1) hx hb dX12_goes_268 (by decide) ?_
          obtain rfl := Option.some.inj h
          exact W.zret (v := (1 : Int32)) hx hb hr rfl (q_end hK hP hD hS) hS.2.2 dX12_goes_269
    · skip
      have h := f_f c55 h
      refine lv_aload_n hx hb dX12_goes_54 rfl (lv_at hl 1 rfl) ?_
      refine lv_aload_n hx hb dX12_goes_55 rfl (lv_at hl 1 rfl) ?_
      refine va_get (D := D) (ci := 12) (v := .long q54.1) (C := RX12) (T := TX12) (N := 59) hx hb hts inU_X12 hown hK hP _ (mg_200 G Z Y (sJ (sJ q54.2 200 43 q54.1) 200 44 q54.1)) rfl 43 (by decide) (hts _ wd_1290) (fun _ h9 => h9) rfl dX12_goes_56 ?_
      obtain ⟨q59, hq59, h⟩ := f_b h
      refine cl_V (w := (mW G Z Y (sJ (sJ q54.2 200 43 q54.1) 200 44 q54.1))) (w' := (mW G Z Y q59.2)) (rv := none) (bytes := cX12_mix) (maxL := 3) (ret := none) (C := RX12) (As := [.long q54.1]) (rest := []) (stk := []) ⟨hx, hb, hml, hown, hts⟩ hK hE hA hP hD hS (c_X12_mix l D G Z Y (sJ (sJ q54.2 200 43 q54.1) 200 44 q54.1) q54.1 q59 hq59) (cwV 1 hts (gwV wd_1673 wd_1675 wp_81 wd_11 wd_1676) rfl rfl rfl hd_X12_mix ⟨Nat.le_of_ble_eq_true rfl, Nat.le_of_ble_eq_true rfl⟩) (mg_200 G Z Y (sJ (sJ q54.2 200 43 q54.1) 200 44 q54.1)) rfl rfl rfl hl.1 rfl (Nat.le_of_ble_eq_true rfl) dX12_goes_59 ⟨Nat.zero_le _, Nat.zero_le _⟩ rfl (fun H locs hP hD hS => ?_)
      refine lv_iconst (v := 0) hx hb dX12_goes_62 (by decide) ?_
      refine lv_istore (lv' := [(7, .int (0 : Int32)), (6, .int (σ0.1 214 ((x1 : Int32).toNatClampNeg))), (0, .ref (G.2.1 200)), (1, .int x1), (2, .int x2), (3, .long x3), (5, .int x5)]) hx hb dX12_goes_63 hl (by decide) rfl (fun ls hl => ?_)
      refine W_X12_goes_L65 l D G Z Y σ0 F x1 x2 x3 x5 x1 x2 x5 (σ0.1 214 ((x1 : Int32).toNatClampNeg)) res C0 hA _ ?_ F q59.2 (0 : Int32) h _ _ _ hP hD hS (lv_sub hl [2, 3, 4, 6, 1, 0] rfl)
      · intro σ1 h H locs ls hP hD hS hl
        refine lv_aload_n hx hb dX12_goes_256 rfl (lv_at hl 0 rfl) ?_
        refine lv_iload_n hx hb dX12_goes_257 rfl (lv_at hl 1 rfl) ?_
        refine lv_aload_n hx hb dX12_goes_258 rfl (lv_at hl 0 rfl) ?_
        refine va_get (D := D) (ci := 12) (v := .long (σ1.2.1 200 44)) (C := RX12) (T := TX12) (N := 59) hx hb hts inU_X12 hown hK hP _ (mg_200 G Z Y σ1) rfl 44 (by decide) (hts _ wd_1291) (fun _ h9 => h9) rfl dX12_goes_259 ?_
        obtain ⟨q60, hq60, h⟩ := f_b h
        refine cl_V (w := (mW G Z Y σ1)) (w' := (mW G Z Y q60.2)) (rv := some (.int q60.1)) (bytes := cX12_endsWell) (maxL := 6) (ret := (some .boolean)) (C := RX12) (As := [.int x1, .long (σ1.2.1 200 44)]) (rest := []) (stk := [.int q60.1]) ⟨hx, hb, hml, hown, hts⟩ hK hE hA hP hD hS (c_X12_endsWell l D G Z Y σ1 F x1 (σ1.2.1 200 44) q60 hq60) (cwV 2 hts (gwV wd_1707 wd_1709 wp_89 wd_11 wd_1710) rfl rfl rfl hd_X12_endsWell ⟨Nat.le_of_ble_eq_true rfl, Nat.le_of_ble_eq_true rfl⟩) (mg_200 G Z Y σ1) rfl rfl rfl hl.1 rfl (Nat.le_of_ble_eq_true rfl) dX12_goes_262 ⟨Nat.zero_le _, Nat.zero_le _⟩ rfl (fun H locs hP hD hS => ?_)
        refine lv_if_eq (tgt := 270) hx hb dX12_goes_265 (by decide) (fun c61 => ?_) (fun c61 => ?_)
        · skip
          have h := f_t c61 h
          refine lv_aload_n hx hb dX12_goes_270 rfl (lv_at hl 0 rfl) ?_
          refine lv_aload_n hx hb dX12_goes_271 rfl (lv_at hl 0 rfl) ?_
          refine va_get (D := D) (ci := 12) (v := .ref (G.2.1 204)) (C := RX12) (T := TX12) (N := 59) hx hb hts inU_X12 hown hK hP _ (mg_200 G Z Y q60.2) rfl 12 (by decide) (hts _ wd_1260) (fun _ h9 => h9) rfl dX12_goes_272 ?_
          refine lv_iload hx hb dX12_goes_275 (lv_at hl 2 rfl) ?_
          obtain ⟨c62, h⟩ := f_n h
          refine va_ialdE (v := (q60.2.1 204 (((σ0.1 214 ((x1 : Int32).toNatClampNeg)) : Int32).toNatClampNeg))) hx hb hK hP _ 0 (mg_204 G Z Y q60.2) rfl c62 dX12_goes_277 rfl ?_
          refine va_put (D := D) (ci := 12) (v := .int (q60.2.1 204 (((σ0.1 214 ((x1 : Int32).toNatClampNeg)) : Int32).toNatClampNeg))) (ty := .int) (C := RX12) (T := TX12) (N := 59) hx hb hts inU_X12 tyX12 tyX12_ok nmX12 hown hK hP hD hS _ (mg_200 G Z Y q60.2) rfl 41 (by decide) (hts _ wd_1288) (fun _ h9 => h9) rfl (by decide +kernel) rfl rfl (Nat.le_of_ble_eq_true rfl) dX12_goes_278 (fun H locs hP hD hS => ?_)
          have hP := wrP (mp_200_41 G Z Y q60.2 (q60.2.1 204 (((σ0.1 214 ((x1 : Int32).toNatClampNeg)) : Int32).toNatClampNeg))) hP
          have hD := wrD (mp_200_41 G Z Y q60.2 (q60.2.1 204 (((σ0.1 214 ((x1 : Int32).toNatClampNeg)) : Int32).toNatClampNeg))) hD
          refine lv_iconst (v := 0) hx hb dX12_goes_281 (by decide) ?_
          obtain rfl := Option.some.inj h
          exact W.zret (v := (0 : Int32)) hx hb hr rfl (q_end hK hP hD hS) hS.2.2 dX12_goes_282
        · skip
          have h := f_f c61 h
          refine lv_iconst (v := 1) hx hb dX12_goes_268 (by decide) ?_
          obtain rfl := Option.some.inj h
          exact W.zret (v := (1 : Int32)) hx hb hr rfl (q_end hK hP hD hS) hS.2.2 dX12_goes_269
abbrev rm_X12_keep : Room := { frames := 1, cells := 0, slots := 0, locals := 30 }
set_option maxRecDepth 100000 in
set_option maxHeartbeats 8000000 in
theorem W_X12_keep_L83 {p : Program} {e : Env} {s : State} {m : MethodId} {args : Array Value} {below : List Frame} {meth : Method} {c : Code} {A : Nat → Prop} (l : Launch) (D : va_G) (G : hG) (Z : hZ) (Y : va_W) (σ0 : hSt) (F : Nat) (x1 : Int32) (x2 : Int32) (y2 : Int32) (res : (Int32 × hSt)) (C0 : Cx p s m args meth c cX12_keep (some .int) RX12 5 D G A) (hA : ∀ q : Nat, s.heap.size ≤ q → A q) (k113 : hSt → Option (Int32 × hSt)) (hk113 : ∀ (σ1 : hSt), k113 σ1 = some res → ∀ (H : Heap) (locs : List Loc) (ls : Array Slot), va_P D vwCl (mW G Z Y σ1) H → va_D A (mW G Z Y σ1) → va_S A s.heap H locs → lv_has ls 5 [(0, .ref (G.2.1 200)), (2, .int y2)] → W p l e rm_X12_keep s m args below meth c H locs 0 0 (MQ below (Qg (some (.int res.1)) D (tysG G) (mW G Z Y res.2) A) args s 0 0 A) (F0 m 113 ls [])) : ∀ (n : Nat) (σ1 : hSt) (z4 : Int32), f_X12_keep_L83 y2 k113 n σ1 z4 = some res → ∀ (H : Heap) (locs : List Loc) (ls : Array Slot), va_P D vwCl (mW G Z Y σ1) H → va_D A (mW G Z Y σ1) → va_S A s.heap H locs → lv_has ls 5 [(0, .ref (G.2.1 200)), (2, .int y2), (4, .int z4)] → W p l e rm_X12_keep s m args below meth c H locs 0 0 (MQ below (Qg (some (.int res.1)) D (tysG G) (mW G Z Y res.2) A) args s 0 0 A) (F0 m 83 ls []) := by
  obtain ⟨hx, hb, hr, hml, hown, hts, hlocks, hK, hE⟩ := id C0
  intro n
  induction n with
  | zero =>
    intro σ1 z4 h
    cases h
  | succ n ih =>
    intro σ1 z4 h H locs ls hP hD hS hl
    rw [f_X12_keep_L83] at h
    refine lv_iload hx hb dX12_keep_83 (lv_at hl 2 rfl) ?_
    refine lv_aload_n hx hb dX12_keep_85 rfl (lv_at hl 0 rfl) ?_
    refine va_get (D := D) (ci := 12) (v := .ref (G.2.1 220)) (C := RX12) (T := TX12) (N := 59) hx hb hts inU_X12 hown hK hP _ (mg_200 G Z Y σ1) rfl 46 (by decide) (hts _ wd_1293) (fun _ h9 => h9) rfl dX12_keep_86 ?_
    refine va_alen (ty := .long) (v := (1206 : Int32)) hx hb hK hP _ 1 (mg_220 G Z Y σ1) rfl rfl dX12_keep_89 ?_
    refine lv_icmp_ge (tgt := 113) hx hb dX12_keep_90 (by decide) (fun c4 => ?_) (fun c4 => ?_)
    · skip
      have h := f_t c4 h
      exact hk113 σ1 h _ _ _ hP hD hS (lv_sub hl [0, 1] rfl)
    · skip
      have h := f_f c4 h
      refine lv_aload_n hx hb dX12_keep_93 rfl (lv_at hl 0 rfl) ?_
      refine va_get (D := D) (ci := 12) (v := .ref (G.2.1 220)) (C := RX12) (T := TX12) (N := 59) hx hb hts inU_X12 hown hK hP _ (mg_200 G Z Y σ1) rfl 46 (by decide) (hts _ wd_1293) (fun _ h9 => h9) rfl dX12_keep_94 ?_
      refine lv_iload hx hb dX12_keep_97 (lv_at hl 2 rfl) ?_
      refine lv_aload_n hx hb dX12_keep_99 rfl (lv_at hl 0 rfl) ?_
      refine va_get (D := D) (ci := 12) (v := .ref (G.2.1 219)) (C := RX12) (T := TX12) (N := 59) hx hb hts inU_X12 hown hK hP _ (mg_200 G Z Y σ1) rfl 38 (by decide) (hts _ wd_1286) (fun _ h9 => h9) rfl dX12_keep_100 ?_
      refine lv_iload hx hb dX12_keep_103 (lv_at hl 2 rfl) ?_
      obtain ⟨c5, h⟩ := f_n h
      refine va_laldE (v := (σ1.2.1 219 ((z4 : Int32).toNatClampNeg))) hx hb hK hP _ 1 (mg_219 G Z Y σ1) rfl c5 dX12_keep_105 rfl ?_
      obtain ⟨c6, h⟩ := f_n h
      refine va_last hx hb hK hP hD hS _ 1 (mg_220 G Z Y σ1) rfl c6 dX12_keep_106 (fun H locs hP hD hS => ?_)
      have hP := wrP (mp_220 G Z Y σ1 _ _) hP
      have hD := wrD (mp_220 G Z Y σ1 _ _) hD
      refine lv_iinc (v := (z4 + 1)) (lv' := [(4, .int (z4 + 1)), (0, .ref (G.2.1 200)), (2, .int y2)]) hx hb dX12_keep_107 hl (k := 2) rfl rfl (by decide) rfl (fun ls hl => ?_)
      refine lv_goto (tgt := 83) hx hb dX12_keep_110 (by decide) ?_
      exact ih (sJ σ1 220 ((z4 : Int32).toNatClampNeg) (σ1.2.1 219 ((z4 : Int32).toNatClampNeg))) (z4 + 1) h _ _ _ hP hD hS (lv_sub hl [1, 2, 0] rfl)
set_option maxRecDepth 100000 in
set_option maxHeartbeats 8000000 in
theorem W_X12_keep_L116 {p : Program} {e : Env} {s : State} {m : MethodId} {args : Array Value} {below : List Frame} {meth : Method} {c : Code} {A : Nat → Prop} (l : Launch) (D : va_G) (G : hG) (Z : hZ) (Y : va_W) (σ0 : hSt) (F : Nat) (x1 : Int32) (x2 : Int32) (y2 : Int32) (res : (Int32 × hSt)) (C0 : Cx p s m args meth c cX12_keep (some .int) RX12 5 D G A) (hA : ∀ q : Nat, s.heap.size ≤ q → A q) : ∀ (n : Nat) (σ1 : hSt) (z4 : Int32), f_X12_keep_L116 y2 n σ1 z4 = some res → ∀ (H : Heap) (locs : List Loc) (ls : Array Slot), va_P D vwCl (mW G Z Y σ1) H → va_D A (mW G Z Y σ1) → va_S A s.heap H locs → lv_has ls 5 [(0, .ref (G.2.1 200)), (2, .int y2), (4, .int z4)] → W p l e rm_X12_keep s m args below meth c H locs 0 0 (MQ below (Qg (some (.int res.1)) D (tysG G) (mW G Z Y res.2) A) args s 0 0 A) (F0 m 116 ls []) := by
  obtain ⟨hx, hb, hr, hml, hown, hts, hlocks, hK, hE⟩ := id C0
  intro n
  induction n with
  | zero =>
    intro σ1 z4 h
    cases h
  | succ n ih =>
    intro σ1 z4 h H locs ls hP hD hS hl
    rw [f_X12_keep_L116] at h
    refine lv_iload hx hb dX12_keep_116 (lv_at hl 2 rfl) ?_
    refine lv_bipush (v := 6) hx hb dX12_keep_118 (by decide) ?_
    refine lv_icmp_ge (tgt := 143) hx hb dX12_keep_120 (by decide) (fun c7 => ?_) (fun c7 => ?_)
    · skip
      have h := f_t c7 h
      refine lv_iload_n hx hb dX12_keep_143 rfl (lv_at hl 1 rfl) ?_
      refine lv_if_eq (tgt := 151) hx hb dX12_keep_144 (by decide) (fun c8 => ?_) (fun c8 => ?_)
      · skip
        have h := f_t c8 h
        refine lv_iconst (v := 0) hx hb dX12_keep_151 (by decide) ?_
        obtain rfl := Option.some.inj h
        exact W.iret (v := (0 : Int32)) hx hb hr (q_end hK hP hD hS) hS.2.2 dX12_keep_152
      · skip
        have h := f_f c8 h
        refine lv_iconst (v := 1) hx hb dX12_keep_147 (by decide) ?_
        refine lv_goto (tgt := 152) hx hb dX12_keep_148 (by decide) ?_
        obtain rfl := Option.some.inj h
        exact W.iret (v := (1 : Int32)) hx hb hr (q_end hK hP hD hS) hS.2.2 dX12_keep_152
    · skip
      have h := f_f c7 h
      refine lv_aload_n hx hb dX12_keep_123 rfl (lv_at hl 0 rfl) ?_
      refine va_get (D := D) (ci := 12) (v := .ref (G.2.1 221)) (C := RX12) (T := TX12) (N := 59) hx hb hts inU_X12 hown hK hP _ (mg_200 G Z Y σ1) rfl 47 (by decide) (hts _ wd_1294) (fun _ h9 => h9) rfl dX12_keep_124 ?_
      refine lv_iload hx hb dX12_keep_127 (lv_at hl 2 rfl) ?_
      refine lv_aload_n hx hb dX12_keep_129 rfl (lv_at hl 0 rfl) ?_
      refine va_get (D := D) (ci := 12) (v := .ref (G.2.1 218)) (C := RX12) (T := TX12) (N := 59) hx hb hts inU_X12 hown hK hP _ (mg_200 G Z Y σ1) rfl 37 (by decide) (hts _ wd_1285) (fun _ h9 => h9) rfl dX12_keep_130 ?_
      refine lv_iload hx hb dX12_keep_133 (lv_at hl 2 rfl) ?_
      obtain ⟨c9, h⟩ := f_n h
      refine va_laldE (v := (σ1.2.1 218 ((z4 : Int32).toNatClampNeg))) hx hb hK hP _ 1 (mg_218 G Z Y σ1) rfl c9 dX12_keep_135 rfl ?_
      obtain ⟨c10, h⟩ := f_n h
      refine va_last hx hb hK hP hD hS _ 1 (mg_221 G Z Y σ1) rfl c10 dX12_keep_136 (fun H locs hP hD hS => ?_)
      have hP := wrP (mp_221 G Z Y σ1 _ _) hP
      have hD := wrD (mp_221 G Z Y σ1 _ _) hD
      refine lv_iinc (v := (z4 + 1)) (lv' := [(4, .int (z4 + 1)), (0, .ref (G.2.1 200)), (2, .int y2)]) hx hb dX12_keep_137 hl (k := 2) rfl rfl (by decide) rfl (fun ls hl => ?_)
      refine lv_goto (tgt := 116) hx hb dX12_keep_140 (by decide) ?_
      exact ih (sJ σ1 221 ((z4 : Int32).toNatClampNeg) (σ1.2.1 218 ((z4 : Int32).toNatClampNeg))) (z4 + 1) h _ _ _ hP hD hS (lv_sub hl [1, 2, 0] rfl)
set_option maxRecDepth 100000 in
set_option maxHeartbeats 8000000 in
theorem c_X12_keep (l : Launch) (D : va_G) (G : hG) (Z : hZ) (Y : va_W) (σ0 : hSt) (F : Nat) (x1 : Int32) (x2 : Int32) (res : (Int32 × hSt)) (h : f_X12_keep F Z σ0 x1 x2 = some res) : CT l yX12_keep cX12_keep 5 (some .int) rm_X12_keep D G 0 0 [.ref (G.2.1 200), .int x1, .int x2] (mW G Z Y σ0) (mW G Z Y res.2) (some (.int res.1)) := by
  unfold f_X12_keep at h
  refine CT.mk (cc := cX12_keep) (maxL := 5) (ret := (some .int)) (own := RX12) (plainFor_of_name (by decide)) rfl (Nat.le_of_ble_eq_true rfl) ?_
  intro p e s m args below meth c A ls C0 hnm hA hP hD hl
  obtain ⟨hx, hb, hr, hml, hown, hts, hlocks, hK, hE⟩ := id C0
  have hS : va_S A s.heap s.heap [] := va_S.rf
  have hl : lv_has ls 5 [(0, .ref (G.2.1 200)), (1, .int x1), (2, .int x2)] := hl
  refine lv_aload_n hx hb dX12_keep_0 rfl (lv_at hl 0 rfl) ?_
  refine lv_iconst (v := 1) hx hb dX12_keep_1 (by decide) ?_
  refine va_put (D := D) (ci := 12) (v := .int (1 : Int32)) (ty := .boolean) (C := RX12) (T := TX12) (N := 59) hx hb hts inU_X12 tyX12 tyX12_ok nmX12 hown hK hP hD hS _ (mg_200 G Z Y σ0) rfl 39 (by decide) (hts _ wd_1287) (fun _ h9 => h9) rfl (by decide +kernel) rfl rfl (Nat.le_of_ble_eq_true rfl) dX12_keep_2 (fun H locs hP hD hS => ?_)
  have hP := wrP (mp_200_39 G Z Y σ0 (1 : Int32)) hP
  have hD := wrD (mp_200_39 G Z Y σ0 (1 : Int32)) hD
  refine lv_aload_n hx hb dX12_keep_5 rfl (lv_at hl 0 rfl) ?_
  refine lv_iload_n hx hb dX12_keep_6 rfl (lv_at hl 1 rfl) ?_
  refine va_put (D := D) (ci := 12) (v := .int x1) (ty := .int) (C := RX12) (T := TX12) (N := 59) hx hb hts inU_X12 tyX12 tyX12_ok nmX12 hown hK hP hD hS _ (mg_200 G Z Y (sI σ0 200 39 (1 : Int32))) rfl 48 (by decide) (hts _ wd_1295) (fun _ h9 => h9) rfl (by decide +kernel) rfl rfl (Nat.le_of_ble_eq_true rfl) dX12_keep_7 (fun H locs hP hD hS => ?_)
  have hP := wrP (mp_200_48 G Z Y (sI σ0 200 39 (1 : Int32)) x1) hP
  have hD := wrD (mp_200_48 G Z Y (sI σ0 200 39 (1 : Int32)) x1) hD
  refine lv_aload_n hx hb dX12_keep_10 rfl (lv_at hl 0 rfl) ?_
  refine lv_aload_n hx hb dX12_keep_11 rfl (lv_at hl 0 rfl) ?_
  refine va_get (D := D) (ci := 12) (v := .int (σ0.1 200 41)) (C := RX12) (T := TX12) (N := 59) hx hb hts inU_X12 hown hK hP _ (mg_200 G Z Y (sI (sI σ0 200 39 (1 : Int32)) 200 48 x1)) rfl 41 (by decide) (hts _ wd_1288) (fun _ h9 => h9) rfl dX12_keep_12 ?_
  refine va_put (D := D) (ci := 12) (v := .int (σ0.1 200 41)) (ty := .int) (C := RX12) (T := TX12) (N := 59) hx hb hts inU_X12 tyX12 tyX12_ok nmX12 hown hK hP hD hS _ (mg_200 G Z Y (sI (sI σ0 200 39 (1 : Int32)) 200 48 x1)) rfl 49 (by decide) (hts _ wd_1296) (fun _ h9 => h9) rfl (by decide +kernel) rfl rfl (Nat.le_of_ble_eq_true rfl) dX12_keep_15 (fun H locs hP hD hS => ?_)
  have hP := wrP (mp_200_49 G Z Y (sI (sI σ0 200 39 (1 : Int32)) 200 48 x1) (σ0.1 200 41)) hP
  have hD := wrD (mp_200_49 G Z Y (sI (sI σ0 200 39 (1 : Int32)) 200 48 x1) (σ0.1 200 41)) hD
  refine lv_aload_n hx hb dX12_keep_18 rfl (lv_at hl 0 rfl) ?_
  refine lv_aload_n hx hb dX12_keep_19 rfl (lv_at hl 0 rfl) ?_
  refine va_get (D := D) (ci := 12) (v := .int (σ0.1 200 42)) (C := RX12) (T := TX12) (N := 59) hx hb hts inU_X12 hown hK hP _ (mg_200 G Z Y (sI (sI (sI σ0 200 39 (1 : Int32)) 200 48 x1) 200 49 (σ0.1 200 41))) rfl 42 (by decide) (hts _ wd_1289) (fun _ h9 => h9) rfl dX12_keep_20 ?_
  refine va_put (D := D) (ci := 12) (v := .int (σ0.1 200 42)) (ty := .int) (C := RX12) (T := TX12) (N := 59) hx hb hts inU_X12 tyX12 tyX12_ok nmX12 hown hK hP hD hS _ (mg_200 G Z Y (sI (sI (sI σ0 200 39 (1 : Int32)) 200 48 x1) 200 49 (σ0.1 200 41))) rfl 50 (by decide) (hts _ wd_1297) (fun _ h9 => h9) rfl (by decide +kernel) rfl rfl (Nat.le_of_ble_eq_true rfl) dX12_keep_23 (fun H locs hP hD hS => ?_)
  have hP := wrP (mp_200_50 G Z Y (sI (sI (sI σ0 200 39 (1 : Int32)) 200 48 x1) 200 49 (σ0.1 200 41)) (σ0.1 200 42)) hP
  have hD := wrD (mp_200_50 G Z Y (sI (sI (sI σ0 200 39 (1 : Int32)) 200 48 x1) 200 49 (σ0.1 200 41)) (σ0.1 200 42)) hD
  refine lv_aload_n hx hb dX12_keep_26 rfl (lv_at hl 0 rfl) ?_
  refine lv_aload_n hx hb dX12_keep_27 rfl (lv_at hl 0 rfl) ?_
  refine va_get (D := D) (ci := 12) (v := .long (σ0.2.1 200 43)) (C := RX12) (T := TX12) (N := 59) hx hb hts inU_X12 hown hK hP _ (mg_200 G Z Y (sI (sI (sI (sI σ0 200 39 (1 : Int32)) 200 48 x1) 200 49 (σ0.1 200 41)) 200 50 (σ0.1 200 42))) rfl 43 (by decide) (hts _ wd_1290) (fun _ h9 => h9) rfl dX12_keep_28 ?_
  refine va_put (D := D) (ci := 12) (v := .long (σ0.2.1 200 43)) (ty := .long) (C := RX12) (T := TX12) (N := 59) hx hb hts inU_X12 tyX12 tyX12_ok nmX12 hown hK hP hD hS _ (mg_200 G Z Y (sI (sI (sI (sI σ0 200 39 (1 : Int32)) 200 48 x1) 200 49 (σ0.1 200 41)) 200 50 (σ0.1 200 42))) rfl 52 (by decide) (hts _ wd_1299) (fun _ h9 => h9) rfl (by decide +kernel) rfl rfl (Nat.le_of_ble_eq_true rfl) dX12_keep_31 (fun H locs hP hD hS => ?_)
  have hP := wrP (mp_200_52 G Z Y (sI (sI (sI (sI σ0 200 39 (1 : Int32)) 200 48 x1) 200 49 (σ0.1 200 41)) 200 50 (σ0.1 200 42)) (σ0.2.1 200 43)) hP
  have hD := wrD (mp_200_52 G Z Y (sI (sI (sI (sI σ0 200 39 (1 : Int32)) 200 48 x1) 200 49 (σ0.1 200 41)) 200 50 (σ0.1 200 42)) (σ0.2.1 200 43)) hD
  refine lv_aload_n hx hb dX12_keep_34 rfl (lv_at hl 0 rfl) ?_
  refine lv_aload_n hx hb dX12_keep_35 rfl (lv_at hl 0 rfl) ?_
  refine va_get (D := D) (ci := 12) (v := .long (σ0.2.1 200 44)) (C := RX12) (T := TX12) (N := 59) hx hb hts inU_X12 hown hK hP _ (mg_200 G Z Y (sJ (sI (sI (sI (sI σ0 200 39 (1 : Int32)) 200 48 x1) 200 49 (σ0.1 200 41)) 200 50 (σ0.1 200 42)) 200 52 (σ0.2.1 200 43))) rfl 44 (by decide) (hts _ wd_1291) (fun _ h9 => h9) rfl dX12_keep_36 ?_
  refine va_put (D := D) (ci := 12) (v := .long (σ0.2.1 200 44)) (ty := .long) (C := RX12) (T := TX12) (N := 59) hx hb hts inU_X12 tyX12 tyX12_ok nmX12 hown hK hP hD hS _ (mg_200 G Z Y (sJ (sI (sI (sI (sI σ0 200 39 (1 : Int32)) 200 48 x1) 200 49 (σ0.1 200 41)) 200 50 (σ0.1 200 42)) 200 52 (σ0.2.1 200 43))) rfl 53 (by decide) (hts _ wd_1300) (fun _ h9 => h9) rfl (by decide +kernel) rfl rfl (Nat.le_of_ble_eq_true rfl) dX12_keep_39 (fun H locs hP hD hS => ?_)
  have hP := wrP (mp_200_53 G Z Y (sJ (sI (sI (sI (sI σ0 200 39 (1 : Int32)) 200 48 x1) 200 49 (σ0.1 200 41)) 200 50 (σ0.1 200 42)) 200 52 (σ0.2.1 200 43)) (σ0.2.1 200 44)) hP
  have hD := wrD (mp_200_53 G Z Y (sJ (sI (sI (sI (sI σ0 200 39 (1 : Int32)) 200 48 x1) 200 49 (σ0.1 200 41)) 200 50 (σ0.1 200 42)) 200 52 (σ0.2.1 200 43)) (σ0.2.1 200 44)) hD
  refine lv_aload_n hx hb dX12_keep_42 rfl (lv_at hl 0 rfl) ?_
  refine va_get (D := D) (ci := 12) (v := .ref (G.2.1 204)) (C := RX12) (T := TX12) (N := 59) hx hb hts inU_X12 hown hK hP _ (mg_200 G Z Y (sJ (sJ (sI (sI (sI (sI σ0 200 39 (1 : Int32)) 200 48 x1) 200 49 (σ0.1 200 41)) 200 50 (σ0.1 200 42)) 200 52 (σ0.2.1 200 43)) 200 53 (σ0.2.1 200 44))) rfl 12 (by decide) (hts _ wd_1260) (fun _ h9 => h9) rfl dX12_keep_43 ?_
  refine lv_aload_n hx hb dX12_keep_46 rfl (lv_at hl 0 rfl) ?_
  refine va_get (D := D) (ci := 12) (v := .ref (G.2.1 214)) (C := RX12) (T := TX12) (N := 59) hx hb hts inU_X12 hown hK hP _ (mg_200 G Z Y (sJ (sJ (sI (sI (sI (sI σ0 200 39 (1 : Int32)) 200 48 x1) 200 49 (σ0.1 200 41)) 200 50 (σ0.1 200 42)) 200 52 (σ0.2.1 200 43)) 200 53 (σ0.2.1 200 44))) rfl 32 (by decide) (hts _ wd_1280) (fun _ h9 => h9) rfl dX12_keep_47 ?_
  refine lv_iload_n hx hb dX12_keep_50 rfl (lv_at hl 1 rfl) ?_
  obtain ⟨c1, h⟩ := f_n h
  refine va_ialdE (v := (σ0.1 214 ((x1 : Int32).toNatClampNeg))) hx hb hK hP _ 0 (mg_214 G Z Y (sJ (sJ (sI (sI (sI (sI σ0 200 39 (1 : Int32)) 200 48 x1) 200 49 (σ0.1 200 41)) 200 50 (σ0.1 200 42)) 200 52 (σ0.2.1 200 43)) 200 53 (σ0.2.1 200 44))) rfl c1 dX12_keep_51 rfl ?_
  obtain ⟨c2, h⟩ := f_n h
  refine va_ialdE (v := (σ0.1 204 (((σ0.1 214 ((x1 : Int32).toNatClampNeg)) : Int32).toNatClampNeg))) hx hb hK hP _ 0 (mg_204 G Z Y (sJ (sJ (sI (sI (sI (sI σ0 200 39 (1 : Int32)) 200 48 x1) 200 49 (σ0.1 200 41)) 200 50 (σ0.1 200 42)) 200 52 (σ0.2.1 200 43)) 200 53 (σ0.2.1 200 44))) rfl c2 dX12_keep_52 rfl ?_
  refine lv_istore_n (lv' := [(3, .int (σ0.1 204 (((σ0.1 214 ((x1 : Int32).toNatClampNeg)) : Int32).toNatClampNeg))), (0, .ref (G.2.1 200)), (1, .int x1), (2, .int x2)]) hx hb dX12_keep_53 rfl hl (by decide) rfl (fun ls hl => ?_)
  refine lv_aload_n hx hb dX12_keep_54 rfl (lv_at hl 1 rfl) ?_
  refine lv_aload_n hx hb dX12_keep_55 rfl (lv_at hl 1 rfl) ?_
  refine va_get (D := D) (ci := 12) (v := .int (σ0.1 200 41)) (C := RX12) (T := TX12) (N := 59) hx hb hts inU_X12 hown hK hP _ (mg_200 G Z Y (sJ (sJ (sI (sI (sI (sI σ0 200 39 (1 : Int32)) 200 48 x1) 200 49 (σ0.1 200 41)) 200 50 (σ0.1 200 42)) 200 52 (σ0.2.1 200 43)) 200 53 (σ0.2.1 200 44))) rfl 41 (by decide) (hts _ wd_1288) (fun _ h9 => h9) rfl dX12_keep_56 ?_
  refine lv_iconst (v := (-1)) hx hb dX12_keep_59 (by decide) ?_
  refine lv_icmp_ne (tgt := 67) hx hb dX12_keep_60 (by decide) (fun c3 => ?_) (fun c3 => ?_)
  · skip
    have h := f_f c3 h
    refine lv_iload_n hx hb dX12_keep_67 rfl (lv_at hl 0 rfl) ?_
    refine lv_aload_n hx hb dX12_keep_68 rfl (lv_at hl 1 rfl) ?_
    refine va_get (D := D) (ci := 12) (v := .int (σ0.1 200 41)) (C := RX12) (T := TX12) (N := 59) hx hb hts inU_X12 hown hK hP _ (mg_200 G Z Y (sJ (sJ (sI (sI (sI (sI σ0 200 39 (1 : Int32)) 200 48 x1) 200 49 (σ0.1 200 41)) 200 50 (σ0.1 200 42)) 200 52 (σ0.2.1 200 43)) 200 53 (σ0.2.1 200 44))) rfl 41 (by decide) (hts _ wd_1288) (fun _ h9 => h9) rfl dX12_keep_69 ?_
    refine lv_iconst (v := 1) hx hb dX12_keep_72 (by decide) ?_
    refine lv_iadd hx hb dX12_keep_73 ?_
    refine va_mmin hx hb (hml.trans hl.1.symm) hown (hts _ wd_1719) (hts _ wd_400) (hts _ wd_12) (hts _ wd_401) (Nat.le_of_ble_eq_true rfl) (Nat.le_of_ble_eq_true rfl) (Nat.zero_le _) (Nat.zero_le _) dX12_keep_74 ?_
    refine va_put (D := D) (ci := 12) (v := .int (if ((σ0.1 200 41) + (1 : Int32)) < (σ0.1 204 (((σ0.1 214 ((x1 : Int32).toNatClampNeg)) : Int32).toNatClampNeg)) then ((σ0.1 200 41) + (1 : Int32)) else (σ0.1 204 (((σ0.1 214 ((x1 : Int32).toNatClampNeg)) : Int32).toNatClampNeg)))) (ty := .int) (C := RX12) (T := TX12) (N := 59) hx hb hts inU_X12 tyX12 tyX12_ok nmX12 hown hK hP hD hS _ (mg_200 G Z Y (sJ (sJ (sI (sI (sI (sI σ0 200 39 (1 : Int32)) 200 48 x1) 200 49 (σ0.1 200 41)) 200 50 (σ0.1 200 42)) 200 52 (σ0.2.1 200 43)) 200 53 (σ0.2.1 200 44))) rfl 51 (by decide) (hts _ wd_1298) (fun _ h9 => h9) rfl (by decide +kernel) rfl rfl (Nat.le_of_ble_eq_true rfl) dX12_keep_77 (fun H locs hP hD hS => ?_)
    have hP := wrP (mp_200_51 G Z Y (sJ (sJ (sI (sI (sI (sI σ0 200 39 (1 : Int32)) 200 48 x1) 200 49 (σ0.1 200 41)) 200 50 (σ0.1 200 42)) 200 52 (σ0.2.1 200 43)) 200 53 (σ0.2.1 200 44)) (if ((σ0.1 200 41) + (1 : Int32)) < (σ0.1 204 (((σ0.1 214 ((x1 : Int32).toNatClampNeg)) : Int32).toNatClampNeg)) then ((σ0.1 200 41) + (1 : Int32)) else (σ0.1 204 (((σ0.1 214 ((x1 : Int32).toNatClampNeg)) : Int32).toNatClampNeg)))) hP
    have hD := wrD (mp_200_51 G Z Y (sJ (sJ (sI (sI (sI (sI σ0 200 39 (1 : Int32)) 200 48 x1) 200 49 (σ0.1 200 41)) 200 50 (σ0.1 200 42)) 200 52 (σ0.2.1 200 43)) 200 53 (σ0.2.1 200 44)) (if ((σ0.1 200 41) + (1 : Int32)) < (σ0.1 204 (((σ0.1 214 ((x1 : Int32).toNatClampNeg)) : Int32).toNatClampNeg)) then ((σ0.1 200 41) + (1 : Int32)) else (σ0.1 204 (((σ0.1 214 ((x1 : Int32).toNatClampNeg)) : Int32).toNatClampNeg)))) hD
    refine lv_iconst (v := 0) hx hb dX12_keep_80 (by decide) ?_
    refine lv_istore (lv' := [(4, .int (0 : Int32)), (3, .int (σ0.1 204 (((σ0.1 214 ((x1 : Int32).toNatClampNeg)) : Int32).toNatClampNeg))), (0, .ref (G.2.1 200)), (1, .int x1), (2, .int x2)]) hx hb dX12_keep_81 hl (by decide) rfl (fun ls hl => ?_)
    refine W_X12_keep_L83 l D G Z Y σ0 F x1 x2 x2 res C0 hA _ ?_ F (sI (sJ (sJ (sI (sI (sI (sI σ0 200 39 (1 : Int32)) 200 48 x1) 200 49 (σ0.1 200 41)) 200 50 (σ0.1 200 42)) 200 52 (σ0.2.1 200 43)) 200 53 (σ0.2.1 200 44)) 200 51 (if ((σ0.1 200 41) + (1 : Int32)) < (σ0.1 204 (((σ0.1 214 ((x1 : Int32).toNatClampNeg)) : Int32).toNatClampNeg)) then ((σ0.1 200 41) + (1 : Int32)) else (σ0.1 204 (((σ0.1 214 ((x1 : Int32).toNatClampNeg)) : Int32).toNatClampNeg)))) (0 : Int32) h _ _ _ hP hD hS (lv_sub hl [2, 4, 0] rfl)
    · intro σ1 h H locs ls hP hD hS hl
      refine lv_iconst (v := 0) hx hb dX12_keep_113 (by decide) ?_
      refine lv_istore (lv' := [(4, .int (0 : Int32)), (0, .ref (G.2.1 200)), (2, .int x2)]) hx hb dX12_keep_114 hl (by decide) rfl (fun ls hl => ?_)
      refine W_X12_keep_L116 l D G Z Y σ0 F x1 x2 x2 res C0 hA F σ1 (0 : Int32) h _ _ _ hP hD hS (lv_sub hl [1, 2, 0] rfl)
  · skip
    have h := f_t c3 h
    refine lv_iload_n hx hb dX12_keep_63 rfl (lv_at hl 0 rfl) ?_
    refine lv_goto (tgt := 77) hx hb dX12_keep_64 (by decide) ?_
    refine va_put (D := D) (ci := 12) (v := .int (σ0.1 204 (((σ0.1 214 ((x1 : Int32).toNatClampNeg)) : Int32).toNatClampNeg))) (ty := .int) (C := RX12) (T := TX12) (N := 59) hx hb hts inU_X12 tyX12 tyX12_ok nmX12 hown hK hP hD hS _ (mg_200 G Z Y (sJ (sJ (sI (sI (sI (sI σ0 200 39 (1 : Int32)) 200 48 x1) 200 49 (σ0.1 200 41)) 200 50 (σ0.1 200 42)) 200 52 (σ0.2.1 200 43)) 200 53 (σ0.2.1 200 44))) rfl 51 (by decide) (hts _ wd_1298) (fun _ h9 => h9) rfl (by decide +kernel) rfl rfl (Nat.le_of_ble_eq_true rfl) dX12_keep_77 (fun H locs hP hD hS => ?_)
    have hP := wrP (mp_200_51 G Z Y (sJ (sJ (sI (sI (sI (sI σ0 200 39 (1 : Int32)) 200 48 x1) 200 49 (σ0.1 200 41)) 200 50 (σ0.1 200 42)) 200 52 (σ0.2.1 200 43)) 200 53 (σ0.2.1 200 44)) (σ0.1 204 (((σ0.1 214 ((x1 : Int32).toNatClampNeg)) : Int32).toNatClampNeg))) hP
    have hD := wrD (mp_200_51 G Z Y (sJ (sJ (sI (sI (sI (sI σ0 200 39 (1 : Int32)) 200 48 x1) 200 49 (σ0.1 200 41)) 200 50 (σ0.1 200 42)) 200 52 (σ0.2.1 200 43)) 200 53 (σ0.2.1 200 44)) (σ0.1 204 (((σ0.1 214 ((x1 : Int32).toNatClampNeg)) : Int32).toNatClampNeg))) hD
    refine lv_iconst (v := 0) hx hb dX12_keep_80 (by decide) ?_
    refine lv_istore (lv' := [(4, .int (0 : Int32)), (3, .int (σ0.1 204 (((σ0.1 214 ((x1 : Int32).toNatClampNeg)) : Int32).toNatClampNeg))), (0, .ref (G.2.1 200)), (1, .int x1), (2, .int x2)]) hx hb dX12_keep_81 hl (by decide) rfl (fun ls hl => ?_)
    refine W_X12_keep_L83 l D G Z Y σ0 F x1 x2 x2 res C0 hA _ ?_ F (sI (sJ (sJ (sI (sI (sI (sI σ0 200 39 (1 : Int32)) 200 48 x1) 200 49 (σ0.1 200 41)) 200 50 (σ0.1 200 42)) 200 52 (σ0.2.1 200 43)) 200 53 (σ0.2.1 200 44)) 200 51 (σ0.1 204 (((σ0.1 214 ((x1 : Int32).toNatClampNeg)) : Int32).toNatClampNeg))) (0 : Int32) h _ _ _ hP hD hS (lv_sub hl [2, 4, 0] rfl)
    · intro σ1 h H locs ls hP hD hS hl
      refine lv_iconst (v := 0) hx hb dX12_keep_113 (by decide) ?_
      refine lv_istore (lv' := [(4, .int (0 : Int32)), (0, .ref (G.2.1 200)), (2, .int x2)]) hx hb dX12_keep_114 hl (by decide) rfl (fun ls hl => ?_)
      refine W_X12_keep_L116 l D G Z Y σ0 F x1 x2 x2 res C0 hA F σ1 (0 : Int32) h _ _ _ hP hD hS (lv_sub hl [1, 2, 0] rfl)
abbrev rm_X12_isAsked : Room := { frames := 1, cells := 0, slots := 0, locals := 25 }
set_option maxRecDepth 100000 in
set_option maxHeartbeats 8000000 in
theorem c_X12_isAsked (l : Launch) (D : va_G) (G : hG) (Z : hZ) (Y : va_W) (σ0 : hSt) (x1 : Int32) (x2 : Int32) (res : (Int32 × hSt)) (h : f_X12_isAsked Z σ0 x1 x2 = some res) : CT l yX12_isAsked cX12_isAsked 3 (some .boolean) rm_X12_isAsked D G 0 0 [.ref (G.2.1 200), .int x1, .int x2] (mW G Z Y σ0) (mW G Z Y res.2) (some (.int res.1)) := by
  unfold f_X12_isAsked at h
  refine CT.mk (cc := cX12_isAsked) (maxL := 3) (ret := (some .boolean)) (own := RX12) (plainFor_of_name (by decide)) rfl (Nat.le_of_ble_eq_true rfl) ?_
  intro p e s m args below meth c A ls C0 hnm hA hP hD hl
  obtain ⟨hx, hb, hr, hml, hown, hts, hlocks, hK, hE⟩ := id C0
  have hS : va_S A s.heap s.heap [] := va_S.rf
  have hl : lv_has ls 3 [(0, .ref (G.2.1 200)), (1, .int x1), (2, .int x2)] := hl
  refine lv_aload_n hx hb dX12_isAsked_0 rfl (lv_at hl 0 rfl) ?_
  refine lv_iconst (v := 0) hx hb dX12_isAsked_1 (by decide) ?_
  refine va_put (D := D) (ci := 12) (v := .int (0 : Int32)) (ty := .int) (C := RX12) (T := TX12) (N := 59) hx hb hts inU_X12 tyX12 tyX12_ok nmX12 hown hK hP hD hS _ (mg_200 G Z Y σ0) rfl 0 (by decide) (hts _ wd_1248) (fun _ h9 => h9) rfl (by decide +kernel) rfl rfl (Nat.le_of_ble_eq_true rfl) dX12_isAsked_2 (fun H locs hP hD hS => ?_)
  have hP := wrP (mp_200_0 G Z Y σ0 (0 : Int32)) hP
  have hD := wrD (mp_200_0 G Z Y σ0 (0 : Int32)) hD
  refine lv_aload_n hx hb dX12_isAsked_5 rfl (lv_at hl 0 rfl) ?_
  refine lv_iload_n hx hb dX12_isAsked_6 rfl (lv_at hl 1 rfl) ?_
  obtain ⟨q1, hq1, h⟩ := f_b h
  refine cl_V (w := (mW G Z Y (sI σ0 200 0 (0 : Int32)))) (w' := (mW G Z Y (sI σ0 200 0 (0 : Int32)))) (rv := some (.int q1)) (bytes := cX12_isTalk) (maxL := 2) (ret := (some .boolean)) (C := RX12) (As := [.int x1]) (rest := []) (stk := [.int q1]) ⟨hx, hb, hml, hown, hts⟩ hK hE hA hP hD hS (c_X12_isTalk l D G Z Y (sI σ0 200 0 (0 : Int32)) x1 q1 hq1) (cwV 1 hts (gwV wd_1652 wd_1654 wp_76 wd_11 wd_1655) rfl rfl rfl hd_X12_isTalk ⟨Nat.le_of_ble_eq_true rfl, Nat.le_of_ble_eq_true rfl⟩) (mg_200 G Z Y (sI σ0 200 0 (0 : Int32))) rfl rfl rfl hl.1 rfl (Nat.le_of_ble_eq_true rfl) dX12_isAsked_7 ⟨Nat.zero_le _, Nat.zero_le _⟩ rfl (fun H locs hP hD hS => ?_)
  refine lv_if_eq (tgt := 29) hx hb dX12_isAsked_10 (by decide) (fun c2 => ?_) (fun c2 => ?_)
  · skip
    have h := f_t c2 h
    refine lv_iconst (v := 0) hx hb dX12_isAsked_29 (by decide) ?_
    obtain rfl := Option.some.inj h
    exact W.zret (v := (0 : Int32)) hx hb hr rfl (q_end hK hP hD hS) hS.2.2 dX12_isAsked_30
  · skip
    have h := f_f c2 h
    refine lv_iload_n hx hb dX12_isAsked_13 rfl (lv_at hl 2 rfl) ?_
    refine lv_i2l (v := (x2 : Int32).toInt64) hx hb dX12_isAsked_14 rfl ?_
    refine lv_lconst (v := 0) hx hb dX12_isAsked_15 (by decide) ?_
    refine lv_ldc2 (v := 1000000) hx hb hown (hts _ wd_1656) dX12_isAsked_16 ?_
    obtain ⟨q3, hq3, h⟩ := f_b h
    refine cl_S (w := (mW G Z Y (sI σ0 200 0 (0 : Int32)))) (w' := (mW G Z Y (sI σ0 200 0 (0 : Int32)))) (rv := some (.int q3)) (bytes := cX12_isIn) (maxL := 6) (ret := (some .boolean)) (As := [.long (x2 : Int32).toInt64, .long (0 : Int64), .long (1000000 : Int64)]) (rest := []) (stk := [.int q3]) ⟨hx, hb, hml, hown, hts⟩ hK hE hA hP hD hS (c_X12_isIn l D G (mW G Z Y (sI σ0 200 0 (0 : Int32))) ((x2 : Int32).toInt64) (0 : Int64) (1000000 : Int64) q3 hq3) (mkS hts wd_1498 wd_1499 wd_11 wd_1500 rfl rfl hd_X12_isIn ⟨Nat.le_of_ble_eq_true rfl, Nat.le_of_ble_eq_true rfl⟩) rfl hl.1 rfl (Nat.le_of_ble_eq_true rfl) dX12_isAsked_19 ⟨Nat.zero_le _, Nat.zero_le _⟩ rfl (fun H locs hP hD hS => ?_)
    refine lv_if_eq (tgt := 29) hx hb dX12_isAsked_22 (by decide) (fun c4 => ?_) (fun c4 => ?_)
    · skip
      have h := f_t c4 h
      refine lv_iconst (v := 0) hx hb dX12_isAsked_29 (by decide) ?_
      obtain rfl := Option.some.inj h
      exact W.zret (v := (0 : Int32)) hx hb hr rfl (q_end hK hP hD hS) hS.2.2 dX12_isAsked_30
    · skip
      have h := f_f c4 h
      refine lv_iconst (v := 1) hx hb dX12_isAsked_25 (by decide) ?_
      refine lv_goto (tgt := 30) hx hb dX12_isAsked_26 (by decide) ?_
      obtain rfl := Option.some.inj h
      exact W.zret (v := (1 : Int32)) hx hb hr rfl (q_end hK hP hD hS) hS.2.2 dX12_isAsked_30
abbrev rm_X12_run : Room := { frames := 78, cells := 0, slots := 0, locals := 1941 }
set_option maxRecDepth 100000 in
set_option maxHeartbeats 8000000 in
theorem c_X12_run (l : Launch) (D : va_G) (G : hG) (Z : hZ) (Y : va_W) (σ0 : hSt) (F : Nat) (x1 : Int32) (x2 : Int64) (x4 : Int32) (res : (Int32 × hSt)) (h : f_X12_run F Z σ0 x1 x2 x4 = some res) : CT l yX12_run cX12_run 5 (some .int) rm_X12_run D G 0 0 [.ref (G.2.1 200), .int x1, .long x2, .int x4] (mW G Z Y σ0) (mW G Z Y res.2) (some (.int res.1)) := by
  unfold f_X12_run at h
  refine CT.mk (cc := cX12_run) (maxL := 5) (ret := (some .int)) (own := RX12) (plainFor_of_name (by decide)) rfl (Nat.le_of_ble_eq_true rfl) ?_
  intro p e s m args below meth c A ls C0 hnm hA hP hD hl
  obtain ⟨hx, hb, hr, hml, hown, hts, hlocks, hK, hE⟩ := id C0
  have hS : va_S A s.heap s.heap [] := va_S.rf
  have hl : lv_has ls 5 [(0, .ref (G.2.1 200)), (1, .int x1), (2, .long x2), (4, .int x4)] := hl
  refine lv_aload_n hx hb dX12_run_0 rfl (lv_at hl 0 rfl) ?_
  refine lv_iload_n hx hb dX12_run_1 rfl (lv_at hl 1 rfl) ?_
  refine lv_iload hx hb dX12_run_2 (lv_at hl 3 rfl) ?_
  obtain ⟨q1, hq1, h⟩ := f_b h
  refine cl_V (w := (mW G Z Y σ0)) (w' := (mW G Z Y q1.2)) (rv := some (.int q1.1)) (bytes := cX12_isAsked) (maxL := 3) (ret := (some .boolean)) (C := RX12) (As := [.int x1, .int x4]) (rest := []) (stk := [.int q1.1]) ⟨hx, hb, hml, hown, hts⟩ hK hE hA hP hD hS (c_X12_isAsked l D G Z Y σ0 x1 x4 q1 hq1) (cwV 2 hts (gwV wd_1648 wd_1650 wp_75 wd_11 wd_1651) rfl rfl rfl hd_X12_isAsked ⟨Nat.le_of_ble_eq_true rfl, Nat.le_of_ble_eq_true rfl⟩) (mg_200 G Z Y σ0) rfl rfl rfl hl.1 rfl (Nat.le_of_ble_eq_true rfl) dX12_run_4 ⟨Nat.zero_le _, Nat.zero_le _⟩ rfl (fun H locs hP hD hS => ?_)
  refine lv_if_eq (tgt := 27) hx hb dX12_run_7 (by decide) (fun c2 => ?_) (fun c2 => ?_)
  · skip
    have h := f_t c2 h
    refine lv_iconst (v := (-1)) hx hb dX12_run_27 (by decide) ?_
    obtain rfl := Option.some.inj h
    exact W.iret (v := (-1 : Int32)) hx hb hr (q_end hK hP hD hS) hS.2.2 dX12_run_28
  · skip
    have h := f_f c2 h
    refine lv_aload_n hx hb dX12_run_10 rfl (lv_at hl 0 rfl) ?_
    refine lv_iload_n hx hb dX12_run_11 rfl (lv_at hl 1 rfl) ?_
    refine lv_aload_n hx hb dX12_run_12 rfl (lv_at hl 0 rfl) ?_
    refine lv_iload_n hx hb dX12_run_13 rfl (lv_at hl 1 rfl) ?_
    refine lv_iconst (v := 0) hx hb dX12_run_14 (by decide) ?_
    refine lv_lload_n hx hb dX12_run_15 rfl (lv_at hl 2 rfl) ?_
    refine lv_iload hx hb dX12_run_16 (lv_at hl 3 rfl) ?_
    obtain ⟨q3, hq3, h⟩ := f_b h
    refine cl_V (w := (mW G Z Y q1.2)) (w' := (mW G Z Y q3.2)) (rv := some (.int q3.1)) (bytes := cX12_goes) (maxL := 9) (ret := (some .boolean)) (C := RX12) (As := [.int x1, .int (0 : Int32), .long x2, .int x4]) (rest := [.int x1, .ref (G.2.1 200)]) (stk := [.int q3.1, .int x1, .ref (G.2.1 200)]) ⟨hx, hb, hml, hown, hts⟩ hK hE hA hP hD hS (c_X12_goes l D G Z Y q1.2 F x1 (0 : Int32) x2 x4 q3 hq3) (cwV 4 hts (gwV wd_1657 wd_1659 wp_77 wd_11 wd_1660) rfl rfl rfl hd_X12_goes ⟨Nat.le_of_ble_eq_true rfl, Nat.le_of_ble_eq_true rfl⟩) (mg_200 G Z Y q1.2) rfl rfl rfl hl.1 rfl (Nat.le_of_ble_eq_true rfl) dX12_run_18 ⟨Nat.zero_le _, Nat.zero_le _⟩ rfl (fun H locs hP hD hS => ?_)
    obtain ⟨q4, hq4, h⟩ := f_b h
    refine cl_V (w := (mW G Z Y q3.2)) (w' := (mW G Z Y q4.2)) (rv := some (.int q4.1)) (bytes := cX12_keep) (maxL := 5) (ret := (some .int)) (C := RX12) (As := [.int x1, .int q3.1]) (rest := []) (stk := [.int q4.1]) ⟨hx, hb, hml, hown, hts⟩ hK hE hA hP hD hS (c_X12_keep l D G Z Y q3.2 F x1 q3.1 q4 hq4) (cwV 2 hts (gwV wd_1715 wd_1717 wp_91 wd_11 wd_1718) rfl rfl rfl hd_X12_keep ⟨Nat.le_of_ble_eq_true rfl, Nat.le_of_ble_eq_true rfl⟩) (mg_200 G Z Y q3.2) rfl rfl rfl hl.1 rfl (Nat.le_of_ble_eq_true rfl) dX12_run_21 ⟨Nat.zero_le _, Nat.zero_le _⟩ rfl (fun H locs hP hD hS => ?_)
    refine lv_goto (tgt := 28) hx hb dX12_run_24 (by decide) ?_
    obtain rfl := Option.some.inj h
    exact W.iret (v := q4.1) hx hb hr (q_end hK hP hD hS) hS.2.2 dX12_run_28
abbrev rm_X12_fixed : Room := { frames := 78, cells := 0, slots := 0, locals := 1941 }
set_option maxRecDepth 100000 in
set_option maxHeartbeats 8000000 in
theorem c_X12_fixed (l : Launch) (D : va_G) (G : hG) (Z : hZ) (Y : va_W) (σ0 : hSt) (F : Nat) (x1 : Int32) (x2 : Int32) (res : (Int32 × hSt)) (h : f_X12_fixed F Z σ0 x1 x2 = some res) : CT l yX12_fixed cX12_fixed 3 (some .int) rm_X12_fixed D G 0 0 [.ref (G.2.1 200), .int x1, .int x2] (mW G Z Y σ0) (mW G Z Y res.2) (some (.int res.1)) := by
  unfold f_X12_fixed at h
  refine CT.mk (cc := cX12_fixed) (maxL := 3) (ret := (some .int)) (own := RX12) (plainFor_of_name (by decide)) rfl (Nat.le_of_ble_eq_true rfl) ?_
  intro p e s m args below meth c A ls C0 hnm hA hP hD hl
  obtain ⟨hx, hb, hr, hml, hown, hts, hlocks, hK, hE⟩ := id C0
  have hS : va_S A s.heap s.heap [] := va_S.rf
  have hl : lv_has ls 3 [(0, .ref (G.2.1 200)), (1, .int x1), (2, .int x2)] := hl
  refine lv_aload_n hx hb dX12_fixed_0 rfl (lv_at hl 0 rfl) ?_
  refine lv_iload_n hx hb dX12_fixed_1 rfl (lv_at hl 1 rfl) ?_
  refine lv_iload_n hx hb dX12_fixed_2 rfl (lv_at hl 2 rfl) ?_
  obtain ⟨q1, hq1, h⟩ := f_b h
  refine cl_V (w := (mW G Z Y σ0)) (w' := (mW G Z Y q1.2)) (rv := some (.int q1.1)) (bytes := cX12_isAsked) (maxL := 3) (ret := (some .boolean)) (C := RX12) (As := [.int x1, .int x2]) (rest := []) (stk := [.int q1.1]) ⟨hx, hb, hml, hown, hts⟩ hK hE hA hP hD hS (c_X12_isAsked l D G Z Y σ0 x1 x2 q1 hq1) (cwV 2 hts (gwV wd_1648 wd_1650 wp_75 wd_11 wd_1651) rfl rfl rfl hd_X12_isAsked ⟨Nat.le_of_ble_eq_true rfl, Nat.le_of_ble_eq_true rfl⟩) (mg_200 G Z Y σ0) rfl rfl rfl hl.1 rfl (Nat.le_of_ble_eq_true rfl) dX12_fixed_3 ⟨Nat.zero_le _, Nat.zero_le _⟩ rfl (fun H locs hP hD hS => ?_)
  refine lv_if_eq (tgt := 25) hx hb dX12_fixed_6 (by decide) (fun c2 => ?_) (fun c2 => ?_)
  · skip
    have h := f_t c2 h
    refine lv_iconst (v := (-1)) hx hb dX12_fixed_25 (by decide) ?_
    obtain rfl := Option.some.inj h
    exact W.iret (v := (-1 : Int32)) hx hb hr (q_end hK hP hD hS) hS.2.2 dX12_fixed_26
  · skip
    have h := f_f c2 h
    refine lv_aload_n hx hb dX12_fixed_9 rfl (lv_at hl 0 rfl) ?_
    refine lv_iload_n hx hb dX12_fixed_10 rfl (lv_at hl 1 rfl) ?_
    refine lv_aload_n hx hb dX12_fixed_11 rfl (lv_at hl 0 rfl) ?_
    refine lv_iload_n hx hb dX12_fixed_12 rfl (lv_at hl 1 rfl) ?_
    refine lv_iconst (v := 1) hx hb dX12_fixed_13 (by decide) ?_
    refine lv_lconst (v := 0) hx hb dX12_fixed_14 (by decide) ?_
    refine lv_iload_n hx hb dX12_fixed_15 rfl (lv_at hl 2 rfl) ?_
    obtain ⟨q3, hq3, h⟩ := f_b h
    refine cl_V (w := (mW G Z Y q1.2)) (w' := (mW G Z Y q3.2)) (rv := some (.int q3.1)) (bytes := cX12_goes) (maxL := 9) (ret := (some .boolean)) (C := RX12) (As := [.int x1, .int (1 : Int32), .long (0 : Int64), .int x2]) (rest := [.int x1, .ref (G.2.1 200)]) (stk := [.int q3.1, .int x1, .ref (G.2.1 200)]) ⟨hx, hb, hml, hown, hts⟩ hK hE hA hP hD hS (c_X12_goes l D G Z Y q1.2 F x1 (1 : Int32) (0 : Int64) x2 q3 hq3) (cwV 4 hts (gwV wd_1657 wd_1659 wp_77 wd_11 wd_1660) rfl rfl rfl hd_X12_goes ⟨Nat.le_of_ble_eq_true rfl, Nat.le_of_ble_eq_true rfl⟩) (mg_200 G Z Y q1.2) rfl rfl rfl hl.1 rfl (Nat.le_of_ble_eq_true rfl) dX12_fixed_16 ⟨Nat.zero_le _, Nat.zero_le _⟩ rfl (fun H locs hP hD hS => ?_)
    obtain ⟨q4, hq4, h⟩ := f_b h
    refine cl_V (w := (mW G Z Y q3.2)) (w' := (mW G Z Y q4.2)) (rv := some (.int q4.1)) (bytes := cX12_keep) (maxL := 5) (ret := (some .int)) (C := RX12) (As := [.int x1, .int q3.1]) (rest := []) (stk := [.int q4.1]) ⟨hx, hb, hml, hown, hts⟩ hK hE hA hP hD hS (c_X12_keep l D G Z Y q3.2 F x1 q3.1 q4 hq4) (cwV 2 hts (gwV wd_1715 wd_1717 wp_91 wd_11 wd_1718) rfl rfl rfl hd_X12_keep ⟨Nat.le_of_ble_eq_true rfl, Nat.le_of_ble_eq_true rfl⟩) (mg_200 G Z Y q3.2) rfl rfl rfl hl.1 rfl (Nat.le_of_ble_eq_true rfl) dX12_fixed_19 ⟨Nat.zero_le _, Nat.zero_le _⟩ rfl (fun H locs hP hD hS => ?_)
    refine lv_goto (tgt := 26) hx hb dX12_fixed_22 (by decide) ?_
    obtain rfl := Option.some.inj h
    exact W.iret (v := q4.1) hx hb hr (q_end hK hP hD hS) hS.2.2 dX12_fixed_26
abbrev rm_X12_latest : Room := { frames := 0, cells := 0, slots := 0, locals := 0 }
set_option maxRecDepth 100000 in
set_option maxHeartbeats 8000000 in
theorem c_X12_latest (l : Launch) (D : va_G) (G : hG) (Z : hZ) (Y : va_W) (σ0 : hSt) (x1 : Int32) (res : (Int32 × hSt)) (h : f_X12_latest Z σ0 x1 = some res) : CT l yX12_latest cX12_latest 2 (some .int) rm_X12_latest D G 0 0 [.ref (G.2.1 200), .int x1] (mW G Z Y σ0) (mW G Z Y res.2) (some (.int res.1)) := by
  unfold f_X12_latest at h
  refine CT.mk (cc := cX12_latest) (maxL := 2) (ret := (some .int)) (own := RX12) (plainFor_of_name (by decide)) rfl (Nat.le_of_ble_eq_true rfl) ?_
  intro p e s m args below meth c A ls C0 hnm hA hP hD hl
  obtain ⟨hx, hb, hr, hml, hown, hts, hlocks, hK, hE⟩ := id C0
  have hS : va_S A s.heap s.heap [] := va_S.rf
  have hl : lv_has ls 2 [(0, .ref (G.2.1 200)), (1, .int x1)] := hl
  refine lv_aload_n hx hb dX12_latest_0 rfl (lv_at hl 0 rfl) ?_
  refine lv_iconst (v := 0) hx hb dX12_latest_1 (by decide) ?_
  refine va_put (D := D) (ci := 12) (v := .int (0 : Int32)) (ty := .int) (C := RX12) (T := TX12) (N := 59) hx hb hts inU_X12 tyX12 tyX12_ok nmX12 hown hK hP hD hS _ (mg_200 G Z Y σ0) rfl 0 (by decide) (hts _ wd_1248) (fun _ h9 => h9) rfl (by decide +kernel) rfl rfl (Nat.le_of_ble_eq_true rfl) dX12_latest_2 (fun H locs hP hD hS => ?_)
  have hP := wrP (mp_200_0 G Z Y σ0 (0 : Int32)) hP
  have hD := wrD (mp_200_0 G Z Y σ0 (0 : Int32)) hD
  refine lv_aload_n hx hb dX12_latest_5 rfl (lv_at hl 0 rfl) ?_
  refine va_get (D := D) (ci := 12) (v := .int (σ0.1 200 39)) (C := RX12) (T := TX12) (N := 59) hx hb hts inU_X12 hown hK hP _ (mg_200 G Z Y (sI σ0 200 0 (0 : Int32))) rfl 39 (by decide) (hts _ wd_1287) (fun _ h9 => h9) rfl dX12_latest_6 ?_
  refine lv_if_ne (tgt := 14) hx hb dX12_latest_9 (by decide) (fun c1 => ?_) (fun c1 => ?_)
  · skip
    have h := f_f c1 h
    refine lv_iload_n hx hb dX12_latest_14 rfl (lv_at hl 1 rfl) ?_
    by_cases c2 : x1 = 0
    · have h := f_t c2 h
      refine lv_tableIn (off := 29) (tgt := 44) hx hb dX12_latest_15 (by rw [c2]; decide) (by rw [c2]; decide) (by rw [c2]; rfl) (by decide) ?_
      refine lv_aload_n hx hb dX12_latest_44 rfl (lv_at hl 0 rfl) ?_
      refine va_get (D := D) (ci := 12) (v := .long (σ0.2.1 200 52)) (C := RX12) (T := TX12) (N := 59) hx hb hts inU_X12 hown hK hP _ (mg_200 G Z Y (sI σ0 200 0 (0 : Int32))) rfl 52 (by decide) (hts _ wd_1299) (fun _ h9 => h9) rfl dX12_latest_45 ?_
      refine lv_l2i (v := ((σ0.2.1 200 52) : Int64).toInt32) hx hb dX12_latest_48 rfl ?_
      obtain rfl := Option.some.inj h
      exact W.iret (v := ((σ0.2.1 200 52) : Int64).toInt32) hx hb hr (q_end hK hP hD hS) hS.2.2 dX12_latest_49
    have h := f_f c2 h
    by_cases c3 : x1 = 1
    · have h := f_t c3 h
      refine lv_tableIn (off := 35) (tgt := 50) hx hb dX12_latest_15 (by rw [c3]; decide) (by rw [c3]; decide) (by rw [c3]; rfl) (by decide) ?_
      refine lv_aload_n hx hb dX12_latest_50 rfl (lv_at hl 0 rfl) ?_
      refine va_get (D := D) (ci := 12) (v := .int (σ0.1 200 49)) (C := RX12) (T := TX12) (N := 59) hx hb hts inU_X12 hown hK hP _ (mg_200 G Z Y (sI σ0 200 0 (0 : Int32))) rfl 49 (by decide) (hts _ wd_1296) (fun _ h9 => h9) rfl dX12_latest_51 ?_
      obtain rfl := Option.some.inj h
      exact W.iret (v := (σ0.1 200 49)) hx hb hr (q_end hK hP hD hS) hS.2.2 dX12_latest_54
    have h := f_f c3 h
    by_cases c4 : x1 = 2
    · have h := f_t c4 h
      refine lv_tableIn (off := 40) (tgt := 55) hx hb dX12_latest_15 (by rw [c4]; decide) (by rw [c4]; decide) (by rw [c4]; rfl) (by decide) ?_
      refine lv_aload_n hx hb dX12_latest_55 rfl (lv_at hl 0 rfl) ?_
      refine va_get (D := D) (ci := 12) (v := .long (σ0.2.1 200 53)) (C := RX12) (T := TX12) (N := 59) hx hb hts inU_X12 hown hK hP _ (mg_200 G Z Y (sI σ0 200 0 (0 : Int32))) rfl 53 (by decide) (hts _ wd_1300) (fun _ h9 => h9) rfl dX12_latest_56 ?_
      refine lv_l2i (v := ((σ0.2.1 200 53) : Int64).toInt32) hx hb dX12_latest_59 rfl ?_
      obtain rfl := Option.some.inj h
      exact W.iret (v := ((σ0.2.1 200 53) : Int64).toInt32) hx hb hr (q_end hK hP hD hS) hS.2.2 dX12_latest_60
    have h := f_f c4 h
    by_cases c5 : x1 = 3
    · have h := f_t c5 h
      refine lv_tableIn (off := 46) (tgt := 61) hx hb dX12_latest_15 (by rw [c5]; decide) (by rw [c5]; decide) (by rw [c5]; rfl) (by decide) ?_
      refine lv_aload_n hx hb dX12_latest_61 rfl (lv_at hl 0 rfl) ?_
      refine va_get (D := D) (ci := 12) (v := .int (σ0.1 200 50)) (C := RX12) (T := TX12) (N := 59) hx hb hts inU_X12 hown hK hP _ (mg_200 G Z Y (sI σ0 200 0 (0 : Int32))) rfl 50 (by decide) (hts _ wd_1297) (fun _ h9 => h9) rfl dX12_latest_62 ?_
      obtain rfl := Option.some.inj h
      exact W.iret (v := (σ0.1 200 50)) hx hb hr (q_end hK hP hD hS) hS.2.2 dX12_latest_65
    have h := f_f c5 h
    have hne0 := i32ne (z := 0) (by decide) c2
    have hne1 := i32ne (z := 1) (by decide) c3
    have hne2 := i32ne (z := 2) (by decide) c4
    have hne3 := i32ne (z := 3) (by decide) c5
    refine lv_tableOut (tgt := 66) hx hb dX12_latest_15 (by omega) (by decide) ?_
    refine lv_iconst (v := (-1)) hx hb dX12_latest_66 (by decide) ?_
    obtain rfl := Option.some.inj h
    exact W.iret (v := (-1 : Int32)) hx hb hr (q_end hK hP hD hS) hS.2.2 dX12_latest_67
  · skip
    have h := f_t c1 h
    refine lv_iconst (v := (-1)) hx hb dX12_latest_12 (by decide) ?_
    obtain rfl := Option.some.inj h
    exact W.iret (v := (-1 : Int32)) hx hb hr (q_end hK hP hD hS) hS.2.2 dX12_latest_13
abbrev rm_X12_value : Room := { frames := 1, cells := 0, slots := 0, locals := 30 }
set_option maxRecDepth 100000 in
set_option maxHeartbeats 8000000 in
theorem c_X12_value (l : Launch) (D : va_G) (G : hG) (Z : hZ) (Y : va_W) (σ0 : hSt) (x1 : Int32) (x2 : Int32) (res : (Int32 × hSt)) (h : f_X12_value Z σ0 x1 x2 = some res) : CT l yX12_value cX12_value 3 (some .int) rm_X12_value D G 0 0 [.ref (G.2.1 200), .int x1, .int x2] (mW G Z Y σ0) (mW G Z Y res.2) (some (.int res.1)) := by
  unfold f_X12_value at h
  refine CT.mk (cc := cX12_value) (maxL := 3) (ret := (some .int)) (own := RX12) (plainFor_of_name (by decide)) rfl (Nat.le_of_ble_eq_true rfl) ?_
  intro p e s m args below meth c A ls C0 hnm hA hP hD hl
  obtain ⟨hx, hb, hr, hml, hown, hts, hlocks, hK, hE⟩ := id C0
  have hS : va_S A s.heap s.heap [] := va_S.rf
  have hl : lv_has ls 3 [(0, .ref (G.2.1 200)), (1, .int x1), (2, .int x2)] := hl
  refine lv_aload_n hx hb dX12_value_0 rfl (lv_at hl 0 rfl) ?_
  refine lv_aload_n hx hb dX12_value_1 rfl (lv_at hl 0 rfl) ?_
  refine va_get (D := D) (ci := 12) (v := .int (σ0.1 200 39)) (C := RX12) (T := TX12) (N := 59) hx hb hts inU_X12 hown hK hP _ (mg_200 G Z Y σ0) rfl 39 (by decide) (hts _ wd_1287) (fun _ h9 => h9) rfl dX12_value_2 ?_
  refine lv_if_eq (tgt := 65) hx hb dX12_value_5 (by decide) (fun c1 => ?_) (fun c1 => ?_)
  · skip
    have h := f_t c1 h
    refine lv_iconst (v := 1) hx hb dX12_value_65 (by decide) ?_
    refine va_put (D := D) (ci := 12) (v := .int (1 : Int32)) (ty := .int) (C := RX12) (T := TX12) (N := 59) hx hb hts inU_X12 tyX12 tyX12_ok nmX12 hown hK hP hD hS _ (mg_200 G Z Y σ0) rfl 0 (by decide) (hts _ wd_1248) (fun _ h9 => h9) rfl (by decide +kernel) rfl rfl (Nat.le_of_ble_eq_true rfl) dX12_value_66 (fun H locs hP hD hS => ?_)
    have hP := wrP (mp_200_0 G Z Y σ0 (1 : Int32)) hP
    have hD := wrD (mp_200_0 G Z Y σ0 (1 : Int32)) hD
    refine lv_aload_n hx hb dX12_value_69 rfl (lv_at hl 0 rfl) ?_
    refine va_get (D := D) (ci := 12) (v := .int (1 : Int32)) (C := RX12) (T := TX12) (N := 59) hx hb hts inU_X12 hown hK hP _ (mg_200 G Z Y (sI σ0 200 0 (1 : Int32))) rfl 0 (by decide) (hts _ wd_1248) (fun _ h9 => h9) rfl dX12_value_70 ?_
    refine lv_if_le (tgt := 80) hx hb dX12_value_73 (by decide) (fun c2 => ?_) (fun c2 => ?_)
    · skip
      have h := f_t c2 h
      refine lv_aload_n hx hb dX12_value_80 rfl (lv_at hl 0 rfl) ?_
      refine va_get (D := D) (ci := 12) (v := .ref (G.2.1 220)) (C := RX12) (T := TX12) (N := 59) hx hb hts inU_X12 hown hK hP _ (mg_200 G Z Y (sI σ0 200 0 (1 : Int32))) rfl 46 (by decide) (hts _ wd_1293) (fun _ h9 => h9) rfl dX12_value_81 ?_
      refine lv_sipush (v := 201) hx hb dX12_value_84 (by decide) ?_
      refine lv_iload_n hx hb dX12_value_87 rfl (lv_at hl 1 rfl) ?_
      refine lv_imul hx hb dX12_value_88 ?_
      refine lv_iload_n hx hb dX12_value_89 rfl (lv_at hl 2 rfl) ?_
      refine lv_iadd hx hb dX12_value_90 ?_
      obtain ⟨c3, h⟩ := f_n h
      refine va_laldE (v := (σ0.2.1 220 (((((201 : Int32) * x1) + x2) : Int32).toNatClampNeg))) hx hb hK hP _ 1 (mg_220 G Z Y (sI σ0 200 0 (1 : Int32))) rfl c3 dX12_value_91 rfl ?_
      refine lv_l2i (v := ((σ0.2.1 220 (((((201 : Int32) * x1) + x2) : Int32).toNatClampNeg)) : Int64).toInt32) hx hb dX12_value_92 rfl ?_
      obtain rfl := Option.some.inj h
      exact W.iret (v := ((σ0.2.1 220 (((((201 : Int32) * x1) + x2) : Int32).toNatClampNeg)) : Int64).toInt32) hx hb hr (q_end hK hP hD hS) hS.2.2 dX12_value_93
    · skip
      have h := f_f c2 h
      refine lv_iconst (v := 0) hx hb dX12_value_76 (by decide) ?_
      refine lv_goto (tgt := 93) hx hb dX12_value_77 (by decide) ?_
      obtain rfl := Option.some.inj h
      exact W.iret (v := (0 : Int32)) hx hb hr (q_end hK hP hD hS) hS.2.2 dX12_value_93
  · skip
    have h := f_f c1 h
    refine lv_iload_n hx hb dX12_value_8 rfl (lv_at hl 1 rfl) ?_
    refine lv_i2l (v := (x1 : Int32).toInt64) hx hb dX12_value_9 rfl ?_
    refine lv_lconst (v := 0) hx hb dX12_value_10 (by decide) ?_
    refine lv_aload_n hx hb dX12_value_11 rfl (lv_at hl 0 rfl) ?_
    refine va_get (D := D) (ci := 12) (v := .int (σ0.1 200 51)) (C := RX12) (T := TX12) (N := 59) hx hb hts inU_X12 hown hK hP _ (mg_200 G Z Y σ0) rfl 51 (by decide) (hts _ wd_1298) (fun _ h9 => h9) rfl dX12_value_12 ?_
    refine lv_iconst (v := 1) hx hb dX12_value_15 (by decide) ?_
    refine lv_isub hx hb dX12_value_16 ?_
    refine lv_i2l (v := (((σ0.1 200 51) - (1 : Int32)) : Int32).toInt64) hx hb dX12_value_17 rfl ?_
    obtain ⟨q4, hq4, h⟩ := f_b h
    refine cl_S (w := (mW G Z Y σ0)) (w' := (mW G Z Y σ0)) (rv := some (.int q4)) (bytes := cX12_isIn) (maxL := 6) (ret := (some .boolean)) (As := [.long (x1 : Int32).toInt64, .long (0 : Int64), .long (((σ0.1 200 51) - (1 : Int32)) : Int32).toInt64]) (rest := [.ref (G.2.1 200)]) (stk := [.int q4, .ref (G.2.1 200)]) ⟨hx, hb, hml, hown, hts⟩ hK hE hA hP hD hS (c_X12_isIn l D G (mW G Z Y σ0) ((x1 : Int32).toInt64) (0 : Int64) ((((σ0.1 200 51) - (1 : Int32)) : Int32).toInt64) q4 hq4) (mkS hts wd_1498 wd_1499 wd_11 wd_1500 rfl rfl hd_X12_isIn ⟨Nat.le_of_ble_eq_true rfl, Nat.le_of_ble_eq_true rfl⟩) rfl hl.1 rfl (Nat.le_of_ble_eq_true rfl) dX12_value_18 ⟨Nat.zero_le _, Nat.zero_le _⟩ rfl (fun H locs hP hD hS => ?_)
    refine lv_if_eq (tgt := 65) hx hb dX12_value_21 (by decide) (fun c5 => ?_) (fun c5 => ?_)
    · skip
      have h := f_t c5 h
      refine lv_iconst (v := 1) hx hb dX12_value_65 (by decide) ?_
      refine va_put (D := D) (ci := 12) (v := .int (1 : Int32)) (ty := .int) (C := RX12) (T := TX12) (N := 59) hx hb hts inU_X12 tyX12 tyX12_ok nmX12 hown hK hP hD hS _ (mg_200 G Z Y σ0) rfl 0 (by decide) (hts _ wd_1248) (fun _ h9 => h9) rfl (by decide +kernel) rfl rfl (Nat.le_of_ble_eq_true rfl) dX12_value_66 (fun H locs hP hD hS => ?_)
      have hP := wrP (mp_200_0 G Z Y σ0 (1 : Int32)) hP
      have hD := wrD (mp_200_0 G Z Y σ0 (1 : Int32)) hD
      refine lv_aload_n hx hb dX12_value_69 rfl (lv_at hl 0 rfl) ?_
      refine va_get (D := D) (ci := 12) (v := .int (1 : Int32)) (C := RX12) (T := TX12) (N := 59) hx hb hts inU_X12 hown hK hP _ (mg_200 G Z Y (sI σ0 200 0 (1 : Int32))) rfl 0 (by decide) (hts _ wd_1248) (fun _ h9 => h9) rfl dX12_value_70 ?_
      refine lv_if_le (tgt := 80) hx hb dX12_value_73 (by decide) (fun c6 => ?_) (fun c6 => ?_)
      · skip
        have h := f_t c6 h
        refine lv_aload_n hx hb dX12_value_80 rfl (lv_at hl 0 rfl) ?_
        refine va_get (D := D) (ci := 12) (v := .ref (G.2.1 220)) (C := RX12) (T := TX12) (N := 59) hx hb hts inU_X12 hown hK hP _ (mg_200 G Z Y (sI σ0 200 0 (1 : Int32))) rfl 46 (by decide) (hts _ wd_1293) (fun _ h9 => h9) rfl dX12_value_81 ?_
        refine lv_sipush (v := 201) hx hb dX12_value_84 (by decide) ?_
        refine lv_iload_n hx hb dX12_value_87 rfl (lv_at hl 1 rfl) ?_
        refine lv_imul hx hb dX12_value_88 ?_
        refine lv_iload_n hx hb dX12_value_89 rfl (lv_at hl 2 rfl) ?_
        refine lv_iadd hx hb dX12_value_90 ?_
        obtain ⟨c7, h⟩ := f_n h
        refine va_laldE (v := (σ0.2.1 220 (((((201 : Int32) * x1) + x2) : Int32).toNatClampNeg))) hx hb hK hP _ 1 (mg_220 G Z Y (sI σ0 200 0 (1 : Int32))) rfl c7 dX12_value_91 rfl ?_
        refine lv_l2i (v := ((σ0.2.1 220 (((((201 : Int32) * x1) + x2) : Int32).toNatClampNeg)) : Int64).toInt32) hx hb dX12_value_92 rfl ?_
        obtain rfl := Option.some.inj h
        exact W.iret (v := ((σ0.2.1 220 (((((201 : Int32) * x1) + x2) : Int32).toNatClampNeg)) : Int64).toInt32) hx hb hr (q_end hK hP hD hS) hS.2.2 dX12_value_93
      · skip
        have h := f_f c6 h
        refine lv_iconst (v := 0) hx hb dX12_value_76 (by decide) ?_
        refine lv_goto (tgt := 93) hx hb dX12_value_77 (by decide) ?_
        obtain rfl := Option.some.inj h
        exact W.iret (v := (0 : Int32)) hx hb hr (q_end hK hP hD hS) hS.2.2 dX12_value_93
    · skip
      have h := f_f c5 h
      refine lv_iload_n hx hb dX12_value_24 rfl (lv_at hl 2 rfl) ?_
      refine lv_i2l (v := (x2 : Int32).toInt64) hx hb dX12_value_25 rfl ?_
      refine lv_lconst (v := 0) hx hb dX12_value_26 (by decide) ?_
      refine lv_aload_n hx hb dX12_value_27 rfl (lv_at hl 0 rfl) ?_
      refine va_get (D := D) (ci := 12) (v := .ref (G.2.1 205)) (C := RX12) (T := TX12) (N := 59) hx hb hts inU_X12 hown hK hP _ (mg_200 G Z Y σ0) rfl 13 (by decide) (hts _ wd_1261) (fun _ h9 => h9) rfl dX12_value_28 ?_
      refine lv_bipush (v := 6) hx hb dX12_value_31 (by decide) ?_
      refine lv_aload_n hx hb dX12_value_33 rfl (lv_at hl 0 rfl) ?_
      refine va_get (D := D) (ci := 12) (v := .ref (G.2.1 214)) (C := RX12) (T := TX12) (N := 59) hx hb hts inU_X12 hown hK hP _ (mg_200 G Z Y σ0) rfl 32 (by decide) (hts _ wd_1280) (fun _ h9 => h9) rfl dX12_value_34 ?_
      refine lv_aload_n hx hb dX12_value_37 rfl (lv_at hl 0 rfl) ?_
      refine va_get (D := D) (ci := 12) (v := .int (σ0.1 200 48)) (C := RX12) (T := TX12) (N := 59) hx hb hts inU_X12 hown hK hP _ (mg_200 G Z Y σ0) rfl 48 (by decide) (hts _ wd_1295) (fun _ h9 => h9) rfl dX12_value_38 ?_
      obtain ⟨c8, h⟩ := f_n h
      refine va_ialdE (v := (σ0.1 214 (((σ0.1 200 48) : Int32).toNatClampNeg))) hx hb hK hP _ 0 (mg_214 G Z Y σ0) rfl c8 dX12_value_41 rfl ?_
      refine lv_imul hx hb dX12_value_42 ?_
      refine lv_iconst (v := 0) hx hb dX12_value_43 (by decide) ?_
      refine lv_iload_n hx hb dX12_value_44 rfl (lv_at hl 1 rfl) ?_
      refine lv_iconst (v := 5) hx hb dX12_value_45 (by decide) ?_
      refine va_mmin hx hb (hml.trans hl.1.symm) hown (hts _ wd_1719) (hts _ wd_400) (hts _ wd_12) (hts _ wd_401) (Nat.le_of_ble_eq_true rfl) (Nat.le_of_ble_eq_true rfl) (Nat.zero_le _) (Nat.zero_le _) dX12_value_46 ?_
      refine va_mmax hx hb (hml.trans hl.1.symm) hown (hts _ wd_1476) (hts _ wd_328) (hts _ wd_12) (hts _ wd_329) (Nat.le_of_ble_eq_true rfl) (Nat.le_of_ble_eq_true rfl) (Nat.zero_le _) (Nat.zero_le _) dX12_value_49 ?_
      refine lv_iadd hx hb dX12_value_52 ?_
      obtain ⟨c9, h⟩ := f_n h
      refine va_ialdE (v := (σ0.1 205 (((((6 : Int32) * (σ0.1 214 (((σ0.1 200 48) : Int32).toNatClampNeg))) + (if (0 : Int32) < (if (5 : Int32) < x1 then (5 : Int32) else x1) then (if (5 : Int32) < x1 then (5 : Int32) else x1) else (0 : Int32))) : Int32).toNatClampNeg))) hx hb hK hP _ 0 (mg_205 G Z Y σ0) rfl c9 dX12_value_53 rfl ?_
      refine lv_i2l (v := ((σ0.1 205 (((((6 : Int32) * (σ0.1 214 (((σ0.1 200 48) : Int32).toNatClampNeg))) + (if (0 : Int32) < (if (5 : Int32) < x1 then (5 : Int32) else x1) then (if (5 : Int32) < x1 then (5 : Int32) else x1) else (0 : Int32))) : Int32).toNatClampNeg)) : Int32).toInt64) hx hb dX12_value_54 rfl ?_
      obtain ⟨q10, hq10, h⟩ := f_b h
      refine cl_S (w := (mW G Z Y σ0)) (w' := (mW G Z Y σ0)) (rv := some (.int q10)) (bytes := cX12_isIn) (maxL := 6) (ret := (some .boolean)) (As := [.long (x2 : Int32).toInt64, .long (0 : Int64), .long ((σ0.1 205 (((((6 : Int32) * (σ0.1 214 (((σ0.1 200 48) : Int32).toNatClampNeg))) + (if (0 : Int32) < (if (5 : Int32) < x1 then (5 : Int32) else x1) then (if (5 : Int32) < x1 then (5 : Int32) else x1) else (0 : Int32))) : Int32).toNatClampNeg)) : Int32).toInt64]) (rest := [.ref (G.2.1 200)]) (stk := [.int q10, .ref (G.2.1 200)]) ⟨hx, hb, hml, hown, hts⟩ hK hE hA hP hD hS (c_X12_isIn l D G (mW G Z Y σ0) ((x2 : Int32).toInt64) (0 : Int64) (((σ0.1 205 (((((6 : Int32) * (σ0.1 214 (((σ0.1 200 48) : Int32).toNatClampNeg))) + (if (0 : Int32) < (if (5 : Int32) < x1 then (5 : Int32) else x1) then (if (5 : Int32) < x1 then (5 : Int32) else x1) else (0 : Int32))) : Int32).toNatClampNeg)) : Int32).toInt64) q10 hq10) (mkS hts wd_1498 wd_1499 wd_11 wd_1500 rfl rfl hd_X12_isIn ⟨Nat.le_of_ble_eq_true rfl, Nat.le_of_ble_eq_true rfl⟩) rfl hl.1 rfl (Nat.le_of_ble_eq_true rfl) dX12_value_55 ⟨Nat.zero_le _, Nat.zero_le _⟩ rfl (fun H locs hP hD hS => ?_)
      refine lv_if_eq (tgt := 65) hx hb dX12_value_58 (by decide) (fun c11 => ?_) (fun c11 => ?_)
      · skip
        have h := f_t c11 h
        refine lv_iconst (v := 1) hx hb dX12_value_65 (by decide) ?_
        refine va_put (D := D) (ci := 12) (v := .int (1 : Int32)) (ty := .int) (C := RX12) (T := TX12) (N := 59) hx hb hts inU_X12 tyX12 tyX12_ok nmX12 hown hK hP hD hS _ (mg_200 G Z Y σ0) rfl 0 (by decide) (hts _ wd_1248) (fun _ h9 => h9) rfl (by decide +kernel) rfl rfl (Nat.le_of_ble_eq_true rfl) dX12_value_66 (fun H locs hP hD hS => ?_)
        have hP := wrP (mp_200_0 G Z Y σ0 (1 : Int32)) hP
        have hD := wrD (mp_200_0 G Z Y σ0 (1 : Int32)) hD
        refine lv_aload_n hx hb dX12_value_69 rfl (lv_at hl 0 rfl) ?_
        refine va_get (D := D) (ci := 12) (v := .int (1 : Int32)) (C := RX12) (T := TX12) (N := 59) hx hb hts inU_X12 hown hK hP _ (mg_200 G Z Y (sI σ0 200 0 (1 : Int32))) rfl 0 (by decide) (hts _ wd_1248) (fun _ h9 => h9) rfl dX12_value_70 ?_
        refine lv_if_le (tgt := 80) hx hb dX12_value_73 (by decide) (fun c12 => ?_) (fun c12 => ?_)
        · skip
          have h := f_t c12 h
          refine lv_aload_n hx hb dX12_value_80 rfl (lv_at hl 0 rfl) ?_
          refine va_get (D := D) (ci := 12) (v := .ref (G.2.1 220)) (C := RX12) (T := TX12) (N := 59) hx hb hts inU_X12 hown hK hP _ (mg_200 G Z Y (sI σ0 200 0 (1 : Int32))) rfl 46 (by decide) (hts _ wd_1293) (fun _ h9 => h9) rfl dX12_value_81 ?_
          refine lv_sipush (v := 201) hx hb dX12_value_84 (by decide) ?_
          refine lv_iload_n hx hb dX12_value_87 rfl (lv_at hl 1 rfl) ?_
          refine lv_imul hx hb dX12_value_88 ?_
          refine lv_iload_n hx hb dX12_value_89 rfl (lv_at hl 2 rfl) ?_
          refine lv_iadd hx hb dX12_value_90 ?_
          obtain ⟨c13, h⟩ := f_n h
          refine va_laldE (v := (σ0.2.1 220 (((((201 : Int32) * x1) + x2) : Int32).toNatClampNeg))) hx hb hK hP _ 1 (mg_220 G Z Y (sI σ0 200 0 (1 : Int32))) rfl c13 dX12_value_91 rfl ?_
          refine lv_l2i (v := ((σ0.2.1 220 (((((201 : Int32) * x1) + x2) : Int32).toNatClampNeg)) : Int64).toInt32) hx hb dX12_value_92 rfl ?_
          obtain rfl := Option.some.inj h
          exact W.iret (v := ((σ0.2.1 220 (((((201 : Int32) * x1) + x2) : Int32).toNatClampNeg)) : Int64).toInt32) hx hb hr (q_end hK hP hD hS) hS.2.2 dX12_value_93
        · skip
          have h := f_f c12 h
          refine lv_iconst (v := 0) hx hb dX12_value_76 (by decide) ?_
          refine lv_goto (tgt := 93) hx hb dX12_value_77 (by decide) ?_
          obtain rfl := Option.some.inj h
          exact W.iret (v := (0 : Int32)) hx hb hr (q_end hK hP hD hS) hS.2.2 dX12_value_93
      · skip
        have h := f_f c11 h
        refine lv_iconst (v := 0) hx hb dX12_value_61 (by decide) ?_
        refine lv_goto (tgt := 66) hx hb dX12_value_62 (by decide) ?_
        refine va_put (D := D) (ci := 12) (v := .int (0 : Int32)) (ty := .int) (C := RX12) (T := TX12) (N := 59) hx hb hts inU_X12 tyX12 tyX12_ok nmX12 hown hK hP hD hS _ (mg_200 G Z Y σ0) rfl 0 (by decide) (hts _ wd_1248) (fun _ h9 => h9) rfl (by decide +kernel) rfl rfl (Nat.le_of_ble_eq_true rfl) dX12_value_66 (fun H locs hP hD hS => ?_)
        have hP := wrP (mp_200_0 G Z Y σ0 (0 : Int32)) hP
        have hD := wrD (mp_200_0 G Z Y σ0 (0 : Int32)) hD
        refine lv_aload_n hx hb dX12_value_69 rfl (lv_at hl 0 rfl) ?_
        refine va_get (D := D) (ci := 12) (v := .int (0 : Int32)) (C := RX12) (T := TX12) (N := 59) hx hb hts inU_X12 hown hK hP _ (mg_200 G Z Y (sI σ0 200 0 (0 : Int32))) rfl 0 (by decide) (hts _ wd_1248) (fun _ h9 => h9) rfl dX12_value_70 ?_
        refine lv_if_le (tgt := 80) hx hb dX12_value_73 (by decide) (fun c14 => ?_) (fun c14 => ?_)
        · skip
          have h := f_t c14 h
          refine lv_aload_n hx hb dX12_value_80 rfl (lv_at hl 0 rfl) ?_
          refine va_get (D := D) (ci := 12) (v := .ref (G.2.1 220)) (C := RX12) (T := TX12) (N := 59) hx hb hts inU_X12 hown hK hP _ (mg_200 G Z Y (sI σ0 200 0 (0 : Int32))) rfl 46 (by decide) (hts _ wd_1293) (fun _ h9 => h9) rfl dX12_value_81 ?_
          refine lv_sipush (v := 201) hx hb dX12_value_84 (by decide) ?_
          refine lv_iload_n hx hb dX12_value_87 rfl (lv_at hl 1 rfl) ?_
          refine lv_imul hx hb dX12_value_88 ?_
          refine lv_iload_n hx hb dX12_value_89 rfl (lv_at hl 2 rfl) ?_
          refine lv_iadd hx hb dX12_value_90 ?_
          obtain ⟨c15, h⟩ := f_n h
          refine va_laldE (v := (σ0.2.1 220 (((((201 : Int32) * x1) + x2) : Int32).toNatClampNeg))) hx hb hK hP _ 1 (mg_220 G Z Y (sI σ0 200 0 (0 : Int32))) rfl c15 dX12_value_91 rfl ?_
          refine lv_l2i (v := ((σ0.2.1 220 (((((201 : Int32) * x1) + x2) : Int32).toNatClampNeg)) : Int64).toInt32) hx hb dX12_value_92 rfl ?_
          obtain rfl := Option.some.inj h
          exact W.iret (v := ((σ0.2.1 220 (((((201 : Int32) * x1) + x2) : Int32).toNatClampNeg)) : Int64).toInt32) hx hb hr (q_end hK hP hD hS) hS.2.2 dX12_value_93
        · skip
          have h := f_f c14 h
          refine lv_iconst (v := 0) hx hb dX12_value_76 (by decide) ?_
          refine lv_goto (tgt := 93) hx hb dX12_value_77 (by decide) ?_
          obtain rfl := Option.some.inj h
          exact W.iret (v := (0 : Int32)) hx hb hr (q_end hK hP hD hS) hS.2.2 dX12_value_93
abbrev rm_X12_draw : Room := { frames := 1, cells := 0, slots := 0, locals := 25 }
set_option maxRecDepth 100000 in
set_option maxHeartbeats 8000000 in
theorem c_X12_draw (l : Launch) (D : va_G) (G : hG) (Z : hZ) (Y : va_W) (σ0 : hSt) (x1 : Int32) (res : (Int32 × hSt)) (h : f_X12_draw Z σ0 x1 = some res) : CT l yX12_draw cX12_draw 2 (some .int) rm_X12_draw D G 0 0 [.ref (G.2.1 200), .int x1] (mW G Z Y σ0) (mW G Z Y res.2) (some (.int res.1)) := by
  unfold f_X12_draw at h
  refine CT.mk (cc := cX12_draw) (maxL := 2) (ret := (some .int)) (own := RX12) (plainFor_of_name (by decide)) rfl (Nat.le_of_ble_eq_true rfl) ?_
  intro p e s m args below meth c A ls C0 hnm hA hP hD hl
  obtain ⟨hx, hb, hr, hml, hown, hts, hlocks, hK, hE⟩ := id C0
  have hS : va_S A s.heap s.heap [] := va_S.rf
  have hl : lv_has ls 2 [(0, .ref (G.2.1 200)), (1, .int x1)] := hl
  refine lv_aload_n hx hb dX12_draw_0 rfl (lv_at hl 0 rfl) ?_
  refine lv_iconst (v := 0) hx hb dX12_draw_1 (by decide) ?_
  refine va_put (D := D) (ci := 12) (v := .int (0 : Int32)) (ty := .int) (C := RX12) (T := TX12) (N := 59) hx hb hts inU_X12 tyX12 tyX12_ok nmX12 hown hK hP hD hS _ (mg_200 G Z Y σ0) rfl 0 (by decide) (hts _ wd_1248) (fun _ h9 => h9) rfl (by decide +kernel) rfl rfl (Nat.le_of_ble_eq_true rfl) dX12_draw_2 (fun H locs hP hD hS => ?_)
  have hP := wrP (mp_200_0 G Z Y σ0 (0 : Int32)) hP
  have hD := wrD (mp_200_0 G Z Y σ0 (0 : Int32)) hD
  refine lv_aload_n hx hb dX12_draw_5 rfl (lv_at hl 0 rfl) ?_
  refine va_get (D := D) (ci := 12) (v := .int (σ0.1 200 39)) (C := RX12) (T := TX12) (N := 59) hx hb hts inU_X12 hown hK hP _ (mg_200 G Z Y (sI σ0 200 0 (0 : Int32))) rfl 39 (by decide) (hts _ wd_1287) (fun _ h9 => h9) rfl dX12_draw_6 ?_
  refine lv_if_eq (tgt := 38) hx hb dX12_draw_9 (by decide) (fun c1 => ?_) (fun c1 => ?_)
  · skip
    have h := f_t c1 h
    refine lv_iconst (v := (-1)) hx hb dX12_draw_38 (by decide) ?_
    obtain rfl := Option.some.inj h
    exact W.iret (v := (-1 : Int32)) hx hb hr (q_end hK hP hD hS) hS.2.2 dX12_draw_39
  · skip
    have h := f_f c1 h
    refine lv_iload_n hx hb dX12_draw_12 rfl (lv_at hl 1 rfl) ?_
    refine lv_i2l (v := (x1 : Int32).toInt64) hx hb dX12_draw_13 rfl ?_
    refine lv_lconst (v := 0) hx hb dX12_draw_14 (by decide) ?_
    refine lv_aload_n hx hb dX12_draw_15 rfl (lv_at hl 0 rfl) ?_
    refine va_get (D := D) (ci := 12) (v := .int (σ0.1 200 50)) (C := RX12) (T := TX12) (N := 59) hx hb hts inU_X12 hown hK hP _ (mg_200 G Z Y (sI σ0 200 0 (0 : Int32))) rfl 50 (by decide) (hts _ wd_1297) (fun _ h9 => h9) rfl dX12_draw_16 ?_
    refine lv_iconst (v := 1) hx hb dX12_draw_19 (by decide) ?_
    refine lv_isub hx hb dX12_draw_20 ?_
    refine lv_i2l (v := (((σ0.1 200 50) - (1 : Int32)) : Int32).toInt64) hx hb dX12_draw_21 rfl ?_
    obtain ⟨q2, hq2, h⟩ := f_b h
    refine cl_S (w := (mW G Z Y (sI σ0 200 0 (0 : Int32)))) (w' := (mW G Z Y (sI σ0 200 0 (0 : Int32)))) (rv := some (.int q2)) (bytes := cX12_isIn) (maxL := 6) (ret := (some .boolean)) (As := [.long (x1 : Int32).toInt64, .long (0 : Int64), .long (((σ0.1 200 50) - (1 : Int32)) : Int32).toInt64]) (rest := []) (stk := [.int q2]) ⟨hx, hb, hml, hown, hts⟩ hK hE hA hP hD hS (c_X12_isIn l D G (mW G Z Y (sI σ0 200 0 (0 : Int32))) ((x1 : Int32).toInt64) (0 : Int64) ((((σ0.1 200 50) - (1 : Int32)) : Int32).toInt64) q2 hq2) (mkS hts wd_1498 wd_1499 wd_11 wd_1500 rfl rfl hd_X12_isIn ⟨Nat.le_of_ble_eq_true rfl, Nat.le_of_ble_eq_true rfl⟩) rfl hl.1 rfl (Nat.le_of_ble_eq_true rfl) dX12_draw_22 ⟨Nat.zero_le _, Nat.zero_le _⟩ rfl (fun H locs hP hD hS => ?_)
    refine lv_if_eq (tgt := 38) hx hb dX12_draw_25 (by decide) (fun c3 => ?_) (fun c3 => ?_)
    · skip
      have h := f_t c3 h
      refine lv_iconst (v := (-1)) hx hb dX12_draw_38 (by decide) ?_
      obtain rfl := Option.some.inj h
      exact W.iret (v := (-1 : Int32)) hx hb hr (q_end hK hP hD hS) hS.2.2 dX12_draw_39
    · skip
      have h := f_f c3 h
      refine lv_aload_n hx hb dX12_draw_28 rfl (lv_at hl 0 rfl) ?_
      refine va_get (D := D) (ci := 12) (v := .ref (G.2.1 221)) (C := RX12) (T := TX12) (N := 59) hx hb hts inU_X12 hown hK hP _ (mg_200 G Z Y (sI σ0 200 0 (0 : Int32))) rfl 47 (by decide) (hts _ wd_1294) (fun _ h9 => h9) rfl dX12_draw_29 ?_
      refine lv_iload_n hx hb dX12_draw_32 rfl (lv_at hl 1 rfl) ?_
      obtain ⟨c4, h⟩ := f_n h
      refine va_laldE (v := (σ0.2.1 221 ((x1 : Int32).toNatClampNeg))) hx hb hK hP _ 1 (mg_221 G Z Y (sI σ0 200 0 (0 : Int32))) rfl c4 dX12_draw_33 rfl ?_
      refine lv_l2i (v := ((σ0.2.1 221 ((x1 : Int32).toNatClampNeg)) : Int64).toInt32) hx hb dX12_draw_34 rfl ?_
      refine lv_goto (tgt := 39) hx hb dX12_draw_35 (by decide) ?_
      obtain rfl := Option.some.inj h
      exact W.iret (v := ((σ0.2.1 221 ((x1 : Int32).toNatClampNeg)) : Int64).toInt32) hx hb hr (q_end hK hP hD hS) hS.2.2 dX12_draw_39
abbrev rm_X12_tries : Room := { frames := 78, cells := 0, slots := 0, locals := 1941 }
set_option maxRecDepth 100000 in
set_option maxHeartbeats 8000000 in
theorem W_X12_tries_L29 {p : Program} {e : Env} {s : State} {m : MethodId} {args : Array Value} {below : List Frame} {meth : Method} {c : Code} {A : Nat → Prop} (l : Launch) (D : va_G) (G : hG) (Z : hZ) (Y : va_W) (σ0 : hSt) (F : Nat) (x1 : Int32) (x2 : Int32) (y1 : Int32) (y2 : Int32) (res : (Int32 × hSt)) (C0 : Cx p s m args meth c cX12_tries (some .int) RX12 4 D G A) (hA : ∀ q : Nat, s.heap.size ≤ q → A q) : ∀ (n : Nat) (σ1 : hSt) (z3 : Int32), f_X12_tries_L29 F Z y1 y2 n σ1 z3 = some res → ∀ (H : Heap) (locs : List Loc) (ls : Array Slot), va_P D vwCl (mW G Z Y σ1) H → va_D A (mW G Z Y σ1) → va_S A s.heap H locs → lv_has ls 4 [(0, .ref (G.2.1 200)), (1, .int y1), (2, .int y2), (3, .int z3)] → W p l e rm_X12_tries s m args below meth c H locs 0 0 (MQ below (Qg (some (.int res.1)) D (tysG G) (mW G Z Y res.2) A) args s 0 0 A) (F0 m 29 ls []) := by
  obtain ⟨hx, hb, hr, hml, hown, hts, hlocks, hK, hE⟩ := id C0
  intro n
  induction n with
  | zero =>
    intro σ1 z3 h
    cases h
  | succ n ih =>
    intro σ1 z3 h H locs ls hP hD hS hl
    rw [f_X12_tries_L29] at h
    refine lv_iload_n hx hb dX12_tries_29 rfl (lv_at hl 3 rfl) ?_
    refine lv_iload_n hx hb dX12_tries_30 rfl (lv_at hl 2 rfl) ?_
    refine lv_icmp_ge (tgt := 53) hx hb dX12_tries_31 (by decide) (fun c5 => ?_) (fun c5 => ?_)
    · skip
      have h := f_t c5 h
      refine lv_iconst (v := (-1)) hx hb dX12_tries_53 (by decide) ?_
      obtain rfl := Option.some.inj h
      exact W.iret (v := (-1 : Int32)) hx hb hr (q_end hK hP hD hS) hS.2.2 dX12_tries_54
    · skip
      have h := f_f c5 h
      refine lv_aload_n hx hb dX12_tries_34 rfl (lv_at hl 0 rfl) ?_
      refine lv_iload_n hx hb dX12_tries_35 rfl (lv_at hl 1 rfl) ?_
      refine lv_iconst (v := 1) hx hb dX12_tries_36 (by decide) ?_
      refine lv_lconst (v := 0) hx hb dX12_tries_37 (by decide) ?_
      refine lv_iload_n hx hb dX12_tries_38 rfl (lv_at hl 3 rfl) ?_
      obtain ⟨q6, hq6, h⟩ := f_b h
      refine cl_V (w := (mW G Z Y σ1)) (w' := (mW G Z Y q6.2)) (rv := some (.int q6.1)) (bytes := cX12_goes) (maxL := 9) (ret := (some .boolean)) (C := RX12) (As := [.int y1, .int (1 : Int32), .long (0 : Int64), .int z3]) (rest := []) (stk := [.int q6.1]) ⟨hx, hb, hml, hown, hts⟩ hK hE hA hP hD hS (c_X12_goes l D G Z Y σ1 F y1 (1 : Int32) (0 : Int64) z3 q6 hq6) (cwV 4 hts (gwV wd_1657 wd_1659 wp_77 wd_11 wd_1660) rfl rfl rfl hd_X12_goes ⟨Nat.le_of_ble_eq_true rfl, Nat.le_of_ble_eq_true rfl⟩) (mg_200 G Z Y σ1) rfl rfl rfl hl.1 rfl (Nat.le_of_ble_eq_true rfl) dX12_tries_39 ⟨Nat.zero_le _, Nat.zero_le _⟩ rfl (fun H locs hP hD hS => ?_)
      refine lv_if_eq (tgt := 47) hx hb dX12_tries_42 (by decide) (fun c7 => ?_) (fun c7 => ?_)
      · skip
        have h := f_t c7 h
        refine lv_iinc (v := (z3 + 1)) (lv' := [(3, .int (z3 + 1)), (0, .ref (G.2.1 200)), (1, .int y1), (2, .int y2)]) hx hb dX12_tries_47 hl (k := 3) rfl rfl (by decide) rfl (fun ls hl => ?_)
        refine lv_goto (tgt := 29) hx hb dX12_tries_50 (by decide) ?_
        exact ih q6.2 (z3 + 1) h _ _ _ hP hD hS (lv_sub hl [1, 2, 3, 0] rfl)
      · skip
        have h := f_f c7 h
        refine lv_iload_n hx hb dX12_tries_45 rfl (lv_at hl 3 rfl) ?_
        obtain rfl := Option.some.inj h
        exact W.iret (v := z3) hx hb hr (q_end hK hP hD hS) hS.2.2 dX12_tries_46
set_option maxRecDepth 100000 in
set_option maxHeartbeats 8000000 in
theorem c_X12_tries (l : Launch) (D : va_G) (G : hG) (Z : hZ) (Y : va_W) (σ0 : hSt) (F : Nat) (x1 : Int32) (x2 : Int32) (res : (Int32 × hSt)) (h : f_X12_tries F Z σ0 x1 x2 = some res) : CT l yX12_tries cX12_tries 4 (some .int) rm_X12_tries D G 0 0 [.ref (G.2.1 200), .int x1, .int x2] (mW G Z Y σ0) (mW G Z Y res.2) (some (.int res.1)) := by
  unfold f_X12_tries at h
  refine CT.mk (cc := cX12_tries) (maxL := 4) (ret := (some .int)) (own := RX12) (plainFor_of_name (by decide)) rfl (Nat.le_of_ble_eq_true rfl) ?_
  intro p e s m args below meth c A ls C0 hnm hA hP hD hl
  obtain ⟨hx, hb, hr, hml, hown, hts, hlocks, hK, hE⟩ := id C0
  have hS : va_S A s.heap s.heap [] := va_S.rf
  have hl : lv_has ls 4 [(0, .ref (G.2.1 200)), (1, .int x1), (2, .int x2)] := hl
  refine lv_aload_n hx hb dX12_tries_0 rfl (lv_at hl 0 rfl) ?_
  refine lv_iconst (v := 0) hx hb dX12_tries_1 (by decide) ?_
  refine va_put (D := D) (ci := 12) (v := .int (0 : Int32)) (ty := .int) (C := RX12) (T := TX12) (N := 59) hx hb hts inU_X12 tyX12 tyX12_ok nmX12 hown hK hP hD hS _ (mg_200 G Z Y σ0) rfl 0 (by decide) (hts _ wd_1248) (fun _ h9 => h9) rfl (by decide +kernel) rfl rfl (Nat.le_of_ble_eq_true rfl) dX12_tries_2 (fun H locs hP hD hS => ?_)
  have hP := wrP (mp_200_0 G Z Y σ0 (0 : Int32)) hP
  have hD := wrD (mp_200_0 G Z Y σ0 (0 : Int32)) hD
  refine lv_aload_n hx hb dX12_tries_5 rfl (lv_at hl 0 rfl) ?_
  refine lv_iload_n hx hb dX12_tries_6 rfl (lv_at hl 1 rfl) ?_
  obtain ⟨q1, hq1, h⟩ := f_b h
  refine cl_V (w := (mW G Z Y (sI σ0 200 0 (0 : Int32)))) (w' := (mW G Z Y (sI σ0 200 0 (0 : Int32)))) (rv := some (.int q1)) (bytes := cX12_isTalk) (maxL := 2) (ret := (some .boolean)) (C := RX12) (As := [.int x1]) (rest := []) (stk := [.int q1]) ⟨hx, hb, hml, hown, hts⟩ hK hE hA hP hD hS (c_X12_isTalk l D G Z Y (sI σ0 200 0 (0 : Int32)) x1 q1 hq1) (cwV 1 hts (gwV wd_1652 wd_1654 wp_76 wd_11 wd_1655) rfl rfl rfl hd_X12_isTalk ⟨Nat.le_of_ble_eq_true rfl, Nat.le_of_ble_eq_true rfl⟩) (mg_200 G Z Y (sI σ0 200 0 (0 : Int32))) rfl rfl rfl hl.1 rfl (Nat.le_of_ble_eq_true rfl) dX12_tries_7 ⟨Nat.zero_le _, Nat.zero_le _⟩ rfl (fun H locs hP hD hS => ?_)
  refine lv_if_eq (tgt := 25) hx hb dX12_tries_10 (by decide) (fun c2 => ?_) (fun c2 => ?_)
  · skip
    have h := f_t c2 h
    refine lv_iconst (v := (-1)) hx hb dX12_tries_25 (by decide) ?_
    obtain rfl := Option.some.inj h
    exact W.iret (v := (-1 : Int32)) hx hb hr (q_end hK hP hD hS) hS.2.2 dX12_tries_26
  · skip
    have h := f_f c2 h
    refine lv_iload_n hx hb dX12_tries_13 rfl (lv_at hl 2 rfl) ?_
    refine lv_i2l (v := (x2 : Int32).toInt64) hx hb dX12_tries_14 rfl ?_
    refine lv_lconst (v := 1) hx hb dX12_tries_15 (by decide) ?_
    refine lv_ldc2 (v := 200) hx hb hown (hts _ wd_1740) dX12_tries_16 ?_
    obtain ⟨q3, hq3, h⟩ := f_b h
    refine cl_S (w := (mW G Z Y (sI σ0 200 0 (0 : Int32)))) (w' := (mW G Z Y (sI σ0 200 0 (0 : Int32)))) (rv := some (.int q3)) (bytes := cX12_isIn) (maxL := 6) (ret := (some .boolean)) (As := [.long (x2 : Int32).toInt64, .long (1 : Int64), .long (200 : Int64)]) (rest := []) (stk := [.int q3]) ⟨hx, hb, hml, hown, hts⟩ hK hE hA hP hD hS (c_X12_isIn l D G (mW G Z Y (sI σ0 200 0 (0 : Int32))) ((x2 : Int32).toInt64) (1 : Int64) (200 : Int64) q3 hq3) (mkS hts wd_1498 wd_1499 wd_11 wd_1500 rfl rfl hd_X12_isIn ⟨Nat.le_of_ble_eq_true rfl, Nat.le_of_ble_eq_true rfl⟩) rfl hl.1 rfl (Nat.le_of_ble_eq_true rfl) dX12_tries_19 ⟨Nat.zero_le _, Nat.zero_le _⟩ rfl (fun H locs hP hD hS => ?_)
    refine lv_if_ne (tgt := 27) hx hb dX12_tries_22 (by decide) (fun c4 => ?_) (fun c4 => ?_)
    · skip
      have h := f_f c4 h
      refine lv_iconst (v := 0) hx hb dX12_tries_27 (by decide) ?_
      refine lv_istore_n (lv' := [(3, .int (0 : Int32)), (0, .ref (G.2.1 200)), (1, .int x1), (2, .int x2)]) hx hb dX12_tries_28 rfl hl (by decide) rfl (fun ls hl => ?_)
      refine W_X12_tries_L29 l D G Z Y σ0 F x1 x2 x1 x2 res C0 hA F (sI σ0 200 0 (0 : Int32)) (0 : Int32) h _ _ _ hP hD hS (lv_sub hl [1, 2, 3, 0] rfl)
    · skip
      have h := f_t c4 h
      refine lv_iconst (v := (-1)) hx hb dX12_tries_25 (by decide) ?_
      obtain rfl := Option.some.inj h
      exact W.iret (v := (-1 : Int32)) hx hb hr (q_end hK hP hD hS) hS.2.2 dX12_tries_26
abbrev rm_X12_spent : Room := { frames := 76, cells := 0, slots := 0, locals := 1889 }
set_option maxRecDepth 100000 in
set_option maxHeartbeats 8000000 in
theorem W_X12_spent_L86 {p : Program} {e : Env} {s : State} {m : MethodId} {args : Array Value} {below : List Frame} {meth : Method} {c : Code} {A : Nat → Prop} (l : Launch) (D : va_G) (G : hG) (Z : hZ) (Y : va_W) (σ0 : hSt) (F : Nat) (x1 : Int32) (x2 : Int32) (y1 : Int32) (y3 : Int32) (res : (Int32 × hSt)) (C0 : Cx p s m args meth c cX12_spent (some .int) RX12 7 D G A) (hA : ∀ q : Nat, s.heap.size ≤ q → A q) : ∀ (n : Nat) (σ1 : hSt) (z4 : Int32) (z5 : Int32), f_X12_spent_L86 F Z y1 y3 n σ1 z4 z5 = some res → ∀ (H : Heap) (locs : List Loc) (ls : Array Slot), va_P D vwCl (mW G Z Y σ1) H → va_D A (mW G Z Y σ1) → va_S A s.heap H locs → lv_has ls 7 [(0, .ref (G.2.1 200)), (1, .int y1), (3, .int y3), (4, .int z4), (5, .int z5)] → W p l e rm_X12_spent s m args below meth c H locs 0 0 (MQ below (Qg (some (.int res.1)) D (tysG G) (mW G Z Y res.2) A) args s 0 0 A) (F0 m 86 ls []) := by
  obtain ⟨hx, hb, hr, hml, hown, hts, hlocks, hK, hE⟩ := id C0
  intro n
  induction n with
  | zero =>
    intro σ1 z4 z5 h
    cases h
  | succ n ih =>
    intro σ1 z4 z5 h H locs ls hP hD hS hl
    rw [f_X12_spent_L86] at h
    refine lv_iload hx hb dX12_spent_86 (lv_at hl 4 rfl) ?_
    refine lv_aload_n hx hb dX12_spent_88 rfl (lv_at hl 0 rfl) ?_
    refine va_get (D := D) (ci := 12) (v := .ref (G.2.1 204)) (C := RX12) (T := TX12) (N := 59) hx hb hts inU_X12 hown hK hP _ (mg_200 G Z Y σ1) rfl 12 (by decide) (hts _ wd_1260) (fun _ h9 => h9) rfl dX12_spent_89 ?_
    refine lv_iload_n hx hb dX12_spent_92 rfl (lv_at hl 2 rfl) ?_
    obtain ⟨c11, h⟩ := f_n h
    refine va_ialdE (v := (σ1.1 204 ((y3 : Int32).toNatClampNeg))) hx hb hK hP _ 0 (mg_204 G Z Y σ1) rfl c11 dX12_spent_93 rfl ?_
    refine lv_icmp_ge (tgt := 159) hx hb dX12_spent_94 (by decide) (fun c12 => ?_) (fun c12 => ?_)
    · skip
      have h := f_t c12 h
      refine lv_iload hx hb dX12_spent_159 (lv_at hl 3 rfl) ?_
      obtain rfl := Option.some.inj h
      exact W.iret (v := z4) hx hb hr (q_end hK hP hD hS) hS.2.2 dX12_spent_161
    · skip
      have h := f_f c12 h
      refine lv_aload_n hx hb dX12_spent_97 rfl (lv_at hl 0 rfl) ?_
      refine va_get (D := D) (ci := 12) (v := .ref (G.2.1 205)) (C := RX12) (T := TX12) (N := 59) hx hb hts inU_X12 hown hK hP _ (mg_200 G Z Y σ1) rfl 13 (by decide) (hts _ wd_1261) (fun _ h9 => h9) rfl dX12_spent_98 ?_
      refine lv_bipush (v := 6) hx hb dX12_spent_101 (by decide) ?_
      refine lv_iload_n hx hb dX12_spent_103 rfl (lv_at hl 2 rfl) ?_
      refine lv_imul hx hb dX12_spent_104 ?_
      refine lv_iload hx hb dX12_spent_105 (lv_at hl 4 rfl) ?_
      refine lv_iadd hx hb dX12_spent_107 ?_
      obtain ⟨c13, h⟩ := f_n h
      refine va_ialdE (v := (σ1.1 205 (((((6 : Int32) * y3) + z5) : Int32).toNatClampNeg))) hx hb hK hP _ 0 (mg_205 G Z Y σ1) rfl c13 dX12_spent_108 rfl ?_
      refine lv_iconst (v := 1) hx hb dX12_spent_109 (by decide) ?_
      refine lv_iadd hx hb dX12_spent_110 ?_
      refine lv_istore (lv' := [(6, .int ((σ1.1 205 (((((6 : Int32) * y3) + z5) : Int32).toNatClampNeg)) + (1 : Int32))), (0, .ref (G.2.1 200)), (1, .int y1), (3, .int y3), (4, .int z4), (5, .int z5)]) hx hb dX12_spent_111 hl (by decide) rfl (fun ls hl => ?_)
      refine lv_iload hx hb dX12_spent_113 (lv_at hl 4 rfl) ?_
      refine lv_iconst (v := 2) hx hb dX12_spent_115 (by decide) ?_
      refine lv_iload hx hb dX12_spent_116 (lv_at hl 0 rfl) ?_
      refine lv_imul hx hb dX12_spent_118 ?_
      refine lv_iload hx hb dX12_spent_119 (lv_at hl 0 rfl) ?_
      refine lv_imul hx hb dX12_spent_121 ?_
      refine lv_aload_n hx hb dX12_spent_122 rfl (lv_at hl 1 rfl) ?_
      refine lv_aload_n hx hb dX12_spent_123 rfl (lv_at hl 1 rfl) ?_
      refine va_get (D := D) (ci := 12) (v := .ref (G.2.1 216)) (C := RX12) (T := TX12) (N := 59) hx hb hts inU_X12 hown hK hP _ (mg_200 G Z Y σ1) rfl 34 (by decide) (hts _ wd_1282) (fun _ h9 => h9) rfl dX12_spent_124 ?_
      refine lv_iload_n hx hb dX12_spent_127 rfl (lv_at hl 2 rfl) ?_
      obtain ⟨c14, h⟩ := f_n h
      refine va_ialdE (v := (σ1.1 216 ((y1 : Int32).toNatClampNeg))) hx hb hK hP _ 0 (mg_216 G Z Y σ1) rfl c14 dX12_spent_128 rfl ?_
      refine lv_iload_n hx hb dX12_spent_129 rfl (lv_at hl 3 rfl) ?_
      refine lv_aload_n hx hb dX12_spent_130 rfl (lv_at hl 1 rfl) ?_
      refine va_get (D := D) (ci := 12) (v := .ref (G.2.1 215)) (C := RX12) (T := TX12) (N := 59) hx hb hts inU_X12 hown hK hP _ (mg_200 G Z Y σ1) rfl 33 (by decide) (hts _ wd_1281) (fun _ h9 => h9) rfl dX12_spent_131 ?_
      refine lv_iload_n hx hb dX12_spent_134 rfl (lv_at hl 2 rfl) ?_
      obtain ⟨c15, h⟩ := f_n h
      refine va_ialdE (v := (σ1.1 215 ((y1 : Int32).toNatClampNeg))) hx hb hK hP _ 0 (mg_215 G Z Y σ1) rfl c15 dX12_spent_135 rfl ?_
      refine lv_iload hx hb dX12_spent_136 (lv_at hl 5 rfl) ?_
      obtain ⟨q16, hq16, h⟩ := f_b h
      refine cl_V (w := (mW G Z Y σ1)) (w' := (mW G Z Y q16.2)) (rv := some (.int q16.1)) (bytes := cX12_asksSum) (maxL := 5) (ret := (some .boolean)) (C := RX12) (As := [.int (σ1.1 216 ((y1 : Int32).toNatClampNeg)), .int y3, .int (σ1.1 215 ((y1 : Int32).toNatClampNeg)), .int z5]) (rest := [.int (((2 : Int32) * ((σ1.1 205 (((((6 : Int32) * y3) + z5) : Int32).toNatClampNeg)) + (1 : Int32))) * ((σ1.1 205 (((((6 : Int32) * y3) + z5) : Int32).toNatClampNeg)) + (1 : Int32))), .int z4]) (stk := [.int q16.1, .int (((2 : Int32) * ((σ1.1 205 (((((6 : Int32) * y3) + z5) : Int32).toNatClampNeg)) + (1 : Int32))) * ((σ1.1 205 (((((6 : Int32) * y3) + z5) : Int32).toNatClampNeg)) + (1 : Int32))), .int z4]) ⟨hx, hb, hml, hown, hts⟩ hK hE hA hP hD hS (c_X12_asksSum l D G Z Y σ1 F (σ1.1 216 ((y1 : Int32).toNatClampNeg)) y3 (σ1.1 215 ((y1 : Int32).toNatClampNeg)) z5 q16 hq16) (cwV 4 hts (gwV wd_1687 wd_1689 wp_84 wd_11 wd_1690) rfl rfl rfl hd_X12_asksSum ⟨Nat.le_of_ble_eq_true rfl, Nat.le_of_ble_eq_true rfl⟩) (mg_200 G Z Y σ1) rfl rfl rfl hl.1 rfl (Nat.le_of_ble_eq_true rfl) dX12_spent_138 ⟨Nat.zero_le _, Nat.zero_le _⟩ rfl (fun H locs hP hD hS => ?_)
      refine lv_if_eq (tgt := 148) hx hb dX12_spent_141 (by decide) (fun c17 => ?_) (fun c17 => ?_)
      · skip
        have h := f_t c17 h
        refine lv_iconst (v := 0) hx hb dX12_spent_148 (by decide) ?_
        refine lv_iadd hx hb dX12_spent_149 ?_
        refine lv_iadd hx hb dX12_spent_150 ?_
        refine lv_istore (lv' := [(4, .int (z4 + ((((2 : Int32) * ((σ1.1 205 (((((6 : Int32) * y3) + z5) : Int32).toNatClampNeg)) + (1 : Int32))) * ((σ1.1 205 (((((6 : Int32) * y3) + z5) : Int32).toNatClampNeg)) + (1 : Int32))) + (0 : Int32)))), (6, .int ((σ1.1 205 (((((6 : Int32) * y3) + z5) : Int32).toNatClampNeg)) + (1 : Int32))), (0, .ref (G.2.1 200)), (1, .int y1), (3, .int y3), (5, .int z5)]) hx hb dX12_spent_151 hl (by decide) rfl (fun ls hl => ?_)
        refine lv_iinc (v := (z5 + 1)) (lv' := [(5, .int (z5 + 1)), (4, .int (z4 + ((((2 : Int32) * ((σ1.1 205 (((((6 : Int32) * y3) + z5) : Int32).toNatClampNeg)) + (1 : Int32))) * ((σ1.1 205 (((((6 : Int32) * y3) + z5) : Int32).toNatClampNeg)) + (1 : Int32))) + (0 : Int32)))), (6, .int ((σ1.1 205 (((((6 : Int32) * y3) + z5) : Int32).toNatClampNeg)) + (1 : Int32))), (0, .ref (G.2.1 200)), (1, .int y1), (3, .int y3)]) hx hb dX12_spent_153 hl (k := 5) rfl rfl (by decide) rfl (fun ls hl => ?_)
        refine lv_goto (tgt := 86) hx hb dX12_spent_156 (by decide) ?_
        exact ih q16.2 (z4 + ((((2 : Int32) * ((σ1.1 205 (((((6 : Int32) * y3) + z5) : Int32).toNatClampNeg)) + (1 : Int32))) * ((σ1.1 205 (((((6 : Int32) * y3) + z5) : Int32).toNatClampNeg)) + (1 : Int32))) + (0 : Int32))) (z5 + 1) h _ _ _ hP hD hS (lv_sub hl [3, 4, 5, 1, 0] rfl)
      · skip
        have h := f_f c17 h
        refine lv_iconst (v := 1) hx hb dX12_spent_144 (by decide) ?_
        refine lv_goto (tgt := 149) hx hb dX12_spent_145 (by decide) ?_
        refine lv_iadd hx hb dX12_spent_149 ?_
        refine lv_iadd hx hb dX12_spent_150 ?_
        refine lv_istore (lv' := [(4, .int (z4 + ((((2 : Int32) * ((σ1.1 205 (((((6 : Int32) * y3) + z5) : Int32).toNatClampNeg)) + (1 : Int32))) * ((σ1.1 205 (((((6 : Int32) * y3) + z5) : Int32).toNatClampNeg)) + (1 : Int32))) + (1 : Int32)))), (6, .int ((σ1.1 205 (((((6 : Int32) * y3) + z5) : Int32).toNatClampNeg)) + (1 : Int32))), (0, .ref (G.2.1 200)), (1, .int y1), (3, .int y3), (5, .int z5)]) hx hb dX12_spent_151 hl (by decide) rfl (fun ls hl => ?_)
        refine lv_iinc (v := (z5 + 1)) (lv' := [(5, .int (z5 + 1)), (4, .int (z4 + ((((2 : Int32) * ((σ1.1 205 (((((6 : Int32) * y3) + z5) : Int32).toNatClampNeg)) + (1 : Int32))) * ((σ1.1 205 (((((6 : Int32) * y3) + z5) : Int32).toNatClampNeg)) + (1 : Int32))) + (1 : Int32)))), (6, .int ((σ1.1 205 (((((6 : Int32) * y3) + z5) : Int32).toNatClampNeg)) + (1 : Int32))), (0, .ref (G.2.1 200)), (1, .int y1), (3, .int y3)]) hx hb dX12_spent_153 hl (k := 5) rfl rfl (by decide) rfl (fun ls hl => ?_)
        refine lv_goto (tgt := 86) hx hb dX12_spent_156 (by decide) ?_
        exact ih q16.2 (z4 + ((((2 : Int32) * ((σ1.1 205 (((((6 : Int32) * y3) + z5) : Int32).toNatClampNeg)) + (1 : Int32))) * ((σ1.1 205 (((((6 : Int32) * y3) + z5) : Int32).toNatClampNeg)) + (1 : Int32))) + (1 : Int32))) (z5 + 1) h _ _ _ hP hD hS (lv_sub hl [3, 4, 5, 1, 0] rfl)
set_option maxRecDepth 100000 in
set_option maxHeartbeats 8000000 in
theorem c_X12_spent (l : Launch) (D : va_G) (G : hG) (Z : hZ) (Y : va_W) (σ0 : hSt) (F : Nat) (x1 : Int32) (x2 : Int32) (res : (Int32 × hSt)) (h : f_X12_spent F Z σ0 x1 x2 = some res) : CT l yX12_spent cX12_spent 7 (some .int) rm_X12_spent D G 0 0 [.ref (G.2.1 200), .int x1, .int x2] (mW G Z Y σ0) (mW G Z Y res.2) (some (.int res.1)) := by
  unfold f_X12_spent at h
  refine CT.mk (cc := cX12_spent) (maxL := 7) (ret := (some .int)) (own := RX12) (plainFor_of_name (by decide)) rfl (Nat.le_of_ble_eq_true rfl) ?_
  intro p e s m args below meth c A ls C0 hnm hA hP hD hl
  obtain ⟨hx, hb, hr, hml, hown, hts, hlocks, hK, hE⟩ := id C0
  have hS : va_S A s.heap s.heap [] := va_S.rf
  have hl : lv_has ls 7 [(0, .ref (G.2.1 200)), (1, .int x1), (2, .int x2)] := hl
  refine lv_aload_n hx hb dX12_spent_0 rfl (lv_at hl 0 rfl) ?_
  refine lv_iconst (v := 0) hx hb dX12_spent_1 (by decide) ?_
  refine va_put (D := D) (ci := 12) (v := .int (0 : Int32)) (ty := .int) (C := RX12) (T := TX12) (N := 59) hx hb hts inU_X12 tyX12 tyX12_ok nmX12 hown hK hP hD hS _ (mg_200 G Z Y σ0) rfl 0 (by decide) (hts _ wd_1248) (fun _ h9 => h9) rfl (by decide +kernel) rfl rfl (Nat.le_of_ble_eq_true rfl) dX12_spent_2 (fun H locs hP hD hS => ?_)
  have hP := wrP (mp_200_0 G Z Y σ0 (0 : Int32)) hP
  have hD := wrD (mp_200_0 G Z Y σ0 (0 : Int32)) hD
  refine lv_aload_n hx hb dX12_spent_5 rfl (lv_at hl 0 rfl) ?_
  refine lv_iload_n hx hb dX12_spent_6 rfl (lv_at hl 1 rfl) ?_
  obtain ⟨q1, hq1, h⟩ := f_b h
  refine cl_V (w := (mW G Z Y (sI σ0 200 0 (0 : Int32)))) (w' := (mW G Z Y (sI σ0 200 0 (0 : Int32)))) (rv := some (.int q1)) (bytes := cX12_isTalk) (maxL := 2) (ret := (some .boolean)) (C := RX12) (As := [.int x1]) (rest := []) (stk := [.int q1]) ⟨hx, hb, hml, hown, hts⟩ hK hE hA hP hD hS (c_X12_isTalk l D G Z Y (sI σ0 200 0 (0 : Int32)) x1 q1 hq1) (cwV 1 hts (gwV wd_1652 wd_1654 wp_76 wd_11 wd_1655) rfl rfl rfl hd_X12_isTalk ⟨Nat.le_of_ble_eq_true rfl, Nat.le_of_ble_eq_true rfl⟩) (mg_200 G Z Y (sI σ0 200 0 (0 : Int32))) rfl rfl rfl hl.1 rfl (Nat.le_of_ble_eq_true rfl) dX12_spent_7 ⟨Nat.zero_le _, Nat.zero_le _⟩ rfl (fun H locs hP hD hS => ?_)
  refine lv_if_eq (tgt := 23) hx hb dX12_spent_10 (by decide) (fun c2 => ?_) (fun c2 => ?_)
  · skip
    have h := f_t c2 h
    refine lv_iconst (v := (-1)) hx hb dX12_spent_23 (by decide) ?_
    obtain rfl := Option.some.inj h
    exact W.iret (v := (-1 : Int32)) hx hb hr (q_end hK hP hD hS) hS.2.2 dX12_spent_24
  · skip
    have h := f_f c2 h
    refine lv_iload_n hx hb dX12_spent_13 rfl (lv_at hl 2 rfl) ?_
    refine lv_i2l (v := (x2 : Int32).toInt64) hx hb dX12_spent_14 rfl ?_
    refine lv_lconst (v := 0) hx hb dX12_spent_15 (by decide) ?_
    refine lv_lconst (v := 1) hx hb dX12_spent_16 (by decide) ?_
    obtain ⟨q3, hq3, h⟩ := f_b h
    refine cl_S (w := (mW G Z Y (sI σ0 200 0 (0 : Int32)))) (w' := (mW G Z Y (sI σ0 200 0 (0 : Int32)))) (rv := some (.int q3)) (bytes := cX12_isIn) (maxL := 6) (ret := (some .boolean)) (As := [.long (x2 : Int32).toInt64, .long (0 : Int64), .long (1 : Int64)]) (rest := []) (stk := [.int q3]) ⟨hx, hb, hml, hown, hts⟩ hK hE hA hP hD hS (c_X12_isIn l D G (mW G Z Y (sI σ0 200 0 (0 : Int32))) ((x2 : Int32).toInt64) (0 : Int64) (1 : Int64) q3 hq3) (mkS hts wd_1498 wd_1499 wd_11 wd_1500 rfl rfl hd_X12_isIn ⟨Nat.le_of_ble_eq_true rfl, Nat.le_of_ble_eq_true rfl⟩) rfl hl.1 rfl (Nat.le_of_ble_eq_true rfl) dX12_spent_17 ⟨Nat.zero_le _, Nat.zero_le _⟩ rfl (fun H locs hP hD hS => ?_)
    refine lv_if_ne (tgt := 25) hx hb dX12_spent_20 (by decide) (fun c4 => ?_) (fun c4 => ?_)
    · skip
      have h := f_f c4 h
      refine lv_aload_n hx hb dX12_spent_25 rfl (lv_at hl 0 rfl) ?_
      refine va_get (D := D) (ci := 12) (v := .ref (G.2.1 214)) (C := RX12) (T := TX12) (N := 59) hx hb hts inU_X12 hown hK hP _ (mg_200 G Z Y (sI σ0 200 0 (0 : Int32))) rfl 32 (by decide) (hts _ wd_1280) (fun _ h9 => h9) rfl dX12_spent_26 ?_
      refine lv_iload_n hx hb dX12_spent_29 rfl (lv_at hl 1 rfl) ?_
      obtain ⟨c5, h⟩ := f_n h
      refine va_ialdE (v := (σ0.1 214 ((x1 : Int32).toNatClampNeg))) hx hb hK hP _ 0 (mg_214 G Z Y (sI σ0 200 0 (0 : Int32))) rfl c5 dX12_spent_30 rfl ?_
      refine lv_istore_n (lv' := [(3, .int (σ0.1 214 ((x1 : Int32).toNatClampNeg))), (0, .ref (G.2.1 200)), (1, .int x1), (2, .int x2)]) hx hb dX12_spent_31 rfl hl (by decide) rfl (fun ls hl => ?_)
      refine lv_iload_n hx hb dX12_spent_32 rfl (lv_at hl 3 rfl) ?_
      refine lv_iconst (v := 1) hx hb dX12_spent_33 (by decide) ?_
      refine lv_icmp_ne (tgt := 51) hx hb dX12_spent_34 (by decide) (fun c6 => ?_) (fun c6 => ?_)
      · skip
        have h := f_f c6 h
        refine lv_aload_n hx hb dX12_spent_51 rfl (lv_at hl 1 rfl) ?_
        refine lv_aload_n hx hb dX12_spent_52 rfl (lv_at hl 1 rfl) ?_
        refine va_get (D := D) (ci := 12) (v := .ref (G.2.1 216)) (C := RX12) (T := TX12) (N := 59) hx hb hts inU_X12 hown hK hP _ (mg_200 G Z Y (sI σ0 200 0 (0 : Int32))) rfl 34 (by decide) (hts _ wd_1282) (fun _ h9 => h9) rfl dX12_spent_53 ?_
        refine lv_iload_n hx hb dX12_spent_56 rfl (lv_at hl 2 rfl) ?_
        obtain ⟨c7, h⟩ := f_n h
        refine va_ialdE (v := (σ0.1 216 ((x1 : Int32).toNatClampNeg))) hx hb hK hP _ 0 (mg_216 G Z Y (sI σ0 200 0 (0 : Int32))) rfl c7 dX12_spent_57 rfl ?_
        refine lv_iload_n hx hb dX12_spent_58 rfl (lv_at hl 0 rfl) ?_
        refine lv_aload_n hx hb dX12_spent_59 rfl (lv_at hl 1 rfl) ?_
        refine va_get (D := D) (ci := 12) (v := .ref (G.2.1 215)) (C := RX12) (T := TX12) (N := 59) hx hb hts inU_X12 hown hK hP _ (mg_200 G Z Y (sI σ0 200 0 (0 : Int32))) rfl 33 (by decide) (hts _ wd_1281) (fun _ h9 => h9) rfl dX12_spent_60 ?_
        refine lv_iload_n hx hb dX12_spent_63 rfl (lv_at hl 2 rfl) ?_
        obtain ⟨c8, h⟩ := f_n h
        refine va_ialdE (v := (σ0.1 215 ((x1 : Int32).toNatClampNeg))) hx hb hK hP _ 0 (mg_215 G Z Y (sI σ0 200 0 (0 : Int32))) rfl c8 dX12_spent_64 rfl ?_
        obtain ⟨q9, hq9, h⟩ := f_b h
        refine cl_V (w := (mW G Z Y (sI σ0 200 0 (0 : Int32)))) (w' := (mW G Z Y q9.2)) (rv := some (.int q9.1)) (bytes := cX12_asksEnd) (maxL := 4) (ret := (some .boolean)) (C := RX12) (As := [.int (σ0.1 216 ((x1 : Int32).toNatClampNeg)), .int (σ0.1 214 ((x1 : Int32).toNatClampNeg)), .int (σ0.1 215 ((x1 : Int32).toNatClampNeg))]) (rest := []) (stk := [.int q9.1]) ⟨hx, hb, hml, hown, hts⟩ hK hE hA hP hD hS (c_X12_asksEnd l D G Z Y (sI σ0 200 0 (0 : Int32)) F (σ0.1 216 ((x1 : Int32).toNatClampNeg)) (σ0.1 214 ((x1 : Int32).toNatClampNeg)) (σ0.1 215 ((x1 : Int32).toNatClampNeg)) q9 hq9) (cwV 3 hts (gwV wd_1711 wd_1713 wp_90 wd_11 wd_1714) rfl rfl rfl hd_X12_asksEnd ⟨Nat.le_of_ble_eq_true rfl, Nat.le_of_ble_eq_true rfl⟩) (mg_200 G Z Y (sI σ0 200 0 (0 : Int32))) rfl rfl rfl hl.1 rfl (Nat.le_of_ble_eq_true rfl) dX12_spent_65 ⟨Nat.zero_le _, Nat.zero_le _⟩ rfl (fun H locs hP hD hS => ?_)
        refine lv_if_eq (tgt := 80) hx hb dX12_spent_68 (by decide) (fun c10 => ?_) (fun c10 => ?_)
        · skip
          have h := f_t c10 h
          refine lv_iconst (v := 0) hx hb dX12_spent_80 (by decide) ?_
          refine lv_istore (lv' := [(4, .int (0 : Int32)), (3, .int (σ0.1 214 ((x1 : Int32).toNatClampNeg))), (0, .ref (G.2.1 200)), (1, .int x1), (2, .int x2)]) hx hb dX12_spent_81 hl (by decide) rfl (fun ls hl => ?_)
          refine lv_iconst (v := 0) hx hb dX12_spent_83 (by decide) ?_
          refine lv_istore (lv' := [(5, .int (0 : Int32)), (4, .int (0 : Int32)), (3, .int (σ0.1 214 ((x1 : Int32).toNatClampNeg))), (0, .ref (G.2.1 200)), (1, .int x1), (2, .int x2)]) hx hb dX12_spent_84 hl (by decide) rfl (fun ls hl => ?_)
          refine W_X12_spent_L86 l D G Z Y σ0 F x1 x2 x1 (σ0.1 214 ((x1 : Int32).toNatClampNeg)) res C0 hA F q9.2 (0 : Int32) (0 : Int32) h _ _ _ hP hD hS (lv_sub hl [3, 4, 2, 1, 0] rfl)
        · skip
          have h := f_f c10 h
          refine lv_aload_n hx hb dX12_spent_71 rfl (lv_at hl 1 rfl) ?_
          refine va_get (D := D) (ci := 12) (v := .ref (G.2.1 206)) (C := RX12) (T := TX12) (N := 59) hx hb hts inU_X12 hown hK hP _ (mg_200 G Z Y q9.2) rfl 14 (by decide) (hts _ wd_1262) (fun _ h9 => h9) rfl dX12_spent_72 ?_
          refine lv_iload_n hx hb dX12_spent_75 rfl (lv_at hl 0 rfl) ?_
          obtain ⟨c18, h⟩ := f_n h
          refine va_ialdE (v := (q9.2.1 206 (((σ0.1 214 ((x1 : Int32).toNatClampNeg)) : Int32).toNatClampNeg))) hx hb hK hP _ 0 (mg_206 G Z Y q9.2) rfl c18 dX12_spent_76 rfl ?_
          refine lv_goto (tgt := 81) hx hb dX12_spent_77 (by decide) ?_
          refine lv_istore (lv' := [(4, .int (q9.2.1 206 (((σ0.1 214 ((x1 : Int32).toNatClampNeg)) : Int32).toNatClampNeg))), (3, .int (σ0.1 214 ((x1 : Int32).toNatClampNeg))), (0, .ref (G.2.1 200)), (1, .int x1), (2, .int x2)]) hx hb dX12_spent_81 hl (by decide) rfl (fun ls hl => ?_)
          refine lv_iconst (v := 0) hx hb dX12_spent_83 (by decide) ?_
          refine lv_istore (lv' := [(5, .int (0 : Int32)), (4, .int (q9.2.1 206 (((σ0.1 214 ((x1 : Int32).toNatClampNeg)) : Int32).toNatClampNeg))), (3, .int (σ0.1 214 ((x1 : Int32).toNatClampNeg))), (0, .ref (G.2.1 200)), (1, .int x1), (2, .int x2)]) hx hb dX12_spent_84 hl (by decide) rfl (fun ls hl => ?_)
          refine W_X12_spent_L86 l D G Z Y σ0 F x1 x2 x1 (σ0.1 214 ((x1 : Int32).toNatClampNeg)) res C0 hA F q9.2 (q9.2.1 206 (((σ0.1 214 ((x1 : Int32).toNatClampNeg)) : Int32).toNatClampNeg)) (0 : Int32) h _ _ _ hP hD hS (lv_sub hl [3, 4, 2, 1, 0] rfl)
      · skip
        have h := f_t c6 h
        refine lv_aload_n hx hb dX12_spent_37 rfl (lv_at hl 1 rfl) ?_
        refine va_get (D := D) (ci := 12) (v := .ref (G.2.1 206)) (C := RX12) (T := TX12) (N := 59) hx hb hts inU_X12 hown hK hP _ (mg_200 G Z Y (sI σ0 200 0 (0 : Int32))) rfl 14 (by decide) (hts _ wd_1262) (fun _ h9 => h9) rfl dX12_spent_38 ?_
        refine lv_iload_n hx hb dX12_spent_41 rfl (lv_at hl 0 rfl) ?_
        obtain ⟨c19, h⟩ := f_n h
        refine va_ialdE (v := (σ0.1 206 (((σ0.1 214 ((x1 : Int32).toNatClampNeg)) : Int32).toNatClampNeg))) hx hb hK hP _ 0 (mg_206 G Z Y (sI σ0 200 0 (0 : Int32))) rfl c19 dX12_spent_42 rfl ?_
        refine lv_aload_n hx hb dX12_spent_43 rfl (lv_at hl 1 rfl) ?_
        refine va_get (D := D) (ci := 12) (v := .ref (G.2.1 204)) (C := RX12) (T := TX12) (N := 59) hx hb hts inU_X12 hown hK hP _ (mg_200 G Z Y (sI σ0 200 0 (0 : Int32))) rfl 12 (by decide) (hts _ wd_1260) (fun _ h9 => h9) rfl dX12_spent_44 ?_
        refine lv_iload_n hx hb dX12_spent_47 rfl (lv_at hl 0 rfl) ?_
        obtain ⟨c20, h⟩ := f_n h
        refine va_ialdE (v := (σ0.1 204 (((σ0.1 214 ((x1 : Int32).toNatClampNeg)) : Int32).toNatClampNeg))) hx hb hK hP _ 0 (mg_204 G Z Y (sI σ0 200 0 (0 : Int32))) rfl c20 dX12_spent_48 rfl ?_
        refine lv_ishl hx hb dX12_spent_49 ?_
        obtain rfl := Option.some.inj h
        exact W.iret (v := ((σ0.1 206 (((σ0.1 214 ((x1 : Int32).toNatClampNeg)) : Int32).toNatClampNeg)) <<< ((σ0.1 204 (((σ0.1 214 ((x1 : Int32).toNatClampNeg)) : Int32).toNatClampNeg)) &&& 31))) hx hb hr (q_end hK hP hD hS) hS.2.2 dX12_spent_50
    · skip
      have h := f_t c4 h
      refine lv_iconst (v := (-1)) hx hb dX12_spent_23 (by decide) ?_
      obtain rfl := Option.some.inj h
      exact W.iret (v := (-1 : Int32)) hx hb hr (q_end hK hP hD hS) hS.2.2 dX12_spent_24
def rmG_Mb (d : Nat) : Room := { frames := 77 + d, cells := 0, slots := 0, locals := 1913 + d * 29 }
set_option maxRecDepth 100000 in
set_option maxHeartbeats 8000000 in
theorem W_X12_believed_L106 {p : Program} {e : Env} {s : State} {m : MethodId} {args : Array Value} {below : List Frame} {meth : Method} {c : Code} {A : Nat → Prop} (l : Launch) (D : va_G) (G : hG) (Z : hZ) (Y : va_W) (F : Nat) (d : Nat) (u_X12_believed : (hSt → Int32 → Int32 → Int32 → Int64 → Option (Int32 × hSt))) (hu_X12_believed : ∀ (σ0 : hSt) (x1 : Int32) (x2 : Int32) (x3 : Int32) (x4 : Int64) (res : (Int32 × hSt)), u_X12_believed σ0 x1 x2 x3 x4 = some res → CT l yX12_believed cX12_believed 10 (some .int) (rmG_Mb d) D G 0 0 [.ref (G.2.1 200), .int x1, .int x2, .int x3, .long x4] (mW G Z Y σ0) (mW G Z Y res.2) (some (.int res.1))) (σ0 : hSt) (x1 : Int32) (x2 : Int32) (x3 : Int32) (x4 : Int64) (y1 : Int32) (y2 : Int32) (y3 : Int32) (y8 : Int32) (res : (Int32 × hSt)) (C0 : Cx p s m args meth c cX12_believed (some .int) RX12 10 D G A) (hA : ∀ q : Nat, s.heap.size ≤ q → A q) : ∀ (n : Nat) (σ1 : hSt) (z7 : Int32) (z9 : Int32), f_X12_believed_L106 F Z u_X12_believed y1 y2 y3 y8 n σ1 z7 z9 = some res → ∀ (H : Heap) (locs : List Loc) (ls : Array Slot), va_P D vwCl (mW G Z Y σ1) H → va_D A (mW G Z Y σ1) → va_S A s.heap H locs → lv_has ls 10 [(0, .ref (G.2.1 200)), (1, .int y1), (2, .int y2), (3, .int y3), (7, .int z7), (8, .int y8), (9, .int z9)] → W p l e (rmG_Mb (d + 1)) s m args below meth c H locs 0 0 (MQ below (Qg (some (.int res.1)) D (tysG G) (mW G Z Y res.2) A) args s 0 0 A) (F0 m 106 ls []) := by
  obtain ⟨hx, hb, hr, hml, hown, hts, hlocks, hK, hE⟩ := id C0
  intro n
  induction n with
  | zero =>
    intro σ1 z7 z9 h
    cases h
  | succ n ih =>
    intro σ1 z7 z9 h H locs ls hP hD hS hl
    rw [f_X12_believed_L106] at h
    refine lv_iload hx hb dX12_believed_106 (lv_at hl 6 rfl) ?_
    refine lv_iload hx hb dX12_believed_108 (lv_at hl 5 rfl) ?_
    refine lv_icmp_ge (tgt := 148) hx hb dX12_believed_110 (by decide) (fun c12 => ?_) (fun c12 => ?_)
    · skip
      have h := f_t c12 h
      refine lv_iload hx hb dX12_believed_148 (lv_at hl 4 rfl) ?_
      obtain rfl := Option.some.inj h
      exact W.iret (v := z7) hx hb hr (q_end hK hP hD hS) hS.2.2 dX12_believed_150
    · skip
      have h := f_f c12 h
      refine lv_aload_n hx hb dX12_believed_113 rfl (lv_at hl 0 rfl) ?_
      refine va_get (D := D) (ci := 12) (v := .ref (G.2.1 218)) (C := RX12) (T := TX12) (N := 59) hx hb hts inU_X12 hown hK hP _ (mg_200 G Z Y σ1) rfl 37 (by decide) (hts _ wd_1285) (fun _ h9 => h9) rfl dX12_believed_114 ?_
      refine lv_iload_n hx hb dX12_believed_117 rfl (lv_at hl 3 rfl) ?_
      refine lv_iload hx hb dX12_believed_118 (lv_at hl 6 rfl) ?_
      refine lv_i2l (v := (z9 : Int32).toInt64) hx hb dX12_believed_120 rfl ?_
      obtain ⟨c13, h⟩ := f_n h
      refine va_last hx hb hK hP hD hS _ 1 (mg_218 G Z Y σ1) rfl c13 dX12_believed_121 (fun H locs hP hD hS => ?_)
      have hP := wrP (mp_218 G Z Y σ1 _ _) hP
      have hD := wrD (mp_218 G Z Y σ1 _ _) hD
      refine lv_iload hx hb dX12_believed_122 (lv_at hl 4 rfl) ?_
      refine lv_aload_n hx hb dX12_believed_124 rfl (lv_at hl 0 rfl) ?_
      refine lv_iload_n hx hb dX12_believed_125 rfl (lv_at hl 1 rfl) ?_
      refine lv_iload_n hx hb dX12_believed_126 rfl (lv_at hl 2 rfl) ?_
      refine lv_iload_n hx hb dX12_believed_127 rfl (lv_at hl 3 rfl) ?_
      refine lv_iconst (v := 1) hx hb dX12_believed_128 (by decide) ?_
      refine lv_iadd hx hb dX12_believed_129 ?_
      refine lv_aload_n hx hb dX12_believed_130 rfl (lv_at hl 0 rfl) ?_
      refine lv_iload_n hx hb dX12_believed_131 rfl (lv_at hl 1 rfl) ?_
      refine lv_iload_n hx hb dX12_believed_132 rfl (lv_at hl 3 rfl) ?_
      obtain ⟨q14, hq14, h⟩ := f_b h
      refine cl_V (w := (mW G Z Y (sJ σ1 218 ((y3 : Int32).toNatClampNeg) ((z9 : Int32).toInt64)))) (w' := (mW G Z Y q14.2)) (rv := some (.long q14.1)) (bytes := cX12_nextClaim) (maxL := 5) (ret := (some .long)) (C := RX12) (As := [.int y1, .int y3]) (rest := [.int (y3 + (1 : Int32)), .int y2, .int y1, .ref (G.2.1 200), .int z7]) (stk := [.long q14.1, .int (y3 + (1 : Int32)), .int y2, .int y1, .ref (G.2.1 200), .int z7]) ⟨hx, hb, hml, hown, hts⟩ hK hE hA hP hD hS (c_X12_nextClaim l D G Z Y (sJ σ1 218 ((y3 : Int32).toNatClampNeg) ((z9 : Int32).toInt64)) F y1 y3 q14 hq14) (cwV 2 hts (gwV wd_1703 wd_1705 wp_88 wd_11 wd_1706) rfl rfl rfl hd_X12_nextClaim ⟨by show 2 + 1 ≤ 77 + (d + 1); omega, by show 8 + (5 + 11) + 64 ≤ 1913 + (d + 1) * 29; omega⟩) (mg_200 G Z Y (sJ σ1 218 ((y3 : Int32).toNatClampNeg) ((z9 : Int32).toInt64))) rfl rfl rfl hl.1 rfl (Nat.le_of_ble_eq_true rfl) dX12_believed_133 ⟨Nat.zero_le _, Nat.zero_le _⟩ rfl (fun H locs hP hD hS => ?_)
      obtain ⟨q15, hq15, h⟩ := f_b h
      refine cl_V (w := (mW G Z Y q14.2)) (w' := (mW G Z Y q15.2)) (rv := some (.int q15.1)) (bytes := cX12_believed) (maxL := 10) (ret := (some .int)) (C := RX12) (As := [.int y1, .int y2, .int (y3 + (1 : Int32)), .long q14.1]) (rest := [.int z7]) (stk := [.int q15.1, .int z7]) ⟨hx, hb, hml, hown, hts⟩ hK hE hA hP hD hS (hu_X12_believed q14.2 y1 y2 (y3 + (1 : Int32)) q14.1 q15 hq15) (cwV 4 hts (gwV wd_1750 wd_1752 wp_92 wd_11 wd_1753) rfl rfl rfl hd_X12_believed ⟨by show 77 + d + 1 ≤ 77 + (d + 1); omega, by show 8 + (10 + 11) + (1913 + d * 29) ≤ 1913 + (d + 1) * 29; omega⟩) (mg_200 G Z Y q14.2) rfl rfl rfl hl.1 rfl (Nat.le_of_ble_eq_true rfl) dX12_believed_136 ⟨Nat.zero_le _, Nat.zero_le _⟩ rfl (fun H locs hP hD hS => ?_)
      refine lv_iadd hx hb dX12_believed_139 ?_
      refine lv_istore (lv' := [(7, .int (z7 + q15.1)), (0, .ref (G.2.1 200)), (1, .int y1), (2, .int y2), (3, .int y3), (8, .int y8), (9, .int z9)]) hx hb dX12_believed_140 hl (by decide) rfl (fun ls hl => ?_)
      refine lv_iinc (v := (z9 + 1)) (lv' := [(9, .int (z9 + 1)), (7, .int (z7 + q15.1)), (0, .ref (G.2.1 200)), (1, .int y1), (2, .int y2), (3, .int y3), (8, .int y8)]) hx hb dX12_believed_142 hl (k := 6) rfl rfl (by decide) rfl (fun ls hl => ?_)
      refine lv_goto (tgt := 106) hx hb dX12_believed_145 (by decide) ?_
      exact ih q15.2 (z7 + q15.1) (z9 + 1) h _ _ _ hP hD hS (lv_sub hl [2, 3, 4, 5, 1, 6, 0] rfl)
set_option maxRecDepth 100000 in
set_option maxHeartbeats 8000000 in
theorem o_X12_believed (l : Launch) (D : va_G) (G : hG) (Z : hZ) (Y : va_W) (F : Nat) (d : Nat) (u_X12_believed : (hSt → Int32 → Int32 → Int32 → Int64 → Option (Int32 × hSt))) (hu_X12_believed : ∀ (σ0 : hSt) (x1 : Int32) (x2 : Int32) (x3 : Int32) (x4 : Int64) (res : (Int32 × hSt)), u_X12_believed σ0 x1 x2 x3 x4 = some res → CT l yX12_believed cX12_believed 10 (some .int) (rmG_Mb d) D G 0 0 [.ref (G.2.1 200), .int x1, .int x2, .int x3, .long x4] (mW G Z Y σ0) (mW G Z Y res.2) (some (.int res.1))) (σ0 : hSt) (x1 : Int32) (x2 : Int32) (x3 : Int32) (x4 : Int64) (res : (Int32 × hSt)) (h : b_X12_believed F Z u_X12_believed σ0 x1 x2 x3 x4 = some res) : CT l yX12_believed cX12_believed 10 (some .int) (rmG_Mb (d + 1)) D G 0 0 [.ref (G.2.1 200), .int x1, .int x2, .int x3, .long x4] (mW G Z Y σ0) (mW G Z Y res.2) (some (.int res.1)) := by
  unfold b_X12_believed at h
  refine CT.mk (cc := cX12_believed) (maxL := 10) (ret := (some .int)) (own := RX12) (plainFor_of_name (by decide)) rfl (Nat.le_of_ble_eq_true rfl) ?_
  intro p e s m args below meth c A ls C0 hnm hA hP hD hl
  obtain ⟨hx, hb, hr, hml, hown, hts, hlocks, hK, hE⟩ := id C0
  have hS : va_S A s.heap s.heap [] := va_S.rf
  have hl : lv_has ls 10 [(0, .ref (G.2.1 200)), (1, .int x1), (2, .int x2), (3, .int x3), (4, .long x4)] := hl
  refine lv_aload_n hx hb dX12_believed_0 rfl (lv_at hl 0 rfl) ?_
  refine va_get (D := D) (ci := 12) (v := .ref (G.2.1 214)) (C := RX12) (T := TX12) (N := 59) hx hb hts inU_X12 hown hK hP _ (mg_200 G Z Y σ0) rfl 32 (by decide) (hts _ wd_1280) (fun _ h9 => h9) rfl dX12_believed_1 ?_
  refine lv_iload_n hx hb dX12_believed_4 rfl (lv_at hl 1 rfl) ?_
  obtain ⟨c1, h⟩ := f_n h
  refine va_ialdE (v := (σ0.1 214 ((x1 : Int32).toNatClampNeg))) hx hb hK hP _ 0 (mg_214 G Z Y σ0) rfl c1 dX12_believed_5 rfl ?_
  refine lv_istore (lv' := [(6, .int (σ0.1 214 ((x1 : Int32).toNatClampNeg))), (0, .ref (G.2.1 200)), (1, .int x1), (2, .int x2), (3, .int x3), (4, .long x4)]) hx hb dX12_believed_6 hl (by decide) rfl (fun ls hl => ?_)
  refine lv_iload_n hx hb dX12_believed_8 rfl (lv_at hl 4 rfl) ?_
  refine lv_aload_n hx hb dX12_believed_9 rfl (lv_at hl 1 rfl) ?_
  refine va_get (D := D) (ci := 12) (v := .ref (G.2.1 204)) (C := RX12) (T := TX12) (N := 59) hx hb hts inU_X12 hown hK hP _ (mg_200 G Z Y σ0) rfl 12 (by decide) (hts _ wd_1260) (fun _ h9 => h9) rfl dX12_believed_10 ?_
  refine lv_iload hx hb dX12_believed_13 (lv_at hl 0 rfl) ?_
  obtain ⟨c2, h⟩ := f_n h
  refine va_ialdE (v := (σ0.1 204 (((σ0.1 214 ((x1 : Int32).toNatClampNeg)) : Int32).toNatClampNeg))) hx hb hK hP _ 0 (mg_204 G Z Y σ0) rfl c2 dX12_believed_15 rfl ?_
  refine lv_icmp_ne (tgt := 35) hx hb dX12_believed_16 (by decide) (fun c3 => ?_) (fun c3 => ?_)
  · skip
    have h := f_f c3 h
    refine lv_aload_n hx hb dX12_believed_35 rfl (lv_at hl 1 rfl) ?_
    refine lv_iload_n hx hb dX12_believed_36 rfl (lv_at hl 2 rfl) ?_
    refine lv_iload_n hx hb dX12_believed_37 rfl (lv_at hl 4 rfl) ?_
    refine lv_lload hx hb dX12_believed_38 (lv_at hl 5 rfl) ?_
    refine lv_iload_n hx hb dX12_believed_40 rfl (lv_at hl 3 rfl) ?_
    obtain ⟨q4, hq4, h⟩ := f_b h
    refine cl_V (w := (mW G Z Y σ0)) (w' := (mW G Z Y q4.2)) (rv := none) (bytes := cX12_speaks) (maxL := 13) (ret := none) (C := RX12) (As := [.int x1, .int x3, .long x4, .int x2]) (rest := []) (stk := []) ⟨hx, hb, hml, hown, hts⟩ hK hE hA hP hD hS (c_X12_speaks l D G Z Y σ0 F x1 x3 x4 x2 q4 hq4) (cwV 4 hts (gwV wd_1679 wd_1681 wp_82 wd_11 wd_1682) rfl rfl rfl hd_X12_speaks ⟨by show 74 + 1 ≤ 77 + (d + 1); omega, by show 8 + (13 + 11) + 1840 ≤ 1913 + (d + 1) * 29; omega⟩) (mg_200 G Z Y σ0) rfl rfl rfl hl.1 rfl (Nat.le_of_ble_eq_true rfl) dX12_believed_41 ⟨Nat.zero_le _, Nat.zero_le _⟩ rfl (fun H locs hP hD hS => ?_)
    refine lv_aload_n hx hb dX12_believed_44 rfl (lv_at hl 1 rfl) ?_
    refine lv_aload_n hx hb dX12_believed_45 rfl (lv_at hl 1 rfl) ?_
    refine va_get (D := D) (ci := 12) (v := .ref (G.2.1 216)) (C := RX12) (T := TX12) (N := 59) hx hb hts inU_X12 hown hK hP _ (mg_200 G Z Y q4.2) rfl 34 (by decide) (hts _ wd_1282) (fun _ h9 => h9) rfl dX12_believed_46 ?_
    refine lv_iload_n hx hb dX12_believed_49 rfl (lv_at hl 2 rfl) ?_
    obtain ⟨c5, h⟩ := f_n h
    refine va_ialdE (v := (q4.2.1 216 ((x1 : Int32).toNatClampNeg))) hx hb hK hP _ 0 (mg_216 G Z Y q4.2) rfl c5 dX12_believed_50 rfl ?_
    refine lv_iload hx hb dX12_believed_51 (lv_at hl 0 rfl) ?_
    refine lv_aload_n hx hb dX12_believed_53 rfl (lv_at hl 1 rfl) ?_
    refine va_get (D := D) (ci := 12) (v := .ref (G.2.1 215)) (C := RX12) (T := TX12) (N := 59) hx hb hts inU_X12 hown hK hP _ (mg_200 G Z Y q4.2) rfl 33 (by decide) (hts _ wd_1281) (fun _ h9 => h9) rfl dX12_believed_54 ?_
    refine lv_iload_n hx hb dX12_believed_57 rfl (lv_at hl 2 rfl) ?_
    obtain ⟨c6, h⟩ := f_n h
    refine va_ialdE (v := (q4.2.1 215 ((x1 : Int32).toNatClampNeg))) hx hb hK hP _ 0 (mg_215 G Z Y q4.2) rfl c6 dX12_believed_58 rfl ?_
    refine lv_iload_n hx hb dX12_believed_59 rfl (lv_at hl 4 rfl) ?_
    obtain ⟨q7, hq7, h⟩ := f_b h
    refine cl_V (w := (mW G Z Y q4.2)) (w' := (mW G Z Y q7.2)) (rv := some (.int q7.1)) (bytes := cX12_asksSum) (maxL := 5) (ret := (some .boolean)) (C := RX12) (As := [.int (q4.2.1 216 ((x1 : Int32).toNatClampNeg)), .int (σ0.1 214 ((x1 : Int32).toNatClampNeg)), .int (q4.2.1 215 ((x1 : Int32).toNatClampNeg)), .int x3]) (rest := []) (stk := [.int q7.1]) ⟨hx, hb, hml, hown, hts⟩ hK hE hA hP hD hS (c_X12_asksSum l D G Z Y q4.2 F (q4.2.1 216 ((x1 : Int32).toNatClampNeg)) (σ0.1 214 ((x1 : Int32).toNatClampNeg)) (q4.2.1 215 ((x1 : Int32).toNatClampNeg)) x3 q7 hq7) (cwV 4 hts (gwV wd_1687 wd_1689 wp_84 wd_11 wd_1690) rfl rfl rfl hd_X12_asksSum ⟨by show 75 + 1 ≤ 77 + (d + 1); omega, by show 8 + (5 + 11) + 1865 ≤ 1913 + (d + 1) * 29; omega⟩) (mg_200 G Z Y q4.2) rfl rfl rfl hl.1 rfl (Nat.le_of_ble_eq_true rfl) dX12_believed_60 ⟨Nat.zero_le _, Nat.zero_le _⟩ rfl (fun H locs hP hD hS => ?_)
    refine lv_if_eq (tgt := 79) hx hb dX12_believed_63 (by decide) (fun c8 => ?_) (fun c8 => ?_)
    · skip
      have h := f_t c8 h
      refine lv_iconst (v := 0) hx hb dX12_believed_79 (by decide) ?_
      refine lv_istore (lv' := [(7, .int (0 : Int32)), (6, .int (σ0.1 214 ((x1 : Int32).toNatClampNeg))), (0, .ref (G.2.1 200)), (1, .int x1), (2, .int x2), (3, .int x3), (4, .long x4)]) hx hb dX12_believed_80 hl (by decide) rfl (fun ls hl => ?_)
      refine lv_aload_n hx hb dX12_believed_82 rfl (lv_at hl 2 rfl) ?_
      refine lv_aload_n hx hb dX12_believed_83 rfl (lv_at hl 2 rfl) ?_
      refine va_get (D := D) (ci := 12) (v := .ref (G.2.1 216)) (C := RX12) (T := TX12) (N := 59) hx hb hts inU_X12 hown hK hP _ (mg_200 G Z Y q7.2) rfl 34 (by decide) (hts _ wd_1282) (fun _ h9 => h9) rfl dX12_believed_84 ?_
      refine lv_iload_n hx hb dX12_believed_87 rfl (lv_at hl 3 rfl) ?_
      obtain ⟨c9, h⟩ := f_n h
      refine va_ialdE (v := (q7.2.1 216 ((x1 : Int32).toNatClampNeg))) hx hb hK hP _ 0 (mg_216 G Z Y q7.2) rfl c9 dX12_believed_88 rfl ?_
      refine lv_iload hx hb dX12_believed_89 (lv_at hl 1 rfl) ?_
      refine lv_aload_n hx hb dX12_believed_91 rfl (lv_at hl 2 rfl) ?_
      refine va_get (D := D) (ci := 12) (v := .ref (G.2.1 215)) (C := RX12) (T := TX12) (N := 59) hx hb hts inU_X12 hown hK hP _ (mg_200 G Z Y q7.2) rfl 33 (by decide) (hts _ wd_1281) (fun _ h9 => h9) rfl dX12_believed_92 ?_
      refine lv_iload_n hx hb dX12_believed_95 rfl (lv_at hl 3 rfl) ?_
      obtain ⟨c10, h⟩ := f_n h
      refine va_ialdE (v := (q7.2.1 215 ((x1 : Int32).toNatClampNeg))) hx hb hK hP _ 0 (mg_215 G Z Y q7.2) rfl c10 dX12_believed_96 rfl ?_
      refine lv_iload_n hx hb dX12_believed_97 rfl (lv_at hl 5 rfl) ?_
      obtain ⟨q11, hq11, h⟩ := f_b h
      refine cl_V (w := (mW G Z Y q7.2)) (w' := (mW G Z Y q11.2)) (rv := some (.int q11.1)) (bytes := cX12_draws) (maxL := 5) (ret := (some .int)) (C := RX12) (As := [.int (q7.2.1 216 ((x1 : Int32).toNatClampNeg)), .int (σ0.1 214 ((x1 : Int32).toNatClampNeg)), .int (q7.2.1 215 ((x1 : Int32).toNatClampNeg)), .int x3]) (rest := []) (stk := [.int q11.1]) ⟨hx, hb, hml, hown, hts⟩ hK hE hA hP hD hS (c_X12_draws l D G Z Y q7.2 F (q7.2.1 216 ((x1 : Int32).toNatClampNeg)) (σ0.1 214 ((x1 : Int32).toNatClampNeg)) (q7.2.1 215 ((x1 : Int32).toNatClampNeg)) x3 q11 hq11) (cwV 4 hts (gwV wd_1699 wd_1701 wp_87 wd_11 wd_1702) rfl rfl rfl hd_X12_draws ⟨by show 75 + 1 ≤ 77 + (d + 1); omega, by show 8 + (5 + 11) + 1865 ≤ 1913 + (d + 1) * 29; omega⟩) (mg_200 G Z Y q7.2) rfl rfl rfl hl.1 rfl (Nat.le_of_ble_eq_true rfl) dX12_believed_98 ⟨Nat.zero_le _, Nat.zero_le _⟩ rfl (fun H locs hP hD hS => ?_)
      refine lv_istore (lv' := [(8, .int q11.1), (7, .int (0 : Int32)), (6, .int (σ0.1 214 ((x1 : Int32).toNatClampNeg))), (0, .ref (G.2.1 200)), (1, .int x1), (2, .int x2), (3, .int x3), (4, .long x4)]) hx hb dX12_believed_101 hl (by decide) rfl (fun ls hl => ?_)
      refine lv_iconst (v := 0) hx hb dX12_believed_103 (by decide) ?_
      refine lv_istore (lv' := [(9, .int (0 : Int32)), (8, .int q11.1), (7, .int (0 : Int32)), (6, .int (σ0.1 214 ((x1 : Int32).toNatClampNeg))), (0, .ref (G.2.1 200)), (1, .int x1), (2, .int x2), (3, .int x3), (4, .long x4)]) hx hb dX12_believed_104 hl (by decide) rfl (fun ls hl => ?_)
      refine W_X12_believed_L106 l D G Z Y F d u_X12_believed hu_X12_believed σ0 x1 x2 x3 x4 x1 x2 x3 q11.1 res C0 hA F q11.2 (0 : Int32) (0 : Int32) h _ _ _ hP hD hS (lv_sub hl [4, 5, 6, 7, 2, 1, 0] rfl)
    · skip
      have h := f_f c8 h
      refine lv_aload_n hx hb dX12_believed_66 rfl (lv_at hl 1 rfl) ?_
      refine lv_iload_n hx hb dX12_believed_67 rfl (lv_at hl 2 rfl) ?_
      refine lv_iload_n hx hb dX12_believed_68 rfl (lv_at hl 4 rfl) ?_
      refine lv_lload hx hb dX12_believed_69 (lv_at hl 5 rfl) ?_
      obtain ⟨q16, hq16, h⟩ := f_b h
      refine cl_V (w := (mW G Z Y q7.2)) (w' := (mW G Z Y q7.2)) (rv := some (.int q16)) (bytes := cX12_sumsUp) (maxL := 6) (ret := (some .boolean)) (C := RX12) (As := [.int x1, .int x3, .long x4]) (rest := []) (stk := [.int q16]) ⟨hx, hb, hml, hown, hts⟩ hK hE hA hP hD hS (c_X12_sumsUp l D G Z Y q7.2 x1 x3 x4 q16 hq16) (cwV 3 hts (gwV wd_1695 wd_1697 wp_86 wd_11 wd_1698) rfl rfl rfl hd_X12_sumsUp ⟨by show 0 + 1 ≤ 77 + (d + 1); omega, by show 8 + (6 + 11) + 0 ≤ 1913 + (d + 1) * 29; omega⟩) (mg_200 G Z Y q7.2) rfl rfl rfl hl.1 rfl (Nat.le_of_ble_eq_true rfl) dX12_believed_71 ⟨Nat.zero_le _, Nat.zero_le _⟩ rfl (fun H locs hP hD hS => ?_)
      refine lv_if_ne (tgt := 79) hx hb dX12_believed_74 (by decide) (fun c17 => ?_) (fun c17 => ?_)
      · skip
        have h := f_f c17 h
        refine lv_iconst (v := 0) hx hb dX12_believed_79 (by decide) ?_
        refine lv_istore (lv' := [(7, .int (0 : Int32)), (6, .int (σ0.1 214 ((x1 : Int32).toNatClampNeg))), (0, .ref (G.2.1 200)), (1, .int x1), (2, .int x2), (3, .int x3), (4, .long x4)]) hx hb dX12_believed_80 hl (by decide) rfl (fun ls hl => ?_)
        refine lv_aload_n hx hb dX12_believed_82 rfl (lv_at hl 2 rfl) ?_
        refine lv_aload_n hx hb dX12_believed_83 rfl (lv_at hl 2 rfl) ?_
        refine va_get (D := D) (ci := 12) (v := .ref (G.2.1 216)) (C := RX12) (T := TX12) (N := 59) hx hb hts inU_X12 hown hK hP _ (mg_200 G Z Y q7.2) rfl 34 (by decide) (hts _ wd_1282) (fun _ h9 => h9) rfl dX12_believed_84 ?_
        refine lv_iload_n hx hb dX12_believed_87 rfl (lv_at hl 3 rfl) ?_
        obtain ⟨c18, h⟩ := f_n h
        refine va_ialdE (v := (q7.2.1 216 ((x1 : Int32).toNatClampNeg))) hx hb hK hP _ 0 (mg_216 G Z Y q7.2) rfl c18 dX12_believed_88 rfl ?_
        refine lv_iload hx hb dX12_believed_89 (lv_at hl 1 rfl) ?_
        refine lv_aload_n hx hb dX12_believed_91 rfl (lv_at hl 2 rfl) ?_
        refine va_get (D := D) (ci := 12) (v := .ref (G.2.1 215)) (C := RX12) (T := TX12) (N := 59) hx hb hts inU_X12 hown hK hP _ (mg_200 G Z Y q7.2) rfl 33 (by decide) (hts _ wd_1281) (fun _ h9 => h9) rfl dX12_believed_92 ?_
        refine lv_iload_n hx hb dX12_believed_95 rfl (lv_at hl 3 rfl) ?_
        obtain ⟨c19, h⟩ := f_n h
        refine va_ialdE (v := (q7.2.1 215 ((x1 : Int32).toNatClampNeg))) hx hb hK hP _ 0 (mg_215 G Z Y q7.2) rfl c19 dX12_believed_96 rfl ?_
        refine lv_iload_n hx hb dX12_believed_97 rfl (lv_at hl 5 rfl) ?_
        obtain ⟨q20, hq20, h⟩ := f_b h
        refine cl_V (w := (mW G Z Y q7.2)) (w' := (mW G Z Y q20.2)) (rv := some (.int q20.1)) (bytes := cX12_draws) (maxL := 5) (ret := (some .int)) (C := RX12) (As := [.int (q7.2.1 216 ((x1 : Int32).toNatClampNeg)), .int (σ0.1 214 ((x1 : Int32).toNatClampNeg)), .int (q7.2.1 215 ((x1 : Int32).toNatClampNeg)), .int x3]) (rest := []) (stk := [.int q20.1]) ⟨hx, hb, hml, hown, hts⟩ hK hE hA hP hD hS (c_X12_draws l D G Z Y q7.2 F (q7.2.1 216 ((x1 : Int32).toNatClampNeg)) (σ0.1 214 ((x1 : Int32).toNatClampNeg)) (q7.2.1 215 ((x1 : Int32).toNatClampNeg)) x3 q20 hq20) (cwV 4 hts (gwV wd_1699 wd_1701 wp_87 wd_11 wd_1702) rfl rfl rfl hd_X12_draws ⟨by show 75 + 1 ≤ 77 + (d + 1); omega, by show 8 + (5 + 11) + 1865 ≤ 1913 + (d + 1) * 29; omega⟩) (mg_200 G Z Y q7.2) rfl rfl rfl hl.1 rfl (Nat.le_of_ble_eq_true rfl) dX12_believed_98 ⟨Nat.zero_le _, Nat.zero_le _⟩ rfl (fun H locs hP hD hS => ?_)
        refine lv_istore (lv' := [(8, .int q20.1), (7, .int (0 : Int32)), (6, .int (σ0.1 214 ((x1 : Int32).toNatClampNeg))), (0, .ref (G.2.1 200)), (1, .int x1), (2, .int x2), (3, .int x3), (4, .long x4)]) hx hb dX12_believed_101 hl (by decide) rfl (fun ls hl => ?_)
        refine lv_iconst (v := 0) hx hb dX12_believed_103 (by decide) ?_
        refine lv_istore (lv' := [(9, .int (0 : Int32)), (8, .int q20.1), (7, .int (0 : Int32)), (6, .int (σ0.1 214 ((x1 : Int32).toNatClampNeg))), (0, .ref (G.2.1 200)), (1, .int x1), (2, .int x2), (3, .int x3), (4, .long x4)]) hx hb dX12_believed_104 hl (by decide) rfl (fun ls hl => ?_)
        refine W_X12_believed_L106 l D G Z Y F d u_X12_believed hu_X12_believed σ0 x1 x2 x3 x4 x1 x2 x3 q20.1 res C0 hA F q20.2 (0 : Int32) (0 : Int32) h _ _ _ hP hD hS (lv_sub hl [4, 5, 6, 7, 2, 1, 0] rfl)
      · skip
        have h := f_t c17 h
        refine lv_iconst (v := 0) hx hb dX12_believed_77 (by decide) ?_
        obtain rfl := Option.some.inj h
        exact W.iret (v := (0 : Int32)) hx hb hr (q_end hK hP hD hS) hS.2.2 dX12_believed_78
  · skip
    have h := f_t c3 h
    refine lv_aload_n hx hb dX12_believed_19 rfl (lv_at hl 1 rfl) ?_
    refine lv_iload_n hx hb dX12_believed_20 rfl (lv_at hl 2 rfl) ?_
    refine lv_lload hx hb dX12_believed_21 (lv_at hl 5 rfl) ?_
    obtain ⟨q21, hq21, h⟩ := f_b h
    refine cl_V (w := (mW G Z Y σ0)) (w' := (mW G Z Y q21.2)) (rv := some (.int q21.1)) (bytes := cX12_endsWell) (maxL := 6) (ret := (some .boolean)) (C := RX12) (As := [.int x1, .long x4]) (rest := []) (stk := [.int q21.1]) ⟨hx, hb, hml, hown, hts⟩ hK hE hA hP hD hS (c_X12_endsWell l D G Z Y σ0 F x1 x4 q21 hq21) (cwV 2 hts (gwV wd_1707 wd_1709 wp_89 wd_11 wd_1710) rfl rfl rfl hd_X12_endsWell ⟨by show 76 + 1 ≤ 77 + (d + 1); omega, by show 8 + (6 + 11) + 1888 ≤ 1913 + (d + 1) * 29; omega⟩) (mg_200 G Z Y σ0) rfl rfl rfl hl.1 rfl (Nat.le_of_ble_eq_true rfl) dX12_believed_23 ⟨Nat.zero_le _, Nat.zero_le _⟩ rfl (fun H locs hP hD hS => ?_)
    refine lv_if_eq (tgt := 33) hx hb dX12_believed_26 (by decide) (fun c22 => ?_) (fun c22 => ?_)
    · skip
      have h := f_t c22 h
      refine lv_iconst (v := 0) hx hb dX12_believed_33 (by decide) ?_
      obtain rfl := Option.some.inj h
      exact W.iret (v := (0 : Int32)) hx hb hr (q_end hK hP hD hS) hS.2.2 dX12_believed_34
    · skip
      have h := f_f c22 h
      refine lv_iconst (v := 1) hx hb dX12_believed_29 (by decide) ?_
      refine lv_goto (tgt := 34) hx hb dX12_believed_30 (by decide) ?_
      obtain rfl := Option.some.inj h
      exact W.iret (v := (1 : Int32)) hx hb hr (q_end hK hP hD hS) hS.2.2 dX12_believed_34
set_option maxRecDepth 100000 in
set_option maxHeartbeats 8000000 in
theorem c_G_Mb (l : Launch) (D : va_G) (G : hG) (Z : hZ) (Y : va_W) (F : Nat) : ∀ d : Nat, (∀ (σ0 : hSt) (x1 : Int32) (x2 : Int32) (x3 : Int32) (x4 : Int64) (res : (Int32 × hSt)), (G_Mb F Z d) σ0 x1 x2 x3 x4 = some res → CT l yX12_believed cX12_believed 10 (some .int) (rmG_Mb d) D G 0 0 [.ref (G.2.1 200), .int x1, .int x2, .int x3, .long x4] (mW G Z Y σ0) (mW G Z Y res.2) (some (.int res.1))) := by
  intro d
  induction d with
  | zero =>
    exact fun σ0 x1 x2 x3 x4 res h => by
        have h1 : (none : Option (Int32 × hSt)) = some res := h
        cases h1
  | succ d ih =>
    have i_X12_believed := ih
    exact fun σ0 x1 x2 x3 x4 res h => o_X12_believed l D G Z Y F d _ i_X12_believed σ0 x1 x2 x3 x4 res h
abbrev rm_X12_believed : Room := rmG_Mb 8
theorem c_X12_believed (l : Launch) (D : va_G) (G : hG) (Z : hZ) (Y : va_W) (σ0 : hSt) (F : Nat) (x1 : Int32) (x2 : Int32) (x3 : Int32) (x4 : Int64) (res : (Int32 × hSt)) (h : f_X12_believed F Z σ0 x1 x2 x3 x4 = some res) : CT l yX12_believed cX12_believed 10 (some .int) rm_X12_believed D G 0 0 [.ref (G.2.1 200), .int x1, .int x2, .int x3, .long x4] (mW G Z Y σ0) (mW G Z Y res.2) (some (.int res.1)) := (c_G_Mb l D G Z Y F 8) σ0 x1 x2 x3 x4 res h
abbrev rm_X12_odds : Room := { frames := 86, cells := 0, slots := 0, locals := 2174 }
set_option maxRecDepth 100000 in
set_option maxHeartbeats 8000000 in
theorem W_X12_odds_L35 {p : Program} {e : Env} {s : State} {m : MethodId} {args : Array Value} {below : List Frame} {meth : Method} {c : Code} {A : Nat → Prop} (l : Launch) (D : va_G) (G : hG) (Z : hZ) (Y : va_W) (σ0 : hSt) (F : Nat) (x1 : Int32) (x2 : Int32) (x3 : Int32) (y1 : Int32) (y2 : Int32) (y3 : Int32) (y4 : Int32) (res : (Int32 × hSt)) (C0 : Cx p s m args meth c cX12_odds (some .int) RX12 8 D G A) (hA : ∀ q : Nat, s.heap.size ≤ q → A q) (k88 : hSt → Int64 → Option (Int32 × hSt)) (hk88 : ∀ (σ1 : hSt) (z5 : Int64), k88 σ1 z5 = some res → ∀ (H : Heap) (locs : List Loc) (ls : Array Slot), va_P D vwCl (mW G Z Y σ1) H → va_D A (mW G Z Y σ1) → va_S A s.heap H locs → lv_has ls 8 [(0, .ref (G.2.1 200)), (1, .int y1), (2, .int y2), (3, .int y3), (5, .long z5)] → W p l e rm_X12_odds s m args below meth c H locs 0 0 (MQ below (Qg (some (.int res.1)) D (tysG G) (mW G Z Y res.2) A) args s 0 0 A) (F0 m 88 ls [])) : ∀ (n : Nat) (σ1 : hSt) (z5 : Int64) (z7 : Int32), f_X12_odds_L35 F Z y1 y2 y3 y4 k88 n σ1 z5 z7 = some res → ∀ (H : Heap) (locs : List Loc) (ls : Array Slot), va_P D vwCl (mW G Z Y σ1) H → va_D A (mW G Z Y σ1) → va_S A s.heap H locs → lv_has ls 8 [(0, .ref (G.2.1 200)), (1, .int y1), (2, .int y2), (3, .int y3), (4, .int y4), (5, .long z5), (7, .int z7)] → W p l e rm_X12_odds s m args below meth c H locs 0 0 (MQ below (Qg (some (.int res.1)) D (tysG G) (mW G Z Y res.2) A) args s 0 0 A) (F0 m 35 ls []) := by
  obtain ⟨hx, hb, hr, hml, hown, hts, hlocks, hK, hE⟩ := id C0
  intro n
  induction n with
  | zero =>
    intro σ1 z5 z7 h
    cases h
  | succ n ih =>
    intro σ1 z5 z7 h H locs ls hP hD hS hl
    rw [f_X12_odds_L35] at h
    refine lv_iload hx hb dX12_odds_35 (lv_at hl 6 rfl) ?_
    refine lv_aload_n hx hb dX12_odds_37 rfl (lv_at hl 0 rfl) ?_
    refine va_get (D := D) (ci := 12) (v := .ref (G.2.1 204)) (C := RX12) (T := TX12) (N := 59) hx hb hts inU_X12 hown hK hP _ (mg_200 G Z Y σ1) rfl 12 (by decide) (hts _ wd_1260) (fun _ h9 => h9) rfl dX12_odds_38 ?_
    refine lv_iload hx hb dX12_odds_41 (lv_at hl 4 rfl) ?_
    obtain ⟨c6, h⟩ := f_n h
    refine va_ialdE (v := (σ1.1 204 ((y4 : Int32).toNatClampNeg))) hx hb hK hP _ 0 (mg_204 G Z Y σ1) rfl c6 dX12_odds_43 rfl ?_
    refine lv_icmp_ge (tgt := 88) hx hb dX12_odds_44 (by decide) (fun c7 => ?_) (fun c7 => ?_)
    · skip
      have h := f_t c7 h
      exact hk88 σ1 z5 h _ _ _ hP hD hS (lv_sub hl [0, 1, 2, 3, 5] rfl)
    · skip
      have h := f_f c7 h
      refine lv_lload hx hb dX12_odds_47 (lv_at hl 5 rfl) ?_
      refine lv_ldc2 (v := 2000) hx hb hown (hts _ wd_1749) dX12_odds_49 ?_
      refine W.lcmp hx hb dX12_odds_52 ?_
      refine lv_if_gt (tgt := 88) hx hb dX12_odds_53 (by decide) (fun c8 => ?_) (fun c8 => ?_)
      · skip
        have c8 := (lg_cmp_gt _ _).mp c8
        have h := f_t c8 h
        exact hk88 σ1 z5 h _ _ _ hP hD hS (lv_sub hl [0, 1, 2, 3, 5] rfl)
      · skip
        have c8 := mt (lg_cmp_gt _ _).mpr c8
        have h := f_f c8 h
        refine lv_lload hx hb dX12_odds_56 (lv_at hl 5 rfl) ?_
        refine lv_aload_n hx hb dX12_odds_58 rfl (lv_at hl 0 rfl) ?_
        refine lv_aload_n hx hb dX12_odds_59 rfl (lv_at hl 0 rfl) ?_
        refine va_get (D := D) (ci := 12) (v := .ref (G.2.1 216)) (C := RX12) (T := TX12) (N := 59) hx hb hts inU_X12 hown hK hP _ (mg_200 G Z Y σ1) rfl 34 (by decide) (hts _ wd_1282) (fun _ h9 => h9) rfl dX12_odds_60 ?_
        refine lv_iload_n hx hb dX12_odds_63 rfl (lv_at hl 1 rfl) ?_
        obtain ⟨c9, h⟩ := f_n h
        refine va_ialdE (v := (σ1.1 216 ((y1 : Int32).toNatClampNeg))) hx hb hK hP _ 0 (mg_216 G Z Y σ1) rfl c9 dX12_odds_64 rfl ?_
        refine lv_iload hx hb dX12_odds_65 (lv_at hl 4 rfl) ?_
        refine lv_aload_n hx hb dX12_odds_67 rfl (lv_at hl 0 rfl) ?_
        refine va_get (D := D) (ci := 12) (v := .ref (G.2.1 215)) (C := RX12) (T := TX12) (N := 59) hx hb hts inU_X12 hown hK hP _ (mg_200 G Z Y σ1) rfl 33 (by decide) (hts _ wd_1281) (fun _ h9 => h9) rfl dX12_odds_68 ?_
        refine lv_iload_n hx hb dX12_odds_71 rfl (lv_at hl 1 rfl) ?_
        obtain ⟨c10, h⟩ := f_n h
        refine va_ialdE (v := (σ1.1 215 ((y1 : Int32).toNatClampNeg))) hx hb hK hP _ 0 (mg_215 G Z Y σ1) rfl c10 dX12_odds_72 rfl ?_
        refine lv_iload hx hb dX12_odds_73 (lv_at hl 6 rfl) ?_
        obtain ⟨q11, hq11, h⟩ := f_b h
        refine cl_V (w := (mW G Z Y σ1)) (w' := (mW G Z Y q11.2)) (rv := some (.int q11.1)) (bytes := cX12_draws) (maxL := 5) (ret := (some .int)) (C := RX12) (As := [.int (σ1.1 216 ((y1 : Int32).toNatClampNeg)), .int y4, .int (σ1.1 215 ((y1 : Int32).toNatClampNeg)), .int z7]) (rest := [.long z5]) (stk := [.int q11.1, .long z5]) ⟨hx, hb, hml, hown, hts⟩ hK hE hA hP hD hS (c_X12_draws l D G Z Y σ1 F (σ1.1 216 ((y1 : Int32).toNatClampNeg)) y4 (σ1.1 215 ((y1 : Int32).toNatClampNeg)) z7 q11 hq11) (cwV 4 hts (gwV wd_1699 wd_1701 wp_87 wd_11 wd_1702) rfl rfl rfl hd_X12_draws ⟨Nat.le_of_ble_eq_true rfl, Nat.le_of_ble_eq_true rfl⟩) (mg_200 G Z Y σ1) rfl rfl rfl hl.1 rfl (Nat.le_of_ble_eq_true rfl) dX12_odds_75 ⟨Nat.zero_le _, Nat.zero_le _⟩ rfl (fun H locs hP hD hS => ?_)
        refine lv_i2l (v := (q11.1 : Int32).toInt64) hx hb dX12_odds_78 rfl ?_
        refine lv_lmul hx hb dX12_odds_79 ?_
        refine lv_lstore (lv' := [(5, .long (z5 * (q11.1 : Int32).toInt64)), (0, .ref (G.2.1 200)), (1, .int y1), (2, .int y2), (3, .int y3), (4, .int y4), (7, .int z7)]) hx hb dX12_odds_80 hl (by decide) rfl (fun ls hl => ?_)
        refine lv_iinc (v := (z7 + 1)) (lv' := [(7, .int (z7 + 1)), (5, .long (z5 * (q11.1 : Int32).toInt64)), (0, .ref (G.2.1 200)), (1, .int y1), (2, .int y2), (3, .int y3), (4, .int y4)]) hx hb dX12_odds_82 hl (k := 6) rfl rfl (by decide) rfl (fun ls hl => ?_)
        refine lv_goto (tgt := 35) hx hb dX12_odds_85 (by decide) ?_
        exact ih q11.2 (z5 * (q11.1 : Int32).toInt64) (z7 + 1) h _ _ _ hP hD hS (lv_sub hl [2, 3, 4, 5, 6, 1, 0] rfl)
set_option maxRecDepth 100000 in
set_option maxHeartbeats 8000000 in
theorem c_X12_odds (l : Launch) (D : va_G) (G : hG) (Z : hZ) (Y : va_W) (σ0 : hSt) (F : Nat) (x1 : Int32) (x2 : Int32) (x3 : Int32) (res : (Int32 × hSt)) (h : f_X12_odds F Z σ0 x1 x2 x3 = some res) : CT l yX12_odds cX12_odds 8 (some .int) rm_X12_odds D G 0 0 [.ref (G.2.1 200), .int x1, .int x2, .int x3] (mW G Z Y σ0) (mW G Z Y res.2) (some (.int res.1)) := by
  unfold f_X12_odds at h
  refine CT.mk (cc := cX12_odds) (maxL := 8) (ret := (some .int)) (own := RX12) (plainFor_of_name (by decide)) rfl (Nat.le_of_ble_eq_true rfl) ?_
  intro p e s m args below meth c A ls C0 hnm hA hP hD hl
  obtain ⟨hx, hb, hr, hml, hown, hts, hlocks, hK, hE⟩ := id C0
  have hS : va_S A s.heap s.heap [] := va_S.rf
  have hl : lv_has ls 8 [(0, .ref (G.2.1 200)), (1, .int x1), (2, .int x2), (3, .int x3)] := hl
  refine lv_aload_n hx hb dX12_odds_0 rfl (lv_at hl 0 rfl) ?_
  refine lv_iload_n hx hb dX12_odds_1 rfl (lv_at hl 1 rfl) ?_
  refine lv_iload_n hx hb dX12_odds_2 rfl (lv_at hl 2 rfl) ?_
  obtain ⟨q1, hq1, h⟩ := f_b h
  refine cl_V (w := (mW G Z Y σ0)) (w' := (mW G Z Y q1.2)) (rv := some (.int q1.1)) (bytes := cX12_isAsked) (maxL := 3) (ret := (some .boolean)) (C := RX12) (As := [.int x1, .int x2]) (rest := []) (stk := [.int q1.1]) ⟨hx, hb, hml, hown, hts⟩ hK hE hA hP hD hS (c_X12_isAsked l D G Z Y σ0 x1 x2 q1 hq1) (cwV 2 hts (gwV wd_1648 wd_1650 wp_75 wd_11 wd_1651) rfl rfl rfl hd_X12_isAsked ⟨Nat.le_of_ble_eq_true rfl, Nat.le_of_ble_eq_true rfl⟩) (mg_200 G Z Y σ0) rfl rfl rfl hl.1 rfl (Nat.le_of_ble_eq_true rfl) dX12_odds_3 ⟨Nat.zero_le _, Nat.zero_le _⟩ rfl (fun H locs hP hD hS => ?_)
  refine lv_if_eq (tgt := 19) hx hb dX12_odds_6 (by decide) (fun c2 => ?_) (fun c2 => ?_)
  · skip
    have h := f_t c2 h
    refine lv_iconst (v := (-1)) hx hb dX12_odds_19 (by decide) ?_
    obtain rfl := Option.some.inj h
    exact W.iret (v := (-1 : Int32)) hx hb hr (q_end hK hP hD hS) hS.2.2 dX12_odds_20
  · skip
    have h := f_f c2 h
    refine lv_iload_n hx hb dX12_odds_9 rfl (lv_at hl 3 rfl) ?_
    refine lv_i2l (v := (x3 : Int32).toInt64) hx hb dX12_odds_10 rfl ?_
    refine lv_lconst (v := 0) hx hb dX12_odds_11 (by decide) ?_
    refine lv_lconst (v := 1) hx hb dX12_odds_12 (by decide) ?_
    obtain ⟨q3, hq3, h⟩ := f_b h
    refine cl_S (w := (mW G Z Y q1.2)) (w' := (mW G Z Y q1.2)) (rv := some (.int q3)) (bytes := cX12_isIn) (maxL := 6) (ret := (some .boolean)) (As := [.long (x3 : Int32).toInt64, .long (0 : Int64), .long (1 : Int64)]) (rest := []) (stk := [.int q3]) ⟨hx, hb, hml, hown, hts⟩ hK hE hA hP hD hS (c_X12_isIn l D G (mW G Z Y q1.2) ((x3 : Int32).toInt64) (0 : Int64) (1 : Int64) q3 hq3) (mkS hts wd_1498 wd_1499 wd_11 wd_1500 rfl rfl hd_X12_isIn ⟨Nat.le_of_ble_eq_true rfl, Nat.le_of_ble_eq_true rfl⟩) rfl hl.1 rfl (Nat.le_of_ble_eq_true rfl) dX12_odds_13 ⟨Nat.zero_le _, Nat.zero_le _⟩ rfl (fun H locs hP hD hS => ?_)
    refine lv_if_ne (tgt := 21) hx hb dX12_odds_16 (by decide) (fun c4 => ?_) (fun c4 => ?_)
    · skip
      have h := f_f c4 h
      refine lv_aload_n hx hb dX12_odds_21 rfl (lv_at hl 0 rfl) ?_
      refine va_get (D := D) (ci := 12) (v := .ref (G.2.1 214)) (C := RX12) (T := TX12) (N := 59) hx hb hts inU_X12 hown hK hP _ (mg_200 G Z Y q1.2) rfl 32 (by decide) (hts _ wd_1280) (fun _ h9 => h9) rfl dX12_odds_22 ?_
      refine lv_iload_n hx hb dX12_odds_25 rfl (lv_at hl 1 rfl) ?_
      obtain ⟨c5, h⟩ := f_n h
      refine va_ialdE (v := (q1.2.1 214 ((x1 : Int32).toNatClampNeg))) hx hb hK hP _ 0 (mg_214 G Z Y q1.2) rfl c5 dX12_odds_26 rfl ?_
      refine lv_istore (lv' := [(4, .int (q1.2.1 214 ((x1 : Int32).toNatClampNeg))), (0, .ref (G.2.1 200)), (1, .int x1), (2, .int x2), (3, .int x3)]) hx hb dX12_odds_27 hl (by decide) rfl (fun ls hl => ?_)
      refine lv_lconst (v := 1) hx hb dX12_odds_29 (by decide) ?_
      refine lv_lstore (lv' := [(5, .long (1 : Int64)), (4, .int (q1.2.1 214 ((x1 : Int32).toNatClampNeg))), (0, .ref (G.2.1 200)), (1, .int x1), (2, .int x2), (3, .int x3)]) hx hb dX12_odds_30 hl (by decide) rfl (fun ls hl => ?_)
      refine lv_iconst (v := 0) hx hb dX12_odds_32 (by decide) ?_
      refine lv_istore (lv' := [(7, .int (0 : Int32)), (5, .long (1 : Int64)), (4, .int (q1.2.1 214 ((x1 : Int32).toNatClampNeg))), (0, .ref (G.2.1 200)), (1, .int x1), (2, .int x2), (3, .int x3)]) hx hb dX12_odds_33 hl (by decide) rfl (fun ls hl => ?_)
      refine W_X12_odds_L35 l D G Z Y σ0 F x1 x2 x3 x1 x2 x3 (q1.2.1 214 ((x1 : Int32).toNatClampNeg)) res C0 hA _ ?_ F q1.2 (1 : Int64) (0 : Int32) h _ _ _ hP hD hS (lv_sub hl [3, 4, 5, 6, 2, 1, 0] rfl)
      · intro σ1 z5 h H locs ls hP hD hS hl
        refine lv_lload hx hb dX12_odds_88 (lv_at hl 4 rfl) ?_
        refine lv_ldc2 (v := 2000) hx hb hown (hts _ wd_1749) dX12_odds_90 ?_
        refine W.lcmp hx hb dX12_odds_93 ?_
        refine lv_if_le (tgt := 99) hx hb dX12_odds_94 (by decide) (fun c12 => ?_) (fun c12 => ?_)
        · skip
          have c12 := (lg_cmp_le _ _).mp c12
          have h := f_t c12 h
          refine lv_iload_n hx hb dX12_odds_99 rfl (lv_at hl 3 rfl) ?_
          refine lv_iconst (v := 1) hx hb dX12_odds_100 (by decide) ?_
          refine lv_icmp_ne (tgt := 110) hx hb dX12_odds_101 (by decide) (fun c13 => ?_) (fun c13 => ?_)
          · skip
            have h := f_f c13 h
            refine lv_aload_n hx hb dX12_odds_110 rfl (lv_at hl 0 rfl) ?_
            refine lv_iload_n hx hb dX12_odds_111 rfl (lv_at hl 1 rfl) ?_
            refine lv_iload_n hx hb dX12_odds_112 rfl (lv_at hl 2 rfl) ?_
            refine lv_iconst (v := 0) hx hb dX12_odds_113 (by decide) ?_
            refine lv_aload_n hx hb dX12_odds_114 rfl (lv_at hl 0 rfl) ?_
            refine lv_iload_n hx hb dX12_odds_115 rfl (lv_at hl 1 rfl) ?_
            refine lv_iload_n hx hb dX12_odds_116 rfl (lv_at hl 2 rfl) ?_
            obtain ⟨q14, hq14, h⟩ := f_b h
            refine cl_V (w := (mW G Z Y σ1)) (w' := (mW G Z Y q14.2)) (rv := some (.long q14.1)) (bytes := cX12_firstClaim) (maxL := 5) (ret := (some .long)) (C := RX12) (As := [.int x1, .int x2]) (rest := [.int (0 : Int32), .int x2, .int x1, .ref (G.2.1 200)]) (stk := [.long q14.1, .int (0 : Int32), .int x2, .int x1, .ref (G.2.1 200)]) ⟨hx, hb, hml, hown, hts⟩ hK hE hA hP hD hS (c_X12_firstClaim l D G Z Y σ1 F x1 x2 q14 hq14) (cwV 2 hts (gwV wd_1661 wd_1663 wp_78 wd_11 wd_1664) rfl rfl rfl hd_X12_firstClaim ⟨Nat.le_of_ble_eq_true rfl, Nat.le_of_ble_eq_true rfl⟩) (mg_200 G Z Y σ1) rfl rfl rfl hl.1 rfl (Nat.le_of_ble_eq_true rfl) dX12_odds_117 ⟨Nat.zero_le _, Nat.zero_le _⟩ rfl (fun H locs hP hD hS => ?_)
            obtain ⟨q15, hq15, h⟩ := f_b h
            refine cl_V (w := (mW G Z Y q14.2)) (w' := (mW G Z Y q15.2)) (rv := some (.int q15.1)) (bytes := cX12_believed) (maxL := 10) (ret := (some .int)) (C := RX12) (As := [.int x1, .int x2, .int (0 : Int32), .long q14.1]) (rest := []) (stk := [.int q15.1]) ⟨hx, hb, hml, hown, hts⟩ hK hE hA hP hD hS (c_X12_believed l D G Z Y q14.2 F x1 x2 (0 : Int32) q14.1 q15 hq15) (cwV 4 hts (gwV wd_1750 wd_1752 wp_92 wd_11 wd_1753) rfl rfl rfl hd_X12_believed ⟨Nat.le_of_ble_eq_true rfl, Nat.le_of_ble_eq_true rfl⟩) (mg_200 G Z Y q14.2) rfl rfl rfl hl.1 rfl (Nat.le_of_ble_eq_true rfl) dX12_odds_120 ⟨Nat.zero_le _, Nat.zero_le _⟩ rfl (fun H locs hP hD hS => ?_)
            obtain rfl := Option.some.inj h
            exact W.iret (v := q15.1) hx hb hr (q_end hK hP hD hS) hS.2.2 dX12_odds_123
          · skip
            have h := f_t c13 h
            refine lv_lload hx hb dX12_odds_104 (lv_at hl 4 rfl) ?_
            refine lv_l2i (v := (z5 : Int64).toInt32) hx hb dX12_odds_106 rfl ?_
            refine lv_goto (tgt := 123) hx hb dX12_odds_107 (by decide) ?_
            obtain rfl := Option.some.inj h
            exact W.iret (v := (z5 : Int64).toInt32) hx hb hr (q_end hK hP hD hS) hS.2.2 dX12_odds_123
        · skip
          have c12 := mt (lg_cmp_le _ _).mpr c12
          have h := f_f c12 h
          refine lv_iconst (v := (-1)) hx hb dX12_odds_97 (by decide) ?_
          obtain rfl := Option.some.inj h
          exact W.iret (v := (-1 : Int32)) hx hb hr (q_end hK hP hD hS) hS.2.2 dX12_odds_98
    · skip
      have h := f_t c4 h
      refine lv_iconst (v := (-1)) hx hb dX12_odds_19 (by decide) ?_
      obtain rfl := Option.some.inj h
      exact W.iret (v := (-1 : Int32)) hx hb hr (q_end hK hP hD hS) hS.2.2 dX12_odds_20
abbrev rm_X12_product : Room := { frames := 76, cells := 0, slots := 0, locals := 1889 }
set_option maxRecDepth 100000 in
set_option maxHeartbeats 8000000 in
theorem W_X12_product_L6 {p : Program} {e : Env} {s : State} {m : MethodId} {args : Array Value} {below : List Frame} {meth : Method} {c : Code} {A : Nat → Prop} (l : Launch) (D : va_G) (G : hG) (Z : hZ) (Y : va_W) (σ0 : hSt) (F : Nat) (x1 : Int32) (x2 : Int32) (x3 : Int32) (y1 : Int32) (y2 : Int32) (y3 : Int32) (res : (Int64 × hSt)) (C0 : Cx p s m args meth c cX12_product (some .long) RX12 8 D G A) (hA : ∀ q : Nat, s.heap.size ≤ q → A q) : ∀ (n : Nat) (σ1 : hSt) (z4 : Int64) (z6 : Int32), f_X12_product_L6 F Z y1 y2 y3 n σ1 z4 z6 = some res → ∀ (H : Heap) (locs : List Loc) (ls : Array Slot), va_P D vwCl (mW G Z Y σ1) H → va_D A (mW G Z Y σ1) → va_S A s.heap H locs → lv_has ls 8 [(0, .ref (G.2.1 200)), (1, .int y1), (2, .int y2), (3, .int y3), (4, .long z4), (6, .int z6)] → W p l e rm_X12_product s m args below meth c H locs 0 0 (MQ below (Qg (some (.long res.1)) D (tysG G) (mW G Z Y res.2) A) args s 0 0 A) (F0 m 6 ls []) := by
  obtain ⟨hx, hb, hr, hml, hown, hts, hlocks, hK, hE⟩ := id C0
  intro n
  induction n with
  | zero =>
    intro σ1 z4 z6 h
    cases h
  | succ n ih =>
    intro σ1 z4 z6 h H locs ls hP hD hS hl
    rw [f_X12_product_L6] at h
    refine lv_iload hx hb dX12_product_6 (lv_at hl 5 rfl) ?_
    refine lv_aload_n hx hb dX12_product_8 rfl (lv_at hl 0 rfl) ?_
    refine va_get (D := D) (ci := 12) (v := .ref (G.2.1 204)) (C := RX12) (T := TX12) (N := 59) hx hb hts inU_X12 hown hK hP _ (mg_200 G Z Y σ1) rfl 12 (by decide) (hts _ wd_1260) (fun _ h9 => h9) rfl dX12_product_9 ?_
    refine lv_iload_n hx hb dX12_product_12 rfl (lv_at hl 1 rfl) ?_
    obtain ⟨c1, h⟩ := f_n h
    refine va_ialdE (v := (σ1.1 204 ((y1 : Int32).toNatClampNeg))) hx hb hK hP _ 0 (mg_204 G Z Y σ1) rfl c1 dX12_product_13 rfl ?_
    refine lv_icmp_ge (tgt := 65) hx hb dX12_product_14 (by decide) (fun c2 => ?_) (fun c2 => ?_)
    · skip
      have h := f_t c2 h
      refine lv_lload hx hb dX12_product_65 (lv_at hl 4 rfl) ?_
      obtain rfl := Option.some.inj h
      exact W.lret (v := z4) hx hb hr (q_end hK hP hD hS) hS.2.2 dX12_product_67
    · skip
      have h := f_f c2 h
      refine lv_aload_n hx hb dX12_product_17 rfl (lv_at hl 0 rfl) ?_
      refine lv_iload_n hx hb dX12_product_18 rfl (lv_at hl 2 rfl) ?_
      refine lv_iload_n hx hb dX12_product_19 rfl (lv_at hl 1 rfl) ?_
      refine lv_iload_n hx hb dX12_product_20 rfl (lv_at hl 3 rfl) ?_
      refine lv_iload hx hb dX12_product_21 (lv_at hl 5 rfl) ?_
      obtain ⟨q3, hq3, h⟩ := f_b h
      refine cl_V (w := (mW G Z Y σ1)) (w' := (mW G Z Y q3.2)) (rv := some (.int q3.1)) (bytes := cX12_draws) (maxL := 5) (ret := (some .int)) (C := RX12) (As := [.int y2, .int y1, .int y3, .int z6]) (rest := []) (stk := [.int q3.1]) ⟨hx, hb, hml, hown, hts⟩ hK hE hA hP hD hS (c_X12_draws l D G Z Y σ1 F y2 y1 y3 z6 q3 hq3) (cwV 4 hts (gwV wd_1699 wd_1701 wp_87 wd_11 wd_1702) rfl rfl rfl hd_X12_draws ⟨Nat.le_of_ble_eq_true rfl, Nat.le_of_ble_eq_true rfl⟩) (mg_200 G Z Y σ1) rfl rfl rfl hl.1 rfl (Nat.le_of_ble_eq_true rfl) dX12_product_23 ⟨Nat.zero_le _, Nat.zero_le _⟩ rfl (fun H locs hP hD hS => ?_)
      refine lv_istore (lv' := [(7, .int q3.1), (0, .ref (G.2.1 200)), (1, .int y1), (2, .int y2), (3, .int y3), (4, .long z4), (6, .int z6)]) hx hb dX12_product_26 hl (by decide) rfl (fun ls hl => ?_)
      refine lv_iload hx hb dX12_product_28 (lv_at hl 0 rfl) ?_
      refine lv_sipush (v := 1000) hx hb dX12_product_30 (by decide) ?_
      refine lv_icmp_gt (tgt := 49) hx hb dX12_product_33 (by decide) (fun c4 => ?_) (fun c4 => ?_)
      · skip
        have h := f_t c4 h
        refine lv_lconst (v := 0) hx hb dX12_product_49 (by decide) ?_
        obtain rfl := Option.some.inj h
        exact W.lret (v := (0 : Int64)) hx hb hr (q_end hK hP hD hS) hS.2.2 dX12_product_50
      · skip
        have h := f_f c4 h
        refine lv_lload hx hb dX12_product_36 (lv_at hl 5 rfl) ?_
        refine lv_ldc2 (v := 1000000000000000) hx hb hown (hts _ wd_1766) dX12_product_38 ?_
        refine lv_iload hx hb dX12_product_41 (lv_at hl 0 rfl) ?_
        refine lv_i2l (v := (q3.1 : Int32).toInt64) hx hb dX12_product_43 rfl ?_
        obtain ⟨c5, h⟩ := f_n h
        refine lv_ldiv hx hb dX12_product_44 c5 ?_
        refine W.lcmp hx hb dX12_product_45 ?_
        refine lv_if_le (tgt := 51) hx hb dX12_product_46 (by decide) (fun c6 => ?_) (fun c6 => ?_)
        · skip
          have c6 := (lg_cmp_le _ _).mp c6
          have h := f_t c6 h
          refine lv_lload hx hb dX12_product_51 (lv_at hl 5 rfl) ?_
          refine lv_iload hx hb dX12_product_53 (lv_at hl 0 rfl) ?_
          refine lv_i2l (v := (q3.1 : Int32).toInt64) hx hb dX12_product_55 rfl ?_
          refine lv_lmul hx hb dX12_product_56 ?_
          refine lv_lstore (lv' := [(4, .long (z4 * (q3.1 : Int32).toInt64)), (7, .int q3.1), (0, .ref (G.2.1 200)), (1, .int y1), (2, .int y2), (3, .int y3), (6, .int z6)]) hx hb dX12_product_57 hl (by decide) rfl (fun ls hl => ?_)
          refine lv_iinc (v := (z6 + 1)) (lv' := [(6, .int (z6 + 1)), (4, .long (z4 * (q3.1 : Int32).toInt64)), (7, .int q3.1), (0, .ref (G.2.1 200)), (1, .int y1), (2, .int y2), (3, .int y3)]) hx hb dX12_product_59 hl (k := 6) rfl rfl (by decide) rfl (fun ls hl => ?_)
          refine lv_goto (tgt := 6) hx hb dX12_product_62 (by decide) ?_
          exact ih q3.2 (z4 * (q3.1 : Int32).toInt64) (z6 + 1) h _ _ _ hP hD hS (lv_sub hl [3, 4, 5, 6, 1, 0] rfl)
        · skip
          have c6 := mt (lg_cmp_le _ _).mpr c6
          have h := f_f c6 h
          refine lv_lconst (v := 0) hx hb dX12_product_49 (by decide) ?_
          obtain rfl := Option.some.inj h
          exact W.lret (v := (0 : Int64)) hx hb hr (q_end hK hP hD hS) hS.2.2 dX12_product_50
set_option maxRecDepth 100000 in
set_option maxHeartbeats 8000000 in
theorem c_X12_product (l : Launch) (D : va_G) (G : hG) (Z : hZ) (Y : va_W) (σ0 : hSt) (F : Nat) (x1 : Int32) (x2 : Int32) (x3 : Int32) (res : (Int64 × hSt)) (h : f_X12_product F Z σ0 x1 x2 x3 = some res) : CT l yX12_product cX12_product 8 (some .long) rm_X12_product D G 0 0 [.ref (G.2.1 200), .int x1, .int x2, .int x3] (mW G Z Y σ0) (mW G Z Y res.2) (some (.long res.1)) := by
  unfold f_X12_product at h
  refine CT.mk (cc := cX12_product) (maxL := 8) (ret := (some .long)) (own := RX12) (plainFor_of_name (by decide)) rfl (Nat.le_of_ble_eq_true rfl) ?_
  intro p e s m args below meth c A ls C0 hnm hA hP hD hl
  obtain ⟨hx, hb, hr, hml, hown, hts, hlocks, hK, hE⟩ := id C0
  have hS : va_S A s.heap s.heap [] := va_S.rf
  have hl : lv_has ls 8 [(0, .ref (G.2.1 200)), (1, .int x1), (2, .int x2), (3, .int x3)] := hl
  refine lv_lconst (v := 1) hx hb dX12_product_0 (by decide) ?_
  refine lv_lstore (lv' := [(4, .long (1 : Int64)), (0, .ref (G.2.1 200)), (1, .int x1), (2, .int x2), (3, .int x3)]) hx hb dX12_product_1 hl (by decide) rfl (fun ls hl => ?_)
  refine lv_iconst (v := 0) hx hb dX12_product_3 (by decide) ?_
  refine lv_istore (lv' := [(6, .int (0 : Int32)), (4, .long (1 : Int64)), (0, .ref (G.2.1 200)), (1, .int x1), (2, .int x2), (3, .int x3)]) hx hb dX12_product_4 hl (by decide) rfl (fun ls hl => ?_)
  refine W_X12_product_L6 l D G Z Y σ0 F x1 x2 x3 x1 x2 x3 res C0 hA F σ0 (1 : Int64) (0 : Int32) h _ _ _ hP hD hS (lv_sub hl [2, 3, 4, 5, 1, 0] rfl)
abbrev rm_X12_rootsIn : Room := { frames := 76, cells := 0, slots := 0, locals := 1889 }
set_option maxRecDepth 100000 in
set_option maxHeartbeats 8000000 in
theorem c_X12_rootsIn (l : Launch) (D : va_G) (G : hG) (Z : hZ) (Y : va_W) (σ0 : hSt) (F : Nat) (x1 : Int32) (x2 : Int32) (x3 : Int32) (x4 : Int32) (res : (Int32 × hSt)) (h : f_X12_rootsIn F Z σ0 x1 x2 x3 x4 = some res) : CT l yX12_rootsIn cX12_rootsIn 6 (some .int) rm_X12_rootsIn D G 0 0 [.ref (G.2.1 200), .int x1, .int x2, .int x3, .int x4] (mW G Z Y σ0) (mW G Z Y res.2) (some (.int res.1)) := by
  unfold f_X12_rootsIn at h
  refine CT.mk (cc := cX12_rootsIn) (maxL := 6) (ret := (some .int)) (own := RX12) (plainFor_of_name (by decide)) rfl (Nat.le_of_ble_eq_true rfl) ?_
  intro p e s m args below meth c A ls C0 hnm hA hP hD hl
  obtain ⟨hx, hb, hr, hml, hown, hts, hlocks, hK, hE⟩ := id C0
  have hS : va_S A s.heap s.heap [] := va_S.rf
  have hl : lv_has ls 6 [(0, .ref (G.2.1 200)), (1, .int x1), (2, .int x2), (3, .int x3), (4, .int x4)] := hl
  refine lv_aload_n hx hb dX12_rootsIn_0 rfl (lv_at hl 0 rfl) ?_
  refine lv_iload_n hx hb dX12_rootsIn_1 rfl (lv_at hl 2 rfl) ?_
  refine lv_iload_n hx hb dX12_rootsIn_2 rfl (lv_at hl 1 rfl) ?_
  refine lv_iload_n hx hb dX12_rootsIn_3 rfl (lv_at hl 3 rfl) ?_
  refine lv_iload hx hb dX12_rootsIn_4 (lv_at hl 4 rfl) ?_
  obtain ⟨q1, hq1, h⟩ := f_b h
  refine cl_V (w := (mW G Z Y σ0)) (w' := (mW G Z Y q1.2)) (rv := some (.int q1.1)) (bytes := cX12_draws) (maxL := 5) (ret := (some .int)) (C := RX12) (As := [.int x2, .int x1, .int x3, .int x4]) (rest := []) (stk := [.int q1.1]) ⟨hx, hb, hml, hown, hts⟩ hK hE hA hP hD hS (c_X12_draws l D G Z Y σ0 F x2 x1 x3 x4 q1 hq1) (cwV 4 hts (gwV wd_1699 wd_1701 wp_87 wd_11 wd_1702) rfl rfl rfl hd_X12_draws ⟨Nat.le_of_ble_eq_true rfl, Nat.le_of_ble_eq_true rfl⟩) (mg_200 G Z Y σ0) rfl rfl rfl hl.1 rfl (Nat.le_of_ble_eq_true rfl) dX12_rootsIn_6 ⟨Nat.zero_le _, Nat.zero_le _⟩ rfl (fun H locs hP hD hS => ?_)
  refine lv_istore (lv' := [(5, .int q1.1), (0, .ref (G.2.1 200)), (1, .int x1), (2, .int x2), (3, .int x3), (4, .int x4)]) hx hb dX12_rootsIn_9 hl (by decide) rfl (fun ls hl => ?_)
  refine lv_aload_n hx hb dX12_rootsIn_11 rfl (lv_at hl 1 rfl) ?_
  refine lv_iload_n hx hb dX12_rootsIn_12 rfl (lv_at hl 3 rfl) ?_
  refine lv_iload_n hx hb dX12_rootsIn_13 rfl (lv_at hl 2 rfl) ?_
  refine lv_iload_n hx hb dX12_rootsIn_14 rfl (lv_at hl 4 rfl) ?_
  refine lv_iload hx hb dX12_rootsIn_15 (lv_at hl 5 rfl) ?_
  obtain ⟨q2, hq2, h⟩ := f_b h
  refine cl_V (w := (mW G Z Y q1.2)) (w' := (mW G Z Y q2.2)) (rv := some (.int q2.1)) (bytes := cX12_asksSum) (maxL := 5) (ret := (some .boolean)) (C := RX12) (As := [.int x2, .int x1, .int x3, .int x4]) (rest := []) (stk := [.int q2.1]) ⟨hx, hb, hml, hown, hts⟩ hK hE hA hP hD hS (c_X12_asksSum l D G Z Y q1.2 F x2 x1 x3 x4 q2 hq2) (cwV 4 hts (gwV wd_1687 wd_1689 wp_84 wd_11 wd_1690) rfl rfl rfl hd_X12_asksSum ⟨Nat.le_of_ble_eq_true rfl, Nat.le_of_ble_eq_true rfl⟩) (mg_200 G Z Y q1.2) rfl rfl rfl hl.1 rfl (Nat.le_of_ble_eq_true rfl) dX12_rootsIn_17 ⟨Nat.zero_le _, Nat.zero_le _⟩ rfl (fun H locs hP hD hS => ?_)
  refine lv_if_ne (tgt := 26) hx hb dX12_rootsIn_20 (by decide) (fun c3 => ?_) (fun c3 => ?_)
  · skip
    have h := f_f c3 h
    refine lv_aload_n hx hb dX12_rootsIn_26 rfl (lv_at hl 1 rfl) ?_
    refine va_get (D := D) (ci := 12) (v := .ref (G.2.1 205)) (C := RX12) (T := TX12) (N := 59) hx hb hts inU_X12 hown hK hP _ (mg_200 G Z Y q2.2) rfl 13 (by decide) (hts _ wd_1261) (fun _ h9 => h9) rfl dX12_rootsIn_27 ?_
    refine lv_bipush (v := 6) hx hb dX12_rootsIn_30 (by decide) ?_
    refine lv_iload_n hx hb dX12_rootsIn_32 rfl (lv_at hl 2 rfl) ?_
    refine lv_imul hx hb dX12_rootsIn_33 ?_
    refine lv_iload hx hb dX12_rootsIn_34 (lv_at hl 5 rfl) ?_
    refine lv_iadd hx hb dX12_rootsIn_36 ?_
    obtain ⟨c4, h⟩ := f_n h
    refine va_ialdE (v := (q2.2.1 205 (((((6 : Int32) * x1) + x4) : Int32).toNatClampNeg))) hx hb hK hP _ 0 (mg_205 G Z Y q2.2) rfl c4 dX12_rootsIn_37 rfl ?_
    refine lv_iload hx hb dX12_rootsIn_38 (lv_at hl 0 rfl) ?_
    refine lv_iconst (v := 1) hx hb dX12_rootsIn_40 (by decide) ?_
    refine lv_icmp_ne (tgt := 48) hx hb dX12_rootsIn_41 (by decide) (fun c5 => ?_) (fun c5 => ?_)
    · skip
      have h := f_f c5 h
      refine lv_iload hx hb dX12_rootsIn_48 (lv_at hl 0 rfl) ?_
      refine lv_iconst (v := 1) hx hb dX12_rootsIn_50 (by decide) ?_
      refine lv_isub hx hb dX12_rootsIn_51 ?_
      refine va_mmin hx hb (hml.trans hl.1.symm) hown (hts _ wd_1719) (hts _ wd_400) (hts _ wd_12) (hts _ wd_401) (Nat.le_of_ble_eq_true rfl) (Nat.le_of_ble_eq_true rfl) (Nat.zero_le _) (Nat.zero_le _) dX12_rootsIn_52 ?_
      obtain rfl := Option.some.inj h
      exact W.iret (v := (if (q1.1 - (1 : Int32)) < (q2.2.1 205 (((((6 : Int32) * x1) + x4) : Int32).toNatClampNeg)) then (q1.1 - (1 : Int32)) else (q2.2.1 205 (((((6 : Int32) * x1) + x4) : Int32).toNatClampNeg)))) hx hb hr (q_end hK hP hD hS) hS.2.2 dX12_rootsIn_55
    · skip
      have h := f_t c5 h
      refine lv_iconst (v := 1) hx hb dX12_rootsIn_44 (by decide) ?_
      refine lv_goto (tgt := 52) hx hb dX12_rootsIn_45 (by decide) ?_
      refine va_mmin hx hb (hml.trans hl.1.symm) hown (hts _ wd_1719) (hts _ wd_400) (hts _ wd_12) (hts _ wd_401) (Nat.le_of_ble_eq_true rfl) (Nat.le_of_ble_eq_true rfl) (Nat.zero_le _) (Nat.zero_le _) dX12_rootsIn_52 ?_
      obtain rfl := Option.some.inj h
      exact W.iret (v := (if (1 : Int32) < (q2.2.1 205 (((((6 : Int32) * x1) + x4) : Int32).toNatClampNeg)) then (1 : Int32) else (q2.2.1 205 (((((6 : Int32) * x1) + x4) : Int32).toNatClampNeg)))) hx hb hr (q_end hK hP hD hS) hS.2.2 dX12_rootsIn_55
  · skip
    have h := f_t c3 h
    refine lv_iload hx hb dX12_rootsIn_23 (lv_at hl 0 rfl) ?_
    obtain rfl := Option.some.inj h
    exact W.iret (v := q1.1) hx hb hr (q_end hK hP hD hS) hS.2.2 dX12_rootsIn_25
abbrev rm_X12_common : Room := { frames := 0, cells := 0, slots := 0, locals := 0 }
set_option maxRecDepth 100000 in
set_option maxHeartbeats 8000000 in
theorem W_X12_common_L6 {p : Program} {e : Env} {s : State} {m : MethodId} {args : Array Value} {below : List Frame} {meth : Method} {c : Code} {A : Nat → Prop} (l : Launch) (D : va_G) (G : hG) (w : va_W) (F : Nat) (x0 : Int64) (x2 : Int64) (res : Int64) (C0 : Cx p s m args meth c cX12_common (some .long) RX12 10 D G A) (hA : ∀ q : Nat, s.heap.size ≤ q → A q) : ∀ (n : Nat) (z4 : Int64) (z6 : Int64), f_X12_common_L6 n z4 z6 = some res → ∀ (H : Heap) (locs : List Loc) (ls : Array Slot), va_P D vwCl w H → va_D A w → va_S A s.heap H locs → lv_has ls 10 [(4, .long z4), (6, .long z6)] → W p l e rm_X12_common s m args below meth c H locs 0 0 (MQ below (Qg (some (.long res)) D (tysG G) w A) args s 0 0 A) (F0 m 6 ls []) := by
  obtain ⟨hx, hb, hr, hml, hown, hts, hlocks, hK, hE⟩ := id C0
  intro n
  induction n with
  | zero =>
    intro z4 z6 h
    cases h
  | succ n ih =>
    intro z4 z6 h H locs ls hP hD hS hl
    rw [f_X12_common_L6] at h
    refine lv_lload hx hb dX12_common_6 (lv_at hl 1 rfl) ?_
    refine lv_lconst (v := 0) hx hb dX12_common_8 (by decide) ?_
    refine W.lcmp hx hb dX12_common_9 ?_
    refine lv_if_eq (tgt := 31) hx hb dX12_common_10 (by decide) (fun c1 => ?_) (fun c1 => ?_)
    · skip
      have c1 := (lg_cmp_eq _ _).mp c1
      have h := f_t c1 h
      refine lv_lload hx hb dX12_common_31 (lv_at hl 0 rfl) ?_
      obtain rfl := Option.some.inj h
      exact W.lret (v := z4) hx hb hr (q_end hK hP hD hS) hS.2.2 dX12_common_33
    · skip
      have c1 := mt (lg_cmp_eq _ _).mpr c1
      have h := f_f c1 h
      refine lv_lload hx hb dX12_common_13 (lv_at hl 0 rfl) ?_
      refine lv_lload hx hb dX12_common_15 (lv_at hl 1 rfl) ?_
      obtain ⟨c2, h⟩ := f_n h
      refine lv_lrem hx hb dX12_common_17 c2 ?_
      refine lv_lstore (lv' := [(8, .long (z4 - z4 / z6 * z6)), (4, .long z4), (6, .long z6)]) hx hb dX12_common_18 hl (by decide) rfl (fun ls hl => ?_)
      refine lv_lload hx hb dX12_common_20 (lv_at hl 2 rfl) ?_
      refine lv_lstore (lv' := [(4, .long z6), (8, .long (z4 - z4 / z6 * z6)), (6, .long z6)]) hx hb dX12_common_22 hl (by decide) rfl (fun ls hl => ?_)
      refine lv_lload hx hb dX12_common_24 (lv_at hl 1 rfl) ?_
      refine lv_lstore (lv' := [(6, .long (z4 - z4 / z6 * z6)), (4, .long z6), (8, .long (z4 - z4 / z6 * z6))]) hx hb dX12_common_26 hl (by decide) rfl (fun ls hl => ?_)
      refine lv_goto (tgt := 6) hx hb dX12_common_28 (by decide) ?_
      exact ih z6 (z4 - z4 / z6 * z6) h _ _ _ hP hD hS (lv_sub hl [1, 0] rfl)
set_option maxRecDepth 100000 in
set_option maxHeartbeats 8000000 in
theorem c_X12_common (l : Launch) (D : va_G) (G : hG) (w : va_W) (F : Nat) (x0 : Int64) (x2 : Int64) (res : Int64) (h : f_X12_common F x0 x2 = some res) : CT l yX12_common cX12_common 10 (some .long) rm_X12_common D G 0 0 [.long x0, .long x2] w w (some (.long res)) := by
  unfold f_X12_common at h
  refine CT.mk (cc := cX12_common) (maxL := 10) (ret := (some .long)) (own := RX12) (plainFor_of_name (by decide)) rfl (Nat.le_of_ble_eq_true rfl) ?_
  intro p e s m args below meth c A ls C0 hnm hA hP hD hl
  obtain ⟨hx, hb, hr, hml, hown, hts, hlocks, hK, hE⟩ := id C0
  have hS : va_S A s.heap s.heap [] := va_S.rf
  have hl : lv_has ls 10 [(0, .long x0), (2, .long x2)] := hl
  refine lv_lload_n hx hb dX12_common_0 rfl (lv_at hl 0 rfl) ?_
  refine lv_lstore (lv' := [(4, .long x0), (0, .long x0), (2, .long x2)]) hx hb dX12_common_1 hl (by decide) rfl (fun ls hl => ?_)
  refine lv_lload_n hx hb dX12_common_3 rfl (lv_at hl 2 rfl) ?_
  refine lv_lstore (lv' := [(6, .long x2), (4, .long x0), (0, .long x0), (2, .long x2)]) hx hb dX12_common_4 hl (by decide) rfl (fun ls hl => ?_)
  refine W_X12_common_L6 l D G w F x0 x2 res C0 hA F x0 x2 h _ _ _ hP hD hS (lv_sub hl [1, 0] rfl)
abbrev rm_X12_fraction : Room := { frames := 1, cells := 0, slots := 0, locals := 29 }
set_option maxRecDepth 100000 in
set_option maxHeartbeats 8000000 in
theorem c_X12_fraction (l : Launch) (D : va_G) (G : hG) (w : va_W) (F : Nat) (x0 : Int64) (x2 : Int64) (x4 : Int32) (res : Int64) (h : f_X12_fraction F x0 x2 x4 = some res) : CT l yX12_fraction cX12_fraction 7 (some .long) rm_X12_fraction D G 0 0 [.long x0, .long x2, .int x4] w w (some (.long res)) := by
  unfold f_X12_fraction at h
  refine CT.mk (cc := cX12_fraction) (maxL := 7) (ret := (some .long)) (own := RX12) (plainFor_of_name (by decide)) rfl (Nat.le_of_ble_eq_true rfl) ?_
  intro p e s m args below meth c A ls C0 hnm hA hP hD hl
  obtain ⟨hx, hb, hr, hml, hown, hts, hlocks, hK, hE⟩ := id C0
  have hS : va_S A s.heap s.heap [] := va_S.rf
  have hl : lv_has ls 7 [(0, .long x0), (2, .long x2), (4, .int x4)] := hl
  refine lv_lload_n hx hb dX12_fraction_0 rfl (lv_at hl 1 rfl) ?_
  refine lv_lload_n hx hb dX12_fraction_1 rfl (lv_at hl 0 rfl) ?_
  obtain ⟨q1, hq1, h⟩ := f_b h
  refine cl_S (w := w) (w' := w) (rv := some (.long q1)) (bytes := cX12_common) (maxL := 10) (ret := (some .long)) (As := [.long x2, .long x0]) (rest := []) (stk := [.long q1]) ⟨hx, hb, hml, hown, hts⟩ hK hE hA hP hD hS (c_X12_common l D G w F x2 x0 q1 hq1) (mkS hts wd_1775 wd_1776 wd_11 wd_1777 rfl rfl hd_X12_common ⟨Nat.le_of_ble_eq_true rfl, Nat.le_of_ble_eq_true rfl⟩) rfl hl.1 rfl (Nat.le_of_ble_eq_true rfl) dX12_fraction_2 ⟨Nat.zero_le _, Nat.zero_le _⟩ rfl (fun H locs hP hD hS => ?_)
  refine lv_lstore (lv' := [(5, .long q1), (0, .long x0), (2, .long x2), (4, .int x4)]) hx hb dX12_fraction_5 hl (by decide) rfl (fun ls hl => ?_)
  refine lv_iload hx hb dX12_fraction_7 (lv_at hl 3 rfl) ?_
  refine lv_if_ne (tgt := 16) hx hb dX12_fraction_9 (by decide) (fun c2 => ?_) (fun c2 => ?_)
  · skip
    have h := f_f c2 h
    refine lv_lload_n hx hb dX12_fraction_16 rfl (lv_at hl 2 rfl) ?_
    refine lv_lload hx hb dX12_fraction_17 (lv_at hl 0 rfl) ?_
    obtain ⟨c3, h⟩ := f_n h
    refine lv_ldiv hx hb dX12_fraction_19 c3 ?_
    obtain rfl := Option.some.inj h
    exact W.lret (v := (x2 / q1)) hx hb hr (q_end hK hP hD hS) hS.2.2 dX12_fraction_20
  · skip
    have h := f_t c2 h
    refine lv_lload_n hx hb dX12_fraction_12 rfl (lv_at hl 1 rfl) ?_
    refine lv_goto (tgt := 17) hx hb dX12_fraction_13 (by decide) ?_
    refine lv_lload hx hb dX12_fraction_17 (lv_at hl 0 rfl) ?_
    obtain ⟨c4, h⟩ := f_n h
    refine lv_ldiv hx hb dX12_fraction_19 c4 ?_
    obtain rfl := Option.some.inj h
    exact W.lret (v := (x0 / q1)) hx hb hr (q_end hK hP hD hS) hS.2.2 dX12_fraction_20
abbrev rm_X12_bestOf : Room := { frames := 77, cells := 0, slots := 0, locals := 1916 }
set_option maxRecDepth 100000 in
set_option maxHeartbeats 8000000 in
theorem W_X12_bestOf_L38 {p : Program} {e : Env} {s : State} {m : MethodId} {args : Array Value} {below : List Frame} {meth : Method} {c : Code} {A : Nat → Prop} (l : Launch) (D : va_G) (G : hG) (Z : hZ) (Y : va_W) (σ0 : hSt) (F : Nat) (x1 : Int32) (x2 : Int32) (x3 : Int32) (x4 : Int32) (y1 : Int32) (y2 : Int32) (y3 : Int32) (y4 : Int32) (y5 : Int64) (res : (Int64 × hSt)) (C0 : Cx p s m args meth c cX12_bestOf (some .long) RX12 10 D G A) (hA : ∀ q : Nat, s.heap.size ≤ q → A q) (k80 : hSt → Int64 → Option (Int64 × hSt)) (hk80 : ∀ (σ1 : hSt) (z7 : Int64), k80 σ1 z7 = some res → ∀ (H : Heap) (locs : List Loc) (ls : Array Slot), va_P D vwCl (mW G Z Y σ1) H → va_D A (mW G Z Y σ1) → va_S A s.heap H locs → lv_has ls 10 [(4, .int y4), (5, .long y5), (7, .long z7)] → W p l e rm_X12_bestOf s m args below meth c H locs 0 0 (MQ below (Qg (some (.long res.1)) D (tysG G) (mW G Z Y res.2) A) args s 0 0 A) (F0 m 80 ls [])) : ∀ (n : Nat) (σ1 : hSt) (z7 : Int64) (z9 : Int32), f_X12_bestOf_L38 F Z y1 y2 y3 y4 y5 k80 n σ1 z7 z9 = some res → ∀ (H : Heap) (locs : List Loc) (ls : Array Slot), va_P D vwCl (mW G Z Y σ1) H → va_D A (mW G Z Y σ1) → va_S A s.heap H locs → lv_has ls 10 [(0, .ref (G.2.1 200)), (1, .int y1), (2, .int y2), (3, .int y3), (4, .int y4), (5, .long y5), (7, .long z7), (9, .int z9)] → W p l e rm_X12_bestOf s m args below meth c H locs 0 0 (MQ below (Qg (some (.long res.1)) D (tysG G) (mW G Z Y res.2) A) args s 0 0 A) (F0 m 38 ls []) := by
  obtain ⟨hx, hb, hr, hml, hown, hts, hlocks, hK, hE⟩ := id C0
  intro n
  induction n with
  | zero =>
    intro σ1 z7 z9 h
    cases h
  | succ n ih =>
    intro σ1 z7 z9 h H locs ls hP hD hS hl
    rw [f_X12_bestOf_L38] at h
    refine lv_iload hx hb dX12_bestOf_38 (lv_at hl 7 rfl) ?_
    refine lv_aload_n hx hb dX12_bestOf_40 rfl (lv_at hl 0 rfl) ?_
    refine va_get (D := D) (ci := 12) (v := .ref (G.2.1 204)) (C := RX12) (T := TX12) (N := 59) hx hb hts inU_X12 hown hK hP _ (mg_200 G Z Y σ1) rfl 12 (by decide) (hts _ wd_1260) (fun _ h9 => h9) rfl dX12_bestOf_41 ?_
    refine lv_iload_n hx hb dX12_bestOf_44 rfl (lv_at hl 1 rfl) ?_
    obtain ⟨c5, h⟩ := f_n h
    refine va_ialdE (v := (σ1.1 204 ((y1 : Int32).toNatClampNeg))) hx hb hK hP _ 0 (mg_204 G Z Y σ1) rfl c5 dX12_bestOf_45 rfl ?_
    refine lv_icmp_ge (tgt := 80) hx hb dX12_bestOf_46 (by decide) (fun c6 => ?_) (fun c6 => ?_)
    · skip
      have h := f_t c6 h
      exact hk80 σ1 z7 h _ _ _ hP hD hS (lv_sub hl [4, 5, 6] rfl)
    · skip
      have h := f_f c6 h
      refine lv_lload hx hb dX12_bestOf_49 (lv_at hl 6 rfl) ?_
      refine lv_aload_n hx hb dX12_bestOf_51 rfl (lv_at hl 0 rfl) ?_
      refine lv_iload_n hx hb dX12_bestOf_52 rfl (lv_at hl 2 rfl) ?_
      refine lv_iload_n hx hb dX12_bestOf_53 rfl (lv_at hl 1 rfl) ?_
      refine lv_iload_n hx hb dX12_bestOf_54 rfl (lv_at hl 3 rfl) ?_
      refine lv_iload hx hb dX12_bestOf_55 (lv_at hl 7 rfl) ?_
      obtain ⟨q7, hq7, h⟩ := f_b h
      refine cl_V (w := (mW G Z Y σ1)) (w' := (mW G Z Y q7.2)) (rv := some (.int q7.1)) (bytes := cX12_draws) (maxL := 5) (ret := (some .int)) (C := RX12) (As := [.int y2, .int y1, .int y3, .int z9]) (rest := [.long z7]) (stk := [.int q7.1, .long z7]) ⟨hx, hb, hml, hown, hts⟩ hK hE hA hP hD hS (c_X12_draws l D G Z Y σ1 F y2 y1 y3 z9 q7 hq7) (cwV 4 hts (gwV wd_1699 wd_1701 wp_87 wd_11 wd_1702) rfl rfl rfl hd_X12_draws ⟨Nat.le_of_ble_eq_true rfl, Nat.le_of_ble_eq_true rfl⟩) (mg_200 G Z Y σ1) rfl rfl rfl hl.1 rfl (Nat.le_of_ble_eq_true rfl) dX12_bestOf_57 ⟨Nat.zero_le _, Nat.zero_le _⟩ rfl (fun H locs hP hD hS => ?_)
      refine lv_aload_n hx hb dX12_bestOf_60 rfl (lv_at hl 0 rfl) ?_
      refine lv_iload_n hx hb dX12_bestOf_61 rfl (lv_at hl 1 rfl) ?_
      refine lv_iload_n hx hb dX12_bestOf_62 rfl (lv_at hl 2 rfl) ?_
      refine lv_iload_n hx hb dX12_bestOf_63 rfl (lv_at hl 3 rfl) ?_
      refine lv_iload hx hb dX12_bestOf_64 (lv_at hl 7 rfl) ?_
      obtain ⟨q8, hq8, h⟩ := f_b h
      refine cl_V (w := (mW G Z Y q7.2)) (w' := (mW G Z Y q8.2)) (rv := some (.int q8.1)) (bytes := cX12_rootsIn) (maxL := 6) (ret := (some .int)) (C := RX12) (As := [.int y1, .int y2, .int y3, .int z9]) (rest := [.int q7.1, .long z7]) (stk := [.int q8.1, .int q7.1, .long z7]) ⟨hx, hb, hml, hown, hts⟩ hK hE hA hP hD hS (c_X12_rootsIn l D G Z Y q7.2 F y1 y2 y3 z9 q8 hq8) (cwV 4 hts (gwV wd_1768 wd_1770 wp_95 wd_11 wd_1771) rfl rfl rfl hd_X12_rootsIn ⟨Nat.le_of_ble_eq_true rfl, Nat.le_of_ble_eq_true rfl⟩) (mg_200 G Z Y q7.2) rfl rfl rfl hl.1 rfl (Nat.le_of_ble_eq_true rfl) dX12_bestOf_66 ⟨Nat.zero_le _, Nat.zero_le _⟩ rfl (fun H locs hP hD hS => ?_)
      refine lv_isub hx hb dX12_bestOf_69 ?_
      refine lv_i2l (v := ((q7.1 - q8.1) : Int32).toInt64) hx hb dX12_bestOf_70 rfl ?_
      refine lv_lmul hx hb dX12_bestOf_71 ?_
      refine lv_lstore (lv' := [(7, .long (z7 * ((q7.1 - q8.1) : Int32).toInt64)), (0, .ref (G.2.1 200)), (1, .int y1), (2, .int y2), (3, .int y3), (4, .int y4), (5, .long y5), (9, .int z9)]) hx hb dX12_bestOf_72 hl (by decide) rfl (fun ls hl => ?_)
      refine lv_iinc (v := (z9 + 1)) (lv' := [(9, .int (z9 + 1)), (7, .long (z7 * ((q7.1 - q8.1) : Int32).toInt64)), (0, .ref (G.2.1 200)), (1, .int y1), (2, .int y2), (3, .int y3), (4, .int y4), (5, .long y5)]) hx hb dX12_bestOf_74 hl (k := 7) rfl rfl (by decide) rfl (fun ls hl => ?_)
      refine lv_goto (tgt := 38) hx hb dX12_bestOf_77 (by decide) ?_
      exact ih q8.2 (z7 * ((q7.1 - q8.1) : Int32).toInt64) (z9 + 1) h _ _ _ hP hD hS (lv_sub hl [2, 3, 4, 5, 6, 7, 1, 0] rfl)
set_option maxRecDepth 100000 in
set_option maxHeartbeats 8000000 in
theorem c_X12_bestOf (l : Launch) (D : va_G) (G : hG) (Z : hZ) (Y : va_W) (σ0 : hSt) (F : Nat) (x1 : Int32) (x2 : Int32) (x3 : Int32) (x4 : Int32) (res : (Int64 × hSt)) (h : f_X12_bestOf F Z σ0 x1 x2 x3 x4 = some res) : CT l yX12_bestOf cX12_bestOf 10 (some .long) rm_X12_bestOf D G 0 0 [.ref (G.2.1 200), .int x1, .int x2, .int x3, .int x4] (mW G Z Y σ0) (mW G Z Y res.2) (some (.long res.1)) := by
  unfold f_X12_bestOf at h
  refine CT.mk (cc := cX12_bestOf) (maxL := 10) (ret := (some .long)) (own := RX12) (plainFor_of_name (by decide)) rfl (Nat.le_of_ble_eq_true rfl) ?_
  intro p e s m args below meth c A ls C0 hnm hA hP hD hl
  obtain ⟨hx, hb, hr, hml, hown, hts, hlocks, hK, hE⟩ := id C0
  have hS : va_S A s.heap s.heap [] := va_S.rf
  have hl : lv_has ls 10 [(0, .ref (G.2.1 200)), (1, .int x1), (2, .int x2), (3, .int x3), (4, .int x4)] := hl
  refine lv_aload_n hx hb dX12_bestOf_0 rfl (lv_at hl 0 rfl) ?_
  refine lv_iload_n hx hb dX12_bestOf_1 rfl (lv_at hl 1 rfl) ?_
  refine lv_iload_n hx hb dX12_bestOf_2 rfl (lv_at hl 2 rfl) ?_
  refine lv_iload_n hx hb dX12_bestOf_3 rfl (lv_at hl 3 rfl) ?_
  obtain ⟨q1, hq1, h⟩ := f_b h
  refine cl_V (w := (mW G Z Y σ0)) (w' := (mW G Z Y q1.2)) (rv := some (.long q1.1)) (bytes := cX12_product) (maxL := 8) (ret := (some .long)) (C := RX12) (As := [.int x1, .int x2, .int x3]) (rest := []) (stk := [.long q1.1]) ⟨hx, hb, hml, hown, hts⟩ hK hE hA hP hD hS (c_X12_product l D G Z Y σ0 F x1 x2 x3 q1 hq1) (cwV 3 hts (gwV wd_1762 wd_1764 wp_94 wd_11 wd_1765) rfl rfl rfl hd_X12_product ⟨Nat.le_of_ble_eq_true rfl, Nat.le_of_ble_eq_true rfl⟩) (mg_200 G Z Y σ0) rfl rfl rfl hl.1 rfl (Nat.le_of_ble_eq_true rfl) dX12_bestOf_4 ⟨Nat.zero_le _, Nat.zero_le _⟩ rfl (fun H locs hP hD hS => ?_)
  refine lv_lstore (lv' := [(5, .long q1.1), (0, .ref (G.2.1 200)), (1, .int x1), (2, .int x2), (3, .int x3), (4, .int x4)]) hx hb dX12_bestOf_7 hl (by decide) rfl (fun ls hl => ?_)
  refine lv_lload hx hb dX12_bestOf_9 (lv_at hl 0 rfl) ?_
  refine lv_lconst (v := 0) hx hb dX12_bestOf_11 (by decide) ?_
  refine W.lcmp hx hb dX12_bestOf_12 ?_
  refine lv_if_ne (tgt := 20) hx hb dX12_bestOf_13 (by decide) (fun c2 => ?_) (fun c2 => ?_)
  · skip
    have c2 := mt (lg_cmp_eq _ _).mpr c2
    have h := f_f c2 h
    refine lv_aload_n hx hb dX12_bestOf_20 rfl (lv_at hl 1 rfl) ?_
    refine lv_iload_n hx hb dX12_bestOf_21 rfl (lv_at hl 3 rfl) ?_
    refine lv_iload_n hx hb dX12_bestOf_22 rfl (lv_at hl 2 rfl) ?_
    refine lv_iload_n hx hb dX12_bestOf_23 rfl (lv_at hl 4 rfl) ?_
    obtain ⟨q3, hq3, h⟩ := f_b h
    refine cl_V (w := (mW G Z Y q1.2)) (w' := (mW G Z Y q3.2)) (rv := some (.int q3.1)) (bytes := cX12_asksEnd) (maxL := 4) (ret := (some .boolean)) (C := RX12) (As := [.int x2, .int x1, .int x3]) (rest := []) (stk := [.int q3.1]) ⟨hx, hb, hml, hown, hts⟩ hK hE hA hP hD hS (c_X12_asksEnd l D G Z Y q1.2 F x2 x1 x3 q3 hq3) (cwV 3 hts (gwV wd_1711 wd_1713 wp_90 wd_11 wd_1714) rfl rfl rfl hd_X12_asksEnd ⟨Nat.le_of_ble_eq_true rfl, Nat.le_of_ble_eq_true rfl⟩) (mg_200 G Z Y q1.2) rfl rfl rfl hl.1 rfl (Nat.le_of_ble_eq_true rfl) dX12_bestOf_24 ⟨Nat.zero_le _, Nat.zero_le _⟩ rfl (fun H locs hP hD hS => ?_)
    refine lv_if_ne (tgt := 32) hx hb dX12_bestOf_27 (by decide) (fun c4 => ?_) (fun c4 => ?_)
    · skip
      have h := f_f c4 h
      refine lv_lconst (v := 1) hx hb dX12_bestOf_32 (by decide) ?_
      refine lv_lstore (lv' := [(7, .long (1 : Int64)), (5, .long q1.1), (0, .ref (G.2.1 200)), (1, .int x1), (2, .int x2), (3, .int x3), (4, .int x4)]) hx hb dX12_bestOf_33 hl (by decide) rfl (fun ls hl => ?_)
      refine lv_iconst (v := 0) hx hb dX12_bestOf_35 (by decide) ?_
      refine lv_istore (lv' := [(9, .int (0 : Int32)), (7, .long (1 : Int64)), (5, .long q1.1), (0, .ref (G.2.1 200)), (1, .int x1), (2, .int x2), (3, .int x3), (4, .int x4)]) hx hb dX12_bestOf_36 hl (by decide) rfl (fun ls hl => ?_)
      refine W_X12_bestOf_L38 l D G Z Y σ0 F x1 x2 x3 x4 x1 x2 x3 x4 q1.1 res C0 hA _ ?_ F q3.2 (1 : Int64) (0 : Int32) h _ _ _ hP hD hS (lv_sub hl [3, 4, 5, 6, 7, 2, 1, 0] rfl)
      · intro σ1 z7 h H locs ls hP hD hS hl
        refine lv_lload hx hb dX12_bestOf_80 (lv_at hl 1 rfl) ?_
        refine lv_lload hx hb dX12_bestOf_82 (lv_at hl 2 rfl) ?_
        refine lv_lsub hx hb dX12_bestOf_84 ?_
        refine lv_lload hx hb dX12_bestOf_85 (lv_at hl 1 rfl) ?_
        refine lv_iload hx hb dX12_bestOf_87 (lv_at hl 0 rfl) ?_
        obtain ⟨q9, hq9, h⟩ := f_b h
        refine cl_S (w := (mW G Z Y σ1)) (w' := (mW G Z Y σ1)) (rv := some (.long q9)) (bytes := cX12_fraction) (maxL := 7) (ret := (some .long)) (As := [.long (q1.1 - z7), .long q1.1, .int x4]) (rest := []) (stk := [.long q9]) ⟨hx, hb, hml, hown, hts⟩ hK hE hA hP hD hS (c_X12_fraction l D G (mW G Z Y σ1) F (q1.1 - z7) q1.1 x4 q9 hq9) (mkS hts wd_1772 wd_1773 wd_11 wd_1774 rfl rfl hd_X12_fraction ⟨Nat.le_of_ble_eq_true rfl, Nat.le_of_ble_eq_true rfl⟩) rfl hl.1 rfl (Nat.le_of_ble_eq_true rfl) dX12_bestOf_89 ⟨Nat.zero_le _, Nat.zero_le _⟩ rfl (fun H locs hP hD hS => ?_)
        obtain rfl := Option.some.inj h
        exact W.lret (v := q9) hx hb hr (q_end hK hP hD hS) hS.2.2 dX12_bestOf_92
    · skip
      have h := f_t c4 h
      refine lv_lconst (v := 1) hx hb dX12_bestOf_30 (by decide) ?_
      obtain rfl := Option.some.inj h
      exact W.lret (v := (1 : Int64)) hx hb hr (q_end hK hP hD hS) hS.2.2 dX12_bestOf_31
  · skip
    have c2 := (lg_cmp_eq _ _).mp c2
    have h := f_t c2 h
    refine lv_ldc2 (v := (-1)) hx hb hown (hts _ wd_1767) dX12_bestOf_16 ?_
    obtain rfl := Option.some.inj h
    exact W.lret (v := (-1 : Int64)) hx hb hr (q_end hK hP hD hS) hS.2.2 dX12_bestOf_19
abbrev rm_X12_best : Room := { frames := 78, cells := 0, slots := 0, locals := 1945 }
set_option maxRecDepth 100000 in
set_option maxHeartbeats 8000000 in
theorem c_X12_best (l : Launch) (D : va_G) (G : hG) (Z : hZ) (Y : va_W) (σ0 : hSt) (F : Nat) (x1 : Int32) (x2 : Int32) (res : (Int64 × hSt)) (h : f_X12_best F Z σ0 x1 x2 = some res) : CT l yX12_best cX12_best 3 (some .long) rm_X12_best D G 0 0 [.ref (G.2.1 200), .int x1, .int x2] (mW G Z Y σ0) (mW G Z Y res.2) (some (.long res.1)) := by
  unfold f_X12_best at h
  refine CT.mk (cc := cX12_best) (maxL := 3) (ret := (some .long)) (own := RX12) (plainFor_of_name (by decide)) rfl (Nat.le_of_ble_eq_true rfl) ?_
  intro p e s m args below meth c A ls C0 hnm hA hP hD hl
  obtain ⟨hx, hb, hr, hml, hown, hts, hlocks, hK, hE⟩ := id C0
  have hS : va_S A s.heap s.heap [] := va_S.rf
  have hl : lv_has ls 3 [(0, .ref (G.2.1 200)), (1, .int x1), (2, .int x2)] := hl
  refine lv_aload_n hx hb dX12_best_0 rfl (lv_at hl 0 rfl) ?_
  refine lv_iconst (v := 0) hx hb dX12_best_1 (by decide) ?_
  refine va_put (D := D) (ci := 12) (v := .int (0 : Int32)) (ty := .int) (C := RX12) (T := TX12) (N := 59) hx hb hts inU_X12 tyX12 tyX12_ok nmX12 hown hK hP hD hS _ (mg_200 G Z Y σ0) rfl 0 (by decide) (hts _ wd_1248) (fun _ h9 => h9) rfl (by decide +kernel) rfl rfl (Nat.le_of_ble_eq_true rfl) dX12_best_2 (fun H locs hP hD hS => ?_)
  have hP := wrP (mp_200_0 G Z Y σ0 (0 : Int32)) hP
  have hD := wrD (mp_200_0 G Z Y σ0 (0 : Int32)) hD
  refine lv_aload_n hx hb dX12_best_5 rfl (lv_at hl 0 rfl) ?_
  refine lv_iload_n hx hb dX12_best_6 rfl (lv_at hl 1 rfl) ?_
  obtain ⟨q1, hq1, h⟩ := f_b h
  refine cl_V (w := (mW G Z Y (sI σ0 200 0 (0 : Int32)))) (w' := (mW G Z Y (sI σ0 200 0 (0 : Int32)))) (rv := some (.int q1)) (bytes := cX12_isTalk) (maxL := 2) (ret := (some .boolean)) (C := RX12) (As := [.int x1]) (rest := []) (stk := [.int q1]) ⟨hx, hb, hml, hown, hts⟩ hK hE hA hP hD hS (c_X12_isTalk l D G Z Y (sI σ0 200 0 (0 : Int32)) x1 q1 hq1) (cwV 1 hts (gwV wd_1652 wd_1654 wp_76 wd_11 wd_1655) rfl rfl rfl hd_X12_isTalk ⟨Nat.le_of_ble_eq_true rfl, Nat.le_of_ble_eq_true rfl⟩) (mg_200 G Z Y (sI σ0 200 0 (0 : Int32))) rfl rfl rfl hl.1 rfl (Nat.le_of_ble_eq_true rfl) dX12_best_7 ⟨Nat.zero_le _, Nat.zero_le _⟩ rfl (fun H locs hP hD hS => ?_)
  refine lv_if_eq (tgt := 49) hx hb dX12_best_10 (by decide) (fun c2 => ?_) (fun c2 => ?_)
  · skip
    have h := f_t c2 h
    refine lv_ldc2 (v := (-1)) hx hb hown (hts _ wd_1767) dX12_best_49 ?_
    obtain rfl := Option.some.inj h
    exact W.lret (v := (-1 : Int64)) hx hb hr (q_end hK hP hD hS) hS.2.2 dX12_best_52
  · skip
    have h := f_f c2 h
    refine lv_iload_n hx hb dX12_best_13 rfl (lv_at hl 2 rfl) ?_
    refine lv_i2l (v := (x2 : Int32).toInt64) hx hb dX12_best_14 rfl ?_
    refine lv_lconst (v := 0) hx hb dX12_best_15 (by decide) ?_
    refine lv_lconst (v := 1) hx hb dX12_best_16 (by decide) ?_
    obtain ⟨q3, hq3, h⟩ := f_b h
    refine cl_S (w := (mW G Z Y (sI σ0 200 0 (0 : Int32)))) (w' := (mW G Z Y (sI σ0 200 0 (0 : Int32)))) (rv := some (.int q3)) (bytes := cX12_isIn) (maxL := 6) (ret := (some .boolean)) (As := [.long (x2 : Int32).toInt64, .long (0 : Int64), .long (1 : Int64)]) (rest := []) (stk := [.int q3]) ⟨hx, hb, hml, hown, hts⟩ hK hE hA hP hD hS (c_X12_isIn l D G (mW G Z Y (sI σ0 200 0 (0 : Int32))) ((x2 : Int32).toInt64) (0 : Int64) (1 : Int64) q3 hq3) (mkS hts wd_1498 wd_1499 wd_11 wd_1500 rfl rfl hd_X12_isIn ⟨Nat.le_of_ble_eq_true rfl, Nat.le_of_ble_eq_true rfl⟩) rfl hl.1 rfl (Nat.le_of_ble_eq_true rfl) dX12_best_17 ⟨Nat.zero_le _, Nat.zero_le _⟩ rfl (fun H locs hP hD hS => ?_)
    refine lv_if_eq (tgt := 49) hx hb dX12_best_20 (by decide) (fun c4 => ?_) (fun c4 => ?_)
    · skip
      have h := f_t c4 h
      refine lv_ldc2 (v := (-1)) hx hb hown (hts _ wd_1767) dX12_best_49 ?_
      obtain rfl := Option.some.inj h
      exact W.lret (v := (-1 : Int64)) hx hb hr (q_end hK hP hD hS) hS.2.2 dX12_best_52
    · skip
      have h := f_f c4 h
      refine lv_aload_n hx hb dX12_best_23 rfl (lv_at hl 0 rfl) ?_
      refine lv_aload_n hx hb dX12_best_24 rfl (lv_at hl 0 rfl) ?_
      refine va_get (D := D) (ci := 12) (v := .ref (G.2.1 214)) (C := RX12) (T := TX12) (N := 59) hx hb hts inU_X12 hown hK hP _ (mg_200 G Z Y (sI σ0 200 0 (0 : Int32))) rfl 32 (by decide) (hts _ wd_1280) (fun _ h9 => h9) rfl dX12_best_25 ?_
      refine lv_iload_n hx hb dX12_best_28 rfl (lv_at hl 1 rfl) ?_
      obtain ⟨c5, h⟩ := f_n h
      refine va_ialdE (v := (σ0.1 214 ((x1 : Int32).toNatClampNeg))) hx hb hK hP _ 0 (mg_214 G Z Y (sI σ0 200 0 (0 : Int32))) rfl c5 dX12_best_29 rfl ?_
      refine lv_aload_n hx hb dX12_best_30 rfl (lv_at hl 0 rfl) ?_
      refine va_get (D := D) (ci := 12) (v := .ref (G.2.1 216)) (C := RX12) (T := TX12) (N := 59) hx hb hts inU_X12 hown hK hP _ (mg_200 G Z Y (sI σ0 200 0 (0 : Int32))) rfl 34 (by decide) (hts _ wd_1282) (fun _ h9 => h9) rfl dX12_best_31 ?_
      refine lv_iload_n hx hb dX12_best_34 rfl (lv_at hl 1 rfl) ?_
      obtain ⟨c6, h⟩ := f_n h
      refine va_ialdE (v := (σ0.1 216 ((x1 : Int32).toNatClampNeg))) hx hb hK hP _ 0 (mg_216 G Z Y (sI σ0 200 0 (0 : Int32))) rfl c6 dX12_best_35 rfl ?_
      refine lv_aload_n hx hb dX12_best_36 rfl (lv_at hl 0 rfl) ?_
      refine va_get (D := D) (ci := 12) (v := .ref (G.2.1 215)) (C := RX12) (T := TX12) (N := 59) hx hb hts inU_X12 hown hK hP _ (mg_200 G Z Y (sI σ0 200 0 (0 : Int32))) rfl 33 (by decide) (hts _ wd_1281) (fun _ h9 => h9) rfl dX12_best_37 ?_
      refine lv_iload_n hx hb dX12_best_40 rfl (lv_at hl 1 rfl) ?_
      obtain ⟨c7, h⟩ := f_n h
      refine va_ialdE (v := (σ0.1 215 ((x1 : Int32).toNatClampNeg))) hx hb hK hP _ 0 (mg_215 G Z Y (sI σ0 200 0 (0 : Int32))) rfl c7 dX12_best_41 rfl ?_
      refine lv_iload_n hx hb dX12_best_42 rfl (lv_at hl 2 rfl) ?_
      obtain ⟨q8, hq8, h⟩ := f_b h
      refine cl_V (w := (mW G Z Y (sI σ0 200 0 (0 : Int32)))) (w' := (mW G Z Y q8.2)) (rv := some (.long q8.1)) (bytes := cX12_bestOf) (maxL := 10) (ret := (some .long)) (C := RX12) (As := [.int (σ0.1 214 ((x1 : Int32).toNatClampNeg)), .int (σ0.1 216 ((x1 : Int32).toNatClampNeg)), .int (σ0.1 215 ((x1 : Int32).toNatClampNeg)), .int x2]) (rest := []) (stk := [.long q8.1]) ⟨hx, hb, hml, hown, hts⟩ hK hE hA hP hD hS (c_X12_bestOf l D G Z Y (sI σ0 200 0 (0 : Int32)) F (σ0.1 214 ((x1 : Int32).toNatClampNeg)) (σ0.1 216 ((x1 : Int32).toNatClampNeg)) (σ0.1 215 ((x1 : Int32).toNatClampNeg)) x2 q8 hq8) (cwV 4 hts (gwV wd_1758 wd_1760 wp_93 wd_11 wd_1761) rfl rfl rfl hd_X12_bestOf ⟨Nat.le_of_ble_eq_true rfl, Nat.le_of_ble_eq_true rfl⟩) (mg_200 G Z Y (sI σ0 200 0 (0 : Int32))) rfl rfl rfl hl.1 rfl (Nat.le_of_ble_eq_true rfl) dX12_best_43 ⟨Nat.zero_le _, Nat.zero_le _⟩ rfl (fun H locs hP hD hS => ?_)
      refine lv_goto (tgt := 52) hx hb dX12_best_46 (by decide) ?_
      obtain rfl := Option.some.inj h
      exact W.lret (v := q8.1) hx hb hr (q_end hK hP hD hS) hS.2.2 dX12_best_52
abbrev rm_X12_bound : Room := { frames := 77, cells := 0, slots := 0, locals := 1916 }
set_option maxRecDepth 100000 in
set_option maxHeartbeats 8000000 in
theorem W_X12_bound_L92 {p : Program} {e : Env} {s : State} {m : MethodId} {args : Array Value} {below : List Frame} {meth : Method} {c : Code} {A : Nat → Prop} (l : Launch) (D : va_G) (G : hG) (Z : hZ) (Y : va_W) (σ0 : hSt) (F : Nat) (x1 : Int32) (x2 : Int32) (y2 : Int32) (y3 : Int32) (y4 : Int32) (y5 : Int32) (y6 : Int64) (res : (Int64 × hSt)) (C0 : Cx p s m args meth c cX12_bound (some .long) RX12 11 D G A) (hA : ∀ q : Nat, s.heap.size ≤ q → A q) (k162 : hSt → Int64 → Option (Int64 × hSt)) (hk162 : ∀ (σ1 : hSt) (z8 : Int64), k162 σ1 z8 = some res → ∀ (H : Heap) (locs : List Loc) (ls : Array Slot), va_P D vwCl (mW G Z Y σ1) H → va_D A (mW G Z Y σ1) → va_S A s.heap H locs → lv_has ls 11 [(2, .int y2), (6, .long y6), (8, .long z8)] → W p l e rm_X12_bound s m args below meth c H locs 0 0 (MQ below (Qg (some (.long res.1)) D (tysG G) (mW G Z Y res.2) A) args s 0 0 A) (F0 m 162 ls [])) : ∀ (n : Nat) (σ1 : hSt) (z8 : Int64) (z10 : Int32), f_X12_bound_L92 F Z y2 y3 y4 y5 y6 k162 n σ1 z8 z10 = some res → ∀ (H : Heap) (locs : List Loc) (ls : Array Slot), va_P D vwCl (mW G Z Y σ1) H → va_D A (mW G Z Y σ1) → va_S A s.heap H locs → lv_has ls 11 [(0, .ref (G.2.1 200)), (2, .int y2), (3, .int y3), (4, .int y4), (5, .int y5), (6, .long y6), (8, .long z8), (10, .int z10)] → W p l e rm_X12_bound s m args below meth c H locs 0 0 (MQ below (Qg (some (.long res.1)) D (tysG G) (mW G Z Y res.2) A) args s 0 0 A) (F0 m 92 ls []) := by
  obtain ⟨hx, hb, hr, hml, hown, hts, hlocks, hK, hE⟩ := id C0
  intro n
  induction n with
  | zero =>
    intro σ1 z8 z10 h
    cases h
  | succ n ih =>
    intro σ1 z8 z10 h H locs ls hP hD hS hl
    rw [f_X12_bound_L92] at h
    refine lv_iload hx hb dX12_bound_92 (lv_at hl 7 rfl) ?_
    refine lv_aload_n hx hb dX12_bound_94 rfl (lv_at hl 0 rfl) ?_
    refine va_get (D := D) (ci := 12) (v := .ref (G.2.1 204)) (C := RX12) (T := TX12) (N := 59) hx hb hts inU_X12 hown hK hP _ (mg_200 G Z Y σ1) rfl 12 (by decide) (hts _ wd_1260) (fun _ h9 => h9) rfl dX12_bound_95 ?_
    refine lv_iload_n hx hb dX12_bound_98 rfl (lv_at hl 2 rfl) ?_
    obtain ⟨c12, h⟩ := f_n h
    refine va_ialdE (v := (σ1.1 204 ((y3 : Int32).toNatClampNeg))) hx hb hK hP _ 0 (mg_204 G Z Y σ1) rfl c12 dX12_bound_99 rfl ?_
    refine lv_icmp_ge (tgt := 162) hx hb dX12_bound_100 (by decide) (fun c13 => ?_) (fun c13 => ?_)
    · skip
      have h := f_t c13 h
      exact hk162 σ1 z8 h _ _ _ hP hD hS (lv_sub hl [1, 5, 6] rfl)
    · skip
      have h := f_f c13 h
      refine lv_lload hx hb dX12_bound_103 (lv_at hl 6 rfl) ?_
      refine lv_aload_n hx hb dX12_bound_105 rfl (lv_at hl 0 rfl) ?_
      refine lv_iload hx hb dX12_bound_106 (lv_at hl 3 rfl) ?_
      refine lv_iload_n hx hb dX12_bound_108 rfl (lv_at hl 2 rfl) ?_
      refine lv_iload hx hb dX12_bound_109 (lv_at hl 4 rfl) ?_
      refine lv_iload hx hb dX12_bound_111 (lv_at hl 7 rfl) ?_
      obtain ⟨q14, hq14, h⟩ := f_b h
      refine cl_V (w := (mW G Z Y σ1)) (w' := (mW G Z Y q14.2)) (rv := some (.int q14.1)) (bytes := cX12_asksSum) (maxL := 5) (ret := (some .boolean)) (C := RX12) (As := [.int y4, .int y3, .int y5, .int z10]) (rest := [.long z8]) (stk := [.int q14.1, .long z8]) ⟨hx, hb, hml, hown, hts⟩ hK hE hA hP hD hS (c_X12_asksSum l D G Z Y σ1 F y4 y3 y5 z10 q14 hq14) (cwV 4 hts (gwV wd_1687 wd_1689 wp_84 wd_11 wd_1690) rfl rfl rfl hd_X12_asksSum ⟨Nat.le_of_ble_eq_true rfl, Nat.le_of_ble_eq_true rfl⟩) (mg_200 G Z Y σ1) rfl rfl rfl hl.1 rfl (Nat.le_of_ble_eq_true rfl) dX12_bound_113 ⟨Nat.zero_le _, Nat.zero_le _⟩ rfl (fun H locs hP hD hS => ?_)
      refine lv_if_eq (tgt := 151) hx hb dX12_bound_116 (by decide) (fun c15 => ?_) (fun c15 => ?_)
      · skip
        have h := f_t c15 h
        refine lv_lload hx hb dX12_bound_151 (lv_at hl 5 rfl) ?_
        refine lv_ladd hx hb dX12_bound_153 ?_
        refine lv_lstore (lv' := [(8, .long (z8 + y6)), (0, .ref (G.2.1 200)), (2, .int y2), (3, .int y3), (4, .int y4), (5, .int y5), (6, .long y6), (10, .int z10)]) hx hb dX12_bound_154 hl (by decide) rfl (fun ls hl => ?_)
        refine lv_iinc (v := (z10 + 1)) (lv' := [(10, .int (z10 + 1)), (8, .long (z8 + y6)), (0, .ref (G.2.1 200)), (2, .int y2), (3, .int y3), (4, .int y4), (5, .int y5), (6, .long y6)]) hx hb dX12_bound_156 hl (k := 7) rfl rfl (by decide) rfl (fun ls hl => ?_)
        refine lv_goto (tgt := 92) hx hb dX12_bound_159 (by decide) ?_
        exact ih q14.2 (z8 + y6) (z10 + 1) h _ _ _ hP hD hS (lv_sub hl [2, 3, 4, 5, 6, 7, 1, 0] rfl)
      · skip
        have h := f_f c15 h
        refine lv_lload hx hb dX12_bound_119 (lv_at hl 5 rfl) ?_
        refine lv_aload_n hx hb dX12_bound_121 rfl (lv_at hl 0 rfl) ?_
        refine lv_iload hx hb dX12_bound_122 (lv_at hl 3 rfl) ?_
        refine lv_iload_n hx hb dX12_bound_124 rfl (lv_at hl 2 rfl) ?_
        refine lv_iload hx hb dX12_bound_125 (lv_at hl 4 rfl) ?_
        refine lv_iload hx hb dX12_bound_127 (lv_at hl 7 rfl) ?_
        obtain ⟨q16, hq16, h⟩ := f_b h
        refine cl_V (w := (mW G Z Y q14.2)) (w' := (mW G Z Y q16.2)) (rv := some (.int q16.1)) (bytes := cX12_draws) (maxL := 5) (ret := (some .int)) (C := RX12) (As := [.int y4, .int y3, .int y5, .int z10]) (rest := [.long y6, .long z8]) (stk := [.int q16.1, .long y6, .long z8]) ⟨hx, hb, hml, hown, hts⟩ hK hE hA hP hD hS (c_X12_draws l D G Z Y q14.2 F y4 y3 y5 z10 q16 hq16) (cwV 4 hts (gwV wd_1699 wd_1701 wp_87 wd_11 wd_1702) rfl rfl rfl hd_X12_draws ⟨Nat.le_of_ble_eq_true rfl, Nat.le_of_ble_eq_true rfl⟩) (mg_200 G Z Y q14.2) rfl rfl rfl hl.1 rfl (Nat.le_of_ble_eq_true rfl) dX12_bound_129 ⟨Nat.zero_le _, Nat.zero_le _⟩ rfl (fun H locs hP hD hS => ?_)
        refine lv_i2l (v := (q16.1 : Int32).toInt64) hx hb dX12_bound_132 rfl ?_
        obtain ⟨c17, h⟩ := f_n h
        refine lv_ldiv hx hb dX12_bound_133 c17 ?_
        refine lv_aload_n hx hb dX12_bound_134 rfl (lv_at hl 0 rfl) ?_
        refine va_get (D := D) (ci := 12) (v := .ref (G.2.1 205)) (C := RX12) (T := TX12) (N := 59) hx hb hts inU_X12 hown hK hP _ (mg_200 G Z Y q16.2) rfl 13 (by decide) (hts _ wd_1261) (fun _ h9 => h9) rfl dX12_bound_135 ?_
        refine lv_bipush (v := 6) hx hb dX12_bound_138 (by decide) ?_
        refine lv_iload_n hx hb dX12_bound_140 rfl (lv_at hl 2 rfl) ?_
        refine lv_imul hx hb dX12_bound_141 ?_
        refine lv_iload hx hb dX12_bound_142 (lv_at hl 7 rfl) ?_
        refine lv_iadd hx hb dX12_bound_144 ?_
        obtain ⟨c18, h⟩ := f_n h
        refine va_ialdE (v := (q16.2.1 205 (((((6 : Int32) * y3) + z10) : Int32).toNatClampNeg))) hx hb hK hP _ 0 (mg_205 G Z Y q16.2) rfl c18 dX12_bound_145 rfl ?_
        refine lv_i2l (v := ((q16.2.1 205 (((((6 : Int32) * y3) + z10) : Int32).toNatClampNeg)) : Int32).toInt64) hx hb dX12_bound_146 rfl ?_
        refine lv_lmul hx hb dX12_bound_147 ?_
        refine lv_goto (tgt := 153) hx hb dX12_bound_148 (by decide) ?_
        refine lv_ladd hx hb dX12_bound_153 ?_
        refine lv_lstore (lv' := [(8, .long (z8 + ((y6 / (q16.1 : Int32).toInt64) * ((q16.2.1 205 (((((6 : Int32) * y3) + z10) : Int32).toNatClampNeg)) : Int32).toInt64))), (0, .ref (G.2.1 200)), (2, .int y2), (3, .int y3), (4, .int y4), (5, .int y5), (6, .long y6), (10, .int z10)]) hx hb dX12_bound_154 hl (by decide) rfl (fun ls hl => ?_)
        refine lv_iinc (v := (z10 + 1)) (lv' := [(10, .int (z10 + 1)), (8, .long (z8 + ((y6 / (q16.1 : Int32).toInt64) * ((q16.2.1 205 (((((6 : Int32) * y3) + z10) : Int32).toNatClampNeg)) : Int32).toInt64))), (0, .ref (G.2.1 200)), (2, .int y2), (3, .int y3), (4, .int y4), (5, .int y5), (6, .long y6)]) hx hb dX12_bound_156 hl (k := 7) rfl rfl (by decide) rfl (fun ls hl => ?_)
        refine lv_goto (tgt := 92) hx hb dX12_bound_159 (by decide) ?_
        exact ih q16.2 (z8 + ((y6 / (q16.1 : Int32).toInt64) * ((q16.2.1 205 (((((6 : Int32) * y3) + z10) : Int32).toNatClampNeg)) : Int32).toInt64)) (z10 + 1) h _ _ _ hP hD hS (lv_sub hl [2, 3, 4, 5, 6, 7, 1, 0] rfl)
set_option maxRecDepth 100000 in
set_option maxHeartbeats 8000000 in
theorem c_X12_bound (l : Launch) (D : va_G) (G : hG) (Z : hZ) (Y : va_W) (σ0 : hSt) (F : Nat) (x1 : Int32) (x2 : Int32) (res : (Int64 × hSt)) (h : f_X12_bound F Z σ0 x1 x2 = some res) : CT l yX12_bound cX12_bound 11 (some .long) rm_X12_bound D G 0 0 [.ref (G.2.1 200), .int x1, .int x2] (mW G Z Y σ0) (mW G Z Y res.2) (some (.long res.1)) := by
  unfold f_X12_bound at h
  refine CT.mk (cc := cX12_bound) (maxL := 11) (ret := (some .long)) (own := RX12) (plainFor_of_name (by decide)) rfl (Nat.le_of_ble_eq_true rfl) ?_
  intro p e s m args below meth c A ls C0 hnm hA hP hD hl
  obtain ⟨hx, hb, hr, hml, hown, hts, hlocks, hK, hE⟩ := id C0
  have hS : va_S A s.heap s.heap [] := va_S.rf
  have hl : lv_has ls 11 [(0, .ref (G.2.1 200)), (1, .int x1), (2, .int x2)] := hl
  refine lv_aload_n hx hb dX12_bound_0 rfl (lv_at hl 0 rfl) ?_
  refine lv_iconst (v := 0) hx hb dX12_bound_1 (by decide) ?_
  refine va_put (D := D) (ci := 12) (v := .int (0 : Int32)) (ty := .int) (C := RX12) (T := TX12) (N := 59) hx hb hts inU_X12 tyX12 tyX12_ok nmX12 hown hK hP hD hS _ (mg_200 G Z Y σ0) rfl 0 (by decide) (hts _ wd_1248) (fun _ h9 => h9) rfl (by decide +kernel) rfl rfl (Nat.le_of_ble_eq_true rfl) dX12_bound_2 (fun H locs hP hD hS => ?_)
  have hP := wrP (mp_200_0 G Z Y σ0 (0 : Int32)) hP
  have hD := wrD (mp_200_0 G Z Y σ0 (0 : Int32)) hD
  refine lv_aload_n hx hb dX12_bound_5 rfl (lv_at hl 0 rfl) ?_
  refine lv_iload_n hx hb dX12_bound_6 rfl (lv_at hl 1 rfl) ?_
  obtain ⟨q1, hq1, h⟩ := f_b h
  refine cl_V (w := (mW G Z Y (sI σ0 200 0 (0 : Int32)))) (w' := (mW G Z Y (sI σ0 200 0 (0 : Int32)))) (rv := some (.int q1)) (bytes := cX12_isTalk) (maxL := 2) (ret := (some .boolean)) (C := RX12) (As := [.int x1]) (rest := []) (stk := [.int q1]) ⟨hx, hb, hml, hown, hts⟩ hK hE hA hP hD hS (c_X12_isTalk l D G Z Y (sI σ0 200 0 (0 : Int32)) x1 q1 hq1) (cwV 1 hts (gwV wd_1652 wd_1654 wp_76 wd_11 wd_1655) rfl rfl rfl hd_X12_isTalk ⟨Nat.le_of_ble_eq_true rfl, Nat.le_of_ble_eq_true rfl⟩) (mg_200 G Z Y (sI σ0 200 0 (0 : Int32))) rfl rfl rfl hl.1 rfl (Nat.le_of_ble_eq_true rfl) dX12_bound_7 ⟨Nat.zero_le _, Nat.zero_le _⟩ rfl (fun H locs hP hD hS => ?_)
  refine lv_if_eq (tgt := 23) hx hb dX12_bound_10 (by decide) (fun c2 => ?_) (fun c2 => ?_)
  · skip
    have h := f_t c2 h
    refine lv_ldc2 (v := (-1)) hx hb hown (hts _ wd_1767) dX12_bound_23 ?_
    obtain rfl := Option.some.inj h
    exact W.lret (v := (-1 : Int64)) hx hb hr (q_end hK hP hD hS) hS.2.2 dX12_bound_26
  · skip
    have h := f_f c2 h
    refine lv_iload_n hx hb dX12_bound_13 rfl (lv_at hl 2 rfl) ?_
    refine lv_i2l (v := (x2 : Int32).toInt64) hx hb dX12_bound_14 rfl ?_
    refine lv_lconst (v := 0) hx hb dX12_bound_15 (by decide) ?_
    refine lv_lconst (v := 1) hx hb dX12_bound_16 (by decide) ?_
    obtain ⟨q3, hq3, h⟩ := f_b h
    refine cl_S (w := (mW G Z Y (sI σ0 200 0 (0 : Int32)))) (w' := (mW G Z Y (sI σ0 200 0 (0 : Int32)))) (rv := some (.int q3)) (bytes := cX12_isIn) (maxL := 6) (ret := (some .boolean)) (As := [.long (x2 : Int32).toInt64, .long (0 : Int64), .long (1 : Int64)]) (rest := []) (stk := [.int q3]) ⟨hx, hb, hml, hown, hts⟩ hK hE hA hP hD hS (c_X12_isIn l D G (mW G Z Y (sI σ0 200 0 (0 : Int32))) ((x2 : Int32).toInt64) (0 : Int64) (1 : Int64) q3 hq3) (mkS hts wd_1498 wd_1499 wd_11 wd_1500 rfl rfl hd_X12_isIn ⟨Nat.le_of_ble_eq_true rfl, Nat.le_of_ble_eq_true rfl⟩) rfl hl.1 rfl (Nat.le_of_ble_eq_true rfl) dX12_bound_17 ⟨Nat.zero_le _, Nat.zero_le _⟩ rfl (fun H locs hP hD hS => ?_)
    refine lv_if_ne (tgt := 27) hx hb dX12_bound_20 (by decide) (fun c4 => ?_) (fun c4 => ?_)
    · skip
      have h := f_f c4 h
      refine lv_aload_n hx hb dX12_bound_27 rfl (lv_at hl 0 rfl) ?_
      refine va_get (D := D) (ci := 12) (v := .ref (G.2.1 214)) (C := RX12) (T := TX12) (N := 59) hx hb hts inU_X12 hown hK hP _ (mg_200 G Z Y (sI σ0 200 0 (0 : Int32))) rfl 32 (by decide) (hts _ wd_1280) (fun _ h9 => h9) rfl dX12_bound_28 ?_
      refine lv_iload_n hx hb dX12_bound_31 rfl (lv_at hl 1 rfl) ?_
      obtain ⟨c5, h⟩ := f_n h
      refine va_ialdE (v := (σ0.1 214 ((x1 : Int32).toNatClampNeg))) hx hb hK hP _ 0 (mg_214 G Z Y (sI σ0 200 0 (0 : Int32))) rfl c5 dX12_bound_32 rfl ?_
      refine lv_istore_n (lv' := [(3, .int (σ0.1 214 ((x1 : Int32).toNatClampNeg))), (0, .ref (G.2.1 200)), (1, .int x1), (2, .int x2)]) hx hb dX12_bound_33 rfl hl (by decide) rfl (fun ls hl => ?_)
      refine lv_aload_n hx hb dX12_bound_34 rfl (lv_at hl 1 rfl) ?_
      refine va_get (D := D) (ci := 12) (v := .ref (G.2.1 216)) (C := RX12) (T := TX12) (N := 59) hx hb hts inU_X12 hown hK hP _ (mg_200 G Z Y (sI σ0 200 0 (0 : Int32))) rfl 34 (by decide) (hts _ wd_1282) (fun _ h9 => h9) rfl dX12_bound_35 ?_
      refine lv_iload_n hx hb dX12_bound_38 rfl (lv_at hl 2 rfl) ?_
      obtain ⟨c6, h⟩ := f_n h
      refine va_ialdE (v := (σ0.1 216 ((x1 : Int32).toNatClampNeg))) hx hb hK hP _ 0 (mg_216 G Z Y (sI σ0 200 0 (0 : Int32))) rfl c6 dX12_bound_39 rfl ?_
      refine lv_istore (lv' := [(4, .int (σ0.1 216 ((x1 : Int32).toNatClampNeg))), (3, .int (σ0.1 214 ((x1 : Int32).toNatClampNeg))), (0, .ref (G.2.1 200)), (1, .int x1), (2, .int x2)]) hx hb dX12_bound_40 hl (by decide) rfl (fun ls hl => ?_)
      refine lv_aload_n hx hb dX12_bound_42 rfl (lv_at hl 2 rfl) ?_
      refine va_get (D := D) (ci := 12) (v := .ref (G.2.1 215)) (C := RX12) (T := TX12) (N := 59) hx hb hts inU_X12 hown hK hP _ (mg_200 G Z Y (sI σ0 200 0 (0 : Int32))) rfl 33 (by decide) (hts _ wd_1281) (fun _ h9 => h9) rfl dX12_bound_43 ?_
      refine lv_iload_n hx hb dX12_bound_46 rfl (lv_at hl 3 rfl) ?_
      obtain ⟨c7, h⟩ := f_n h
      refine va_ialdE (v := (σ0.1 215 ((x1 : Int32).toNatClampNeg))) hx hb hK hP _ 0 (mg_215 G Z Y (sI σ0 200 0 (0 : Int32))) rfl c7 dX12_bound_47 rfl ?_
      refine lv_istore (lv' := [(5, .int (σ0.1 215 ((x1 : Int32).toNatClampNeg))), (4, .int (σ0.1 216 ((x1 : Int32).toNatClampNeg))), (3, .int (σ0.1 214 ((x1 : Int32).toNatClampNeg))), (0, .ref (G.2.1 200)), (1, .int x1), (2, .int x2)]) hx hb dX12_bound_48 hl (by decide) rfl (fun ls hl => ?_)
      refine lv_aload_n hx hb dX12_bound_50 rfl (lv_at hl 3 rfl) ?_
      refine lv_iload_n hx hb dX12_bound_51 rfl (lv_at hl 2 rfl) ?_
      refine lv_iload hx hb dX12_bound_52 (lv_at hl 1 rfl) ?_
      refine lv_iload hx hb dX12_bound_54 (lv_at hl 0 rfl) ?_
      obtain ⟨q8, hq8, h⟩ := f_b h
      refine cl_V (w := (mW G Z Y (sI σ0 200 0 (0 : Int32)))) (w' := (mW G Z Y q8.2)) (rv := some (.long q8.1)) (bytes := cX12_product) (maxL := 8) (ret := (some .long)) (C := RX12) (As := [.int (σ0.1 214 ((x1 : Int32).toNatClampNeg)), .int (σ0.1 216 ((x1 : Int32).toNatClampNeg)), .int (σ0.1 215 ((x1 : Int32).toNatClampNeg))]) (rest := []) (stk := [.long q8.1]) ⟨hx, hb, hml, hown, hts⟩ hK hE hA hP hD hS (c_X12_product l D G Z Y (sI σ0 200 0 (0 : Int32)) F (σ0.1 214 ((x1 : Int32).toNatClampNeg)) (σ0.1 216 ((x1 : Int32).toNatClampNeg)) (σ0.1 215 ((x1 : Int32).toNatClampNeg)) q8 hq8) (cwV 3 hts (gwV wd_1762 wd_1764 wp_94 wd_11 wd_1765) rfl rfl rfl hd_X12_product ⟨Nat.le_of_ble_eq_true rfl, Nat.le_of_ble_eq_true rfl⟩) (mg_200 G Z Y (sI σ0 200 0 (0 : Int32))) rfl rfl rfl hl.1 rfl (Nat.le_of_ble_eq_true rfl) dX12_bound_56 ⟨Nat.zero_le _, Nat.zero_le _⟩ rfl (fun H locs hP hD hS => ?_)
      refine lv_lstore (lv' := [(6, .long q8.1), (5, .int (σ0.1 215 ((x1 : Int32).toNatClampNeg))), (4, .int (σ0.1 216 ((x1 : Int32).toNatClampNeg))), (3, .int (σ0.1 214 ((x1 : Int32).toNatClampNeg))), (0, .ref (G.2.1 200)), (1, .int x1), (2, .int x2)]) hx hb dX12_bound_59 hl (by decide) rfl (fun ls hl => ?_)
      refine lv_lload hx hb dX12_bound_61 (lv_at hl 0 rfl) ?_
      refine lv_lconst (v := 0) hx hb dX12_bound_63 (by decide) ?_
      refine W.lcmp hx hb dX12_bound_64 ?_
      refine lv_if_ne (tgt := 72) hx hb dX12_bound_65 (by decide) (fun c9 => ?_) (fun c9 => ?_)
      · skip
        have c9 := mt (lg_cmp_eq _ _).mpr c9
        have h := f_f c9 h
        refine lv_aload_n hx hb dX12_bound_72 rfl (lv_at hl 4 rfl) ?_
        refine lv_iload hx hb dX12_bound_73 (lv_at hl 2 rfl) ?_
        refine lv_iload_n hx hb dX12_bound_75 rfl (lv_at hl 3 rfl) ?_
        refine lv_iload hx hb dX12_bound_76 (lv_at hl 1 rfl) ?_
        obtain ⟨q10, hq10, h⟩ := f_b h
        refine cl_V (w := (mW G Z Y q8.2)) (w' := (mW G Z Y q10.2)) (rv := some (.int q10.1)) (bytes := cX12_asksEnd) (maxL := 4) (ret := (some .boolean)) (C := RX12) (As := [.int (σ0.1 216 ((x1 : Int32).toNatClampNeg)), .int (σ0.1 214 ((x1 : Int32).toNatClampNeg)), .int (σ0.1 215 ((x1 : Int32).toNatClampNeg))]) (rest := []) (stk := [.int q10.1]) ⟨hx, hb, hml, hown, hts⟩ hK hE hA hP hD hS (c_X12_asksEnd l D G Z Y q8.2 F (σ0.1 216 ((x1 : Int32).toNatClampNeg)) (σ0.1 214 ((x1 : Int32).toNatClampNeg)) (σ0.1 215 ((x1 : Int32).toNatClampNeg)) q10 hq10) (cwV 3 hts (gwV wd_1711 wd_1713 wp_90 wd_11 wd_1714) rfl rfl rfl hd_X12_asksEnd ⟨Nat.le_of_ble_eq_true rfl, Nat.le_of_ble_eq_true rfl⟩) (mg_200 G Z Y q8.2) rfl rfl rfl hl.1 rfl (Nat.le_of_ble_eq_true rfl) dX12_bound_78 ⟨Nat.zero_le _, Nat.zero_le _⟩ rfl (fun H locs hP hD hS => ?_)
        refine lv_if_ne (tgt := 86) hx hb dX12_bound_81 (by decide) (fun c11 => ?_) (fun c11 => ?_)
        · skip
          have h := f_f c11 h
          refine lv_lconst (v := 0) hx hb dX12_bound_86 (by decide) ?_
          refine lv_lstore (lv' := [(8, .long (0 : Int64)), (6, .long q8.1), (5, .int (σ0.1 215 ((x1 : Int32).toNatClampNeg))), (4, .int (σ0.1 216 ((x1 : Int32).toNatClampNeg))), (3, .int (σ0.1 214 ((x1 : Int32).toNatClampNeg))), (0, .ref (G.2.1 200)), (1, .int x1), (2, .int x2)]) hx hb dX12_bound_87 hl (by decide) rfl (fun ls hl => ?_)
          refine lv_iconst (v := 0) hx hb dX12_bound_89 (by decide) ?_
          refine lv_istore (lv' := [(10, .int (0 : Int32)), (8, .long (0 : Int64)), (6, .long q8.1), (5, .int (σ0.1 215 ((x1 : Int32).toNatClampNeg))), (4, .int (σ0.1 216 ((x1 : Int32).toNatClampNeg))), (3, .int (σ0.1 214 ((x1 : Int32).toNatClampNeg))), (0, .ref (G.2.1 200)), (1, .int x1), (2, .int x2)]) hx hb dX12_bound_90 hl (by decide) rfl (fun ls hl => ?_)
          refine W_X12_bound_L92 l D G Z Y σ0 F x1 x2 x2 (σ0.1 214 ((x1 : Int32).toNatClampNeg)) (σ0.1 216 ((x1 : Int32).toNatClampNeg)) (σ0.1 215 ((x1 : Int32).toNatClampNeg)) q8.1 res C0 hA _ ?_ F q10.2 (0 : Int64) (0 : Int32) h _ _ _ hP hD hS (lv_sub hl [6, 8, 5, 4, 3, 2, 1, 0] rfl)
          · intro σ1 z8 h H locs ls hP hD hS hl
            refine lv_lload hx hb dX12_bound_162 (lv_at hl 2 rfl) ?_
            refine lv_lload hx hb dX12_bound_164 (lv_at hl 1 rfl) ?_
            refine va_mmin_long hx hb (hml.trans hl.1.symm) hown (hts _ wd_1619) (hts _ wd_848) (hts _ wd_12) (hts _ wd_849) (Nat.le_of_ble_eq_true rfl) (Nat.le_of_ble_eq_true rfl) (Nat.zero_le _) (Nat.zero_le _) dX12_bound_166 ?_
            refine lv_lload hx hb dX12_bound_169 (lv_at hl 1 rfl) ?_
            refine lv_iload_n hx hb dX12_bound_171 rfl (lv_at hl 0 rfl) ?_
            obtain ⟨q19, hq19, h⟩ := f_b h
            refine cl_S (w := (mW G Z Y σ1)) (w' := (mW G Z Y σ1)) (rv := some (.long q19)) (bytes := cX12_fraction) (maxL := 7) (ret := (some .long)) (As := [.long (if q8.1 < z8 then q8.1 else z8), .long q8.1, .int x2]) (rest := []) (stk := [.long q19]) ⟨hx, hb, hml, hown, hts⟩ hK hE hA hP hD hS (c_X12_fraction l D G (mW G Z Y σ1) F (if q8.1 < z8 then q8.1 else z8) q8.1 x2 q19 hq19) (mkS hts wd_1772 wd_1773 wd_11 wd_1774 rfl rfl hd_X12_fraction ⟨Nat.le_of_ble_eq_true rfl, Nat.le_of_ble_eq_true rfl⟩) rfl hl.1 rfl (Nat.le_of_ble_eq_true rfl) dX12_bound_172 ⟨Nat.zero_le _, Nat.zero_le _⟩ rfl (fun H locs hP hD hS => ?_)
            obtain rfl := Option.some.inj h
            exact W.lret (v := q19) hx hb hr (q_end hK hP hD hS) hS.2.2 dX12_bound_175
        · skip
          have h := f_t c11 h
          refine lv_lconst (v := 1) hx hb dX12_bound_84 (by decide) ?_
          obtain rfl := Option.some.inj h
          exact W.lret (v := (1 : Int64)) hx hb hr (q_end hK hP hD hS) hS.2.2 dX12_bound_85
      · skip
        have c9 := (lg_cmp_eq _ _).mp c9
        have h := f_t c9 h
        refine lv_ldc2 (v := (-1)) hx hb hown (hts _ wd_1767) dX12_bound_68 ?_
        obtain rfl := Option.some.inj h
        exact W.lret (v := (-1 : Int64)) hx hb hr (q_end hK hP hD hS) hS.2.2 dX12_bound_71
    · skip
      have h := f_t c4 h
      refine lv_ldc2 (v := (-1)) hx hb hown (hts _ wd_1767) dX12_bound_23 ?_
      obtain rfl := Option.some.inj h
      exact W.lret (v := (-1 : Int64)) hx hb hr (q_end hK hP hD hS) hS.2.2 dX12_bound_26
abbrev rm_X12_roots : Room := { frames := 77, cells := 0, slots := 0, locals := 1916 }
set_option maxRecDepth 100000 in
set_option maxHeartbeats 8000000 in
theorem c_X12_roots (l : Launch) (D : va_G) (G : hG) (Z : hZ) (Y : va_W) (σ0 : hSt) (F : Nat) (x1 : Int32) (x2 : Int32) (res : (Int32 × hSt)) (h : f_X12_roots F Z σ0 x1 x2 = some res) : CT l yX12_roots cX12_roots 3 (some .int) rm_X12_roots D G 0 0 [.ref (G.2.1 200), .int x1, .int x2] (mW G Z Y σ0) (mW G Z Y res.2) (some (.int res.1)) := by
  unfold f_X12_roots at h
  refine CT.mk (cc := cX12_roots) (maxL := 3) (ret := (some .int)) (own := RX12) (plainFor_of_name (by decide)) rfl (Nat.le_of_ble_eq_true rfl) ?_
  intro p e s m args below meth c A ls C0 hnm hA hP hD hl
  obtain ⟨hx, hb, hr, hml, hown, hts, hlocks, hK, hE⟩ := id C0
  have hS : va_S A s.heap s.heap [] := va_S.rf
  have hl : lv_has ls 3 [(0, .ref (G.2.1 200)), (1, .int x1), (2, .int x2)] := hl
  refine lv_aload_n hx hb dX12_roots_0 rfl (lv_at hl 0 rfl) ?_
  refine lv_iconst (v := 0) hx hb dX12_roots_1 (by decide) ?_
  refine va_put (D := D) (ci := 12) (v := .int (0 : Int32)) (ty := .int) (C := RX12) (T := TX12) (N := 59) hx hb hts inU_X12 tyX12 tyX12_ok nmX12 hown hK hP hD hS _ (mg_200 G Z Y σ0) rfl 0 (by decide) (hts _ wd_1248) (fun _ h9 => h9) rfl (by decide +kernel) rfl rfl (Nat.le_of_ble_eq_true rfl) dX12_roots_2 (fun H locs hP hD hS => ?_)
  have hP := wrP (mp_200_0 G Z Y σ0 (0 : Int32)) hP
  have hD := wrD (mp_200_0 G Z Y σ0 (0 : Int32)) hD
  refine lv_aload_n hx hb dX12_roots_5 rfl (lv_at hl 0 rfl) ?_
  refine lv_iload_n hx hb dX12_roots_6 rfl (lv_at hl 1 rfl) ?_
  obtain ⟨q1, hq1, h⟩ := f_b h
  refine cl_V (w := (mW G Z Y (sI σ0 200 0 (0 : Int32)))) (w' := (mW G Z Y (sI σ0 200 0 (0 : Int32)))) (rv := some (.int q1)) (bytes := cX12_isTalk) (maxL := 2) (ret := (some .boolean)) (C := RX12) (As := [.int x1]) (rest := []) (stk := [.int q1]) ⟨hx, hb, hml, hown, hts⟩ hK hE hA hP hD hS (c_X12_isTalk l D G Z Y (sI σ0 200 0 (0 : Int32)) x1 q1 hq1) (cwV 1 hts (gwV wd_1652 wd_1654 wp_76 wd_11 wd_1655) rfl rfl rfl hd_X12_isTalk ⟨Nat.le_of_ble_eq_true rfl, Nat.le_of_ble_eq_true rfl⟩) (mg_200 G Z Y (sI σ0 200 0 (0 : Int32))) rfl rfl rfl hl.1 rfl (Nat.le_of_ble_eq_true rfl) dX12_roots_7 ⟨Nat.zero_le _, Nat.zero_le _⟩ rfl (fun H locs hP hD hS => ?_)
  refine lv_if_eq (tgt := 63) hx hb dX12_roots_10 (by decide) (fun c2 => ?_) (fun c2 => ?_)
  · skip
    have h := f_t c2 h
    refine lv_iconst (v := (-1)) hx hb dX12_roots_63 (by decide) ?_
    obtain rfl := Option.some.inj h
    exact W.iret (v := (-1 : Int32)) hx hb hr (q_end hK hP hD hS) hS.2.2 dX12_roots_64
  · skip
    have h := f_f c2 h
    refine lv_iload_n hx hb dX12_roots_13 rfl (lv_at hl 2 rfl) ?_
    refine lv_i2l (v := (x2 : Int32).toInt64) hx hb dX12_roots_14 rfl ?_
    refine lv_lconst (v := 0) hx hb dX12_roots_15 (by decide) ?_
    refine lv_aload_n hx hb dX12_roots_16 rfl (lv_at hl 0 rfl) ?_
    refine va_get (D := D) (ci := 12) (v := .ref (G.2.1 204)) (C := RX12) (T := TX12) (N := 59) hx hb hts inU_X12 hown hK hP _ (mg_200 G Z Y (sI σ0 200 0 (0 : Int32))) rfl 12 (by decide) (hts _ wd_1260) (fun _ h9 => h9) rfl dX12_roots_17 ?_
    refine lv_aload_n hx hb dX12_roots_20 rfl (lv_at hl 0 rfl) ?_
    refine va_get (D := D) (ci := 12) (v := .ref (G.2.1 214)) (C := RX12) (T := TX12) (N := 59) hx hb hts inU_X12 hown hK hP _ (mg_200 G Z Y (sI σ0 200 0 (0 : Int32))) rfl 32 (by decide) (hts _ wd_1280) (fun _ h9 => h9) rfl dX12_roots_21 ?_
    refine lv_iload_n hx hb dX12_roots_24 rfl (lv_at hl 1 rfl) ?_
    obtain ⟨c3, h⟩ := f_n h
    refine va_ialdE (v := (σ0.1 214 ((x1 : Int32).toNatClampNeg))) hx hb hK hP _ 0 (mg_214 G Z Y (sI σ0 200 0 (0 : Int32))) rfl c3 dX12_roots_25 rfl ?_
    obtain ⟨c4, h⟩ := f_n h
    refine va_ialdE (v := (σ0.1 204 (((σ0.1 214 ((x1 : Int32).toNatClampNeg)) : Int32).toNatClampNeg))) hx hb hK hP _ 0 (mg_204 G Z Y (sI σ0 200 0 (0 : Int32))) rfl c4 dX12_roots_26 rfl ?_
    refine lv_iconst (v := 1) hx hb dX12_roots_27 (by decide) ?_
    refine lv_isub hx hb dX12_roots_28 ?_
    refine lv_i2l (v := (((σ0.1 204 (((σ0.1 214 ((x1 : Int32).toNatClampNeg)) : Int32).toNatClampNeg)) - (1 : Int32)) : Int32).toInt64) hx hb dX12_roots_29 rfl ?_
    obtain ⟨q5, hq5, h⟩ := f_b h
    refine cl_S (w := (mW G Z Y (sI σ0 200 0 (0 : Int32)))) (w' := (mW G Z Y (sI σ0 200 0 (0 : Int32)))) (rv := some (.int q5)) (bytes := cX12_isIn) (maxL := 6) (ret := (some .boolean)) (As := [.long (x2 : Int32).toInt64, .long (0 : Int64), .long (((σ0.1 204 (((σ0.1 214 ((x1 : Int32).toNatClampNeg)) : Int32).toNatClampNeg)) - (1 : Int32)) : Int32).toInt64]) (rest := []) (stk := [.int q5]) ⟨hx, hb, hml, hown, hts⟩ hK hE hA hP hD hS (c_X12_isIn l D G (mW G Z Y (sI σ0 200 0 (0 : Int32))) ((x2 : Int32).toInt64) (0 : Int64) ((((σ0.1 204 (((σ0.1 214 ((x1 : Int32).toNatClampNeg)) : Int32).toNatClampNeg)) - (1 : Int32)) : Int32).toInt64) q5 hq5) (mkS hts wd_1498 wd_1499 wd_11 wd_1500 rfl rfl hd_X12_isIn ⟨Nat.le_of_ble_eq_true rfl, Nat.le_of_ble_eq_true rfl⟩) rfl hl.1 rfl (Nat.le_of_ble_eq_true rfl) dX12_roots_30 ⟨Nat.zero_le _, Nat.zero_le _⟩ rfl (fun H locs hP hD hS => ?_)
    refine lv_if_eq (tgt := 63) hx hb dX12_roots_33 (by decide) (fun c6 => ?_) (fun c6 => ?_)
    · skip
      have h := f_t c6 h
      refine lv_iconst (v := (-1)) hx hb dX12_roots_63 (by decide) ?_
      obtain rfl := Option.some.inj h
      exact W.iret (v := (-1 : Int32)) hx hb hr (q_end hK hP hD hS) hS.2.2 dX12_roots_64
    · skip
      have h := f_f c6 h
      refine lv_aload_n hx hb dX12_roots_36 rfl (lv_at hl 0 rfl) ?_
      refine lv_aload_n hx hb dX12_roots_37 rfl (lv_at hl 0 rfl) ?_
      refine va_get (D := D) (ci := 12) (v := .ref (G.2.1 214)) (C := RX12) (T := TX12) (N := 59) hx hb hts inU_X12 hown hK hP _ (mg_200 G Z Y (sI σ0 200 0 (0 : Int32))) rfl 32 (by decide) (hts _ wd_1280) (fun _ h9 => h9) rfl dX12_roots_38 ?_
      refine lv_iload_n hx hb dX12_roots_41 rfl (lv_at hl 1 rfl) ?_
      obtain ⟨c7, h⟩ := f_n h
      refine va_ialdE (v := (σ0.1 214 ((x1 : Int32).toNatClampNeg))) hx hb hK hP _ 0 (mg_214 G Z Y (sI σ0 200 0 (0 : Int32))) rfl c7 dX12_roots_42 rfl ?_
      refine lv_aload_n hx hb dX12_roots_43 rfl (lv_at hl 0 rfl) ?_
      refine va_get (D := D) (ci := 12) (v := .ref (G.2.1 216)) (C := RX12) (T := TX12) (N := 59) hx hb hts inU_X12 hown hK hP _ (mg_200 G Z Y (sI σ0 200 0 (0 : Int32))) rfl 34 (by decide) (hts _ wd_1282) (fun _ h9 => h9) rfl dX12_roots_44 ?_
      refine lv_iload_n hx hb dX12_roots_47 rfl (lv_at hl 1 rfl) ?_
      obtain ⟨c8, h⟩ := f_n h
      refine va_ialdE (v := (σ0.1 216 ((x1 : Int32).toNatClampNeg))) hx hb hK hP _ 0 (mg_216 G Z Y (sI σ0 200 0 (0 : Int32))) rfl c8 dX12_roots_48 rfl ?_
      refine lv_aload_n hx hb dX12_roots_49 rfl (lv_at hl 0 rfl) ?_
      refine va_get (D := D) (ci := 12) (v := .ref (G.2.1 215)) (C := RX12) (T := TX12) (N := 59) hx hb hts inU_X12 hown hK hP _ (mg_200 G Z Y (sI σ0 200 0 (0 : Int32))) rfl 33 (by decide) (hts _ wd_1281) (fun _ h9 => h9) rfl dX12_roots_50 ?_
      refine lv_iload_n hx hb dX12_roots_53 rfl (lv_at hl 1 rfl) ?_
      obtain ⟨c9, h⟩ := f_n h
      refine va_ialdE (v := (σ0.1 215 ((x1 : Int32).toNatClampNeg))) hx hb hK hP _ 0 (mg_215 G Z Y (sI σ0 200 0 (0 : Int32))) rfl c9 dX12_roots_54 rfl ?_
      obtain ⟨q10, hq10, h⟩ := f_b h
      refine cl_V (w := (mW G Z Y (sI σ0 200 0 (0 : Int32)))) (w' := (mW G Z Y q10.2)) (rv := some (.long q10.1)) (bytes := cX12_product) (maxL := 8) (ret := (some .long)) (C := RX12) (As := [.int (σ0.1 214 ((x1 : Int32).toNatClampNeg)), .int (σ0.1 216 ((x1 : Int32).toNatClampNeg)), .int (σ0.1 215 ((x1 : Int32).toNatClampNeg))]) (rest := []) (stk := [.long q10.1]) ⟨hx, hb, hml, hown, hts⟩ hK hE hA hP hD hS (c_X12_product l D G Z Y (sI σ0 200 0 (0 : Int32)) F (σ0.1 214 ((x1 : Int32).toNatClampNeg)) (σ0.1 216 ((x1 : Int32).toNatClampNeg)) (σ0.1 215 ((x1 : Int32).toNatClampNeg)) q10 hq10) (cwV 3 hts (gwV wd_1762 wd_1764 wp_94 wd_11 wd_1765) rfl rfl rfl hd_X12_product ⟨Nat.le_of_ble_eq_true rfl, Nat.le_of_ble_eq_true rfl⟩) (mg_200 G Z Y (sI σ0 200 0 (0 : Int32))) rfl rfl rfl hl.1 rfl (Nat.le_of_ble_eq_true rfl) dX12_roots_55 ⟨Nat.zero_le _, Nat.zero_le _⟩ rfl (fun H locs hP hD hS => ?_)
      refine lv_lconst (v := 0) hx hb dX12_roots_58 (by decide) ?_
      refine W.lcmp hx hb dX12_roots_59 ?_
      refine lv_if_ne (tgt := 65) hx hb dX12_roots_60 (by decide) (fun c11 => ?_) (fun c11 => ?_)
      · skip
        have c11 := mt (lg_cmp_eq _ _).mpr c11
        have h := f_f c11 h
        refine lv_aload_n hx hb dX12_roots_65 rfl (lv_at hl 0 rfl) ?_
        refine lv_aload_n hx hb dX12_roots_66 rfl (lv_at hl 0 rfl) ?_
        refine va_get (D := D) (ci := 12) (v := .ref (G.2.1 214)) (C := RX12) (T := TX12) (N := 59) hx hb hts inU_X12 hown hK hP _ (mg_200 G Z Y q10.2) rfl 32 (by decide) (hts _ wd_1280) (fun _ h9 => h9) rfl dX12_roots_67 ?_
        refine lv_iload_n hx hb dX12_roots_70 rfl (lv_at hl 1 rfl) ?_
        obtain ⟨c12, h⟩ := f_n h
        refine va_ialdE (v := (q10.2.1 214 ((x1 : Int32).toNatClampNeg))) hx hb hK hP _ 0 (mg_214 G Z Y q10.2) rfl c12 dX12_roots_71 rfl ?_
        refine lv_aload_n hx hb dX12_roots_72 rfl (lv_at hl 0 rfl) ?_
        refine va_get (D := D) (ci := 12) (v := .ref (G.2.1 216)) (C := RX12) (T := TX12) (N := 59) hx hb hts inU_X12 hown hK hP _ (mg_200 G Z Y q10.2) rfl 34 (by decide) (hts _ wd_1282) (fun _ h9 => h9) rfl dX12_roots_73 ?_
        refine lv_iload_n hx hb dX12_roots_76 rfl (lv_at hl 1 rfl) ?_
        obtain ⟨c13, h⟩ := f_n h
        refine va_ialdE (v := (q10.2.1 216 ((x1 : Int32).toNatClampNeg))) hx hb hK hP _ 0 (mg_216 G Z Y q10.2) rfl c13 dX12_roots_77 rfl ?_
        refine lv_aload_n hx hb dX12_roots_78 rfl (lv_at hl 0 rfl) ?_
        refine va_get (D := D) (ci := 12) (v := .ref (G.2.1 215)) (C := RX12) (T := TX12) (N := 59) hx hb hts inU_X12 hown hK hP _ (mg_200 G Z Y q10.2) rfl 33 (by decide) (hts _ wd_1281) (fun _ h9 => h9) rfl dX12_roots_79 ?_
        refine lv_iload_n hx hb dX12_roots_82 rfl (lv_at hl 1 rfl) ?_
        obtain ⟨c14, h⟩ := f_n h
        refine va_ialdE (v := (q10.2.1 215 ((x1 : Int32).toNatClampNeg))) hx hb hK hP _ 0 (mg_215 G Z Y q10.2) rfl c14 dX12_roots_83 rfl ?_
        refine lv_iload_n hx hb dX12_roots_84 rfl (lv_at hl 2 rfl) ?_
        obtain ⟨q15, hq15, h⟩ := f_b h
        refine cl_V (w := (mW G Z Y q10.2)) (w' := (mW G Z Y q15.2)) (rv := some (.int q15.1)) (bytes := cX12_rootsIn) (maxL := 6) (ret := (some .int)) (C := RX12) (As := [.int (q10.2.1 214 ((x1 : Int32).toNatClampNeg)), .int (q10.2.1 216 ((x1 : Int32).toNatClampNeg)), .int (q10.2.1 215 ((x1 : Int32).toNatClampNeg)), .int x2]) (rest := []) (stk := [.int q15.1]) ⟨hx, hb, hml, hown, hts⟩ hK hE hA hP hD hS (c_X12_rootsIn l D G Z Y q10.2 F (q10.2.1 214 ((x1 : Int32).toNatClampNeg)) (q10.2.1 216 ((x1 : Int32).toNatClampNeg)) (q10.2.1 215 ((x1 : Int32).toNatClampNeg)) x2 q15 hq15) (cwV 4 hts (gwV wd_1768 wd_1770 wp_95 wd_11 wd_1771) rfl rfl rfl hd_X12_rootsIn ⟨Nat.le_of_ble_eq_true rfl, Nat.le_of_ble_eq_true rfl⟩) (mg_200 G Z Y q10.2) rfl rfl rfl hl.1 rfl (Nat.le_of_ble_eq_true rfl) dX12_roots_85 ⟨Nat.zero_le _, Nat.zero_le _⟩ rfl (fun H locs hP hD hS => ?_)
        obtain rfl := Option.some.inj h
        exact W.iret (v := q15.1) hx hb hr (q_end hK hP hD hS) hS.2.2 dX12_roots_88
      · skip
        have c11 := (lg_cmp_eq _ _).mp c11
        have h := f_t c11 h
        refine lv_iconst (v := (-1)) hx hb dX12_roots_63 (by decide) ?_
        obtain rfl := Option.some.inj h
        exact W.iret (v := (-1 : Int32)) hx hb hr (q_end hK hP hD hS) hS.2.2 dX12_roots_64
abbrev rm_X12_small : Room := { frames := 78, cells := 0, slots := 0, locals := 1945 }
set_option maxRecDepth 100000 in
set_option maxHeartbeats 8000000 in
theorem W_X12_small_L49 {p : Program} {e : Env} {s : State} {m : MethodId} {args : Array Value} {below : List Frame} {meth : Method} {c : Code} {A : Nat → Prop} (l : Launch) (D : va_G) (G : hG) (Z : hZ) (Y : va_W) (σ0 : hSt) (F : Nat) (x1 : Int32) (x2 : Int32) (x3 : Int32) (σ1 : hSt) (y1 : Int32) (y2 : Int32) (y3 : Int32) (res : (Int32 × hSt)) (C0 : Cx p s m args meth c cX12_small (some .int) RX12 8 D G A) (hA : ∀ q : Nat, s.heap.size ≤ q → A q) (k87 : Int32 → Option (Int32 × hSt)) (hk87 : ∀ (z4 : Int32), k87 z4 = some res → ∀ (H : Heap) (locs : List Loc) (ls : Array Slot), va_P D vwCl (mW G Z Y σ1) H → va_D A (mW G Z Y σ1) → va_S A s.heap H locs → lv_has ls 8 [(0, .ref (G.2.1 200)), (1, .int y1), (2, .int y2), (3, .int y3), (4, .int z4)] → W p l e rm_X12_small s m args below meth c H locs 0 0 (MQ below (Qg (some (.int res.1)) D (tysG G) (mW G Z Y res.2) A) args s 0 0 A) (F0 m 87 ls [])) : ∀ (n : Nat) (z4 : Int32) (z5 : Int32), f_X12_small_L49 σ1 y1 y2 y3 k87 n z4 z5 = some res → ∀ (H : Heap) (locs : List Loc) (ls : Array Slot), va_P D vwCl (mW G Z Y σ1) H → va_D A (mW G Z Y σ1) → va_S A s.heap H locs → lv_has ls 8 [(0, .ref (G.2.1 200)), (1, .int y1), (2, .int y2), (3, .int y3), (4, .int z4), (5, .int z5)] → W p l e rm_X12_small s m args below meth c H locs 0 0 (MQ below (Qg (some (.int res.1)) D (tysG G) (mW G Z Y res.2) A) args s 0 0 A) (F0 m 49 ls []) := by
  obtain ⟨hx, hb, hr, hml, hown, hts, hlocks, hK, hE⟩ := id C0
  intro n
  induction n with
  | zero =>
    intro z4 z5 h
    cases h
  | succ n ih =>
    intro z4 z5 h H locs ls hP hD hS hl
    rw [f_X12_small_L49] at h
    refine lv_iload hx hb dX12_small_49 (lv_at hl 5 rfl) ?_
    refine lv_aload_n hx hb dX12_small_51 rfl (lv_at hl 0 rfl) ?_
    refine va_get (D := D) (ci := 12) (v := .ref (G.2.1 204)) (C := RX12) (T := TX12) (N := 59) hx hb hts inU_X12 hown hK hP _ (mg_200 G Z Y σ1) rfl 12 (by decide) (hts _ wd_1260) (fun _ h9 => h9) rfl dX12_small_52 ?_
    refine lv_iload_n hx hb dX12_small_55 rfl (lv_at hl 1 rfl) ?_
    obtain ⟨c7, h⟩ := f_n h
    refine va_ialdE (v := (σ1.1 204 ((y1 : Int32).toNatClampNeg))) hx hb hK hP _ 0 (mg_204 G Z Y σ1) rfl c7 dX12_small_56 rfl ?_
    refine lv_icmp_ge (tgt := 87) hx hb dX12_small_57 (by decide) (fun c8 => ?_) (fun c8 => ?_)
    · skip
      have h := f_t c8 h
      exact hk87 z4 h _ _ _ hP hD hS (lv_sub hl [0, 1, 2, 3, 4] rfl)
    · skip
      have h := f_f c8 h
      refine lv_iload hx hb dX12_small_60 (lv_at hl 4 rfl) ?_
      refine lv_aload_n hx hb dX12_small_62 rfl (lv_at hl 0 rfl) ?_
      refine va_get (D := D) (ci := 12) (v := .ref (G.2.1 205)) (C := RX12) (T := TX12) (N := 59) hx hb hts inU_X12 hown hK hP _ (mg_200 G Z Y σ1) rfl 13 (by decide) (hts _ wd_1261) (fun _ h9 => h9) rfl dX12_small_63 ?_
      refine lv_bipush (v := 6) hx hb dX12_small_66 (by decide) ?_
      refine lv_iload_n hx hb dX12_small_68 rfl (lv_at hl 1 rfl) ?_
      refine lv_imul hx hb dX12_small_69 ?_
      refine lv_iload hx hb dX12_small_70 (lv_at hl 5 rfl) ?_
      refine lv_iadd hx hb dX12_small_72 ?_
      obtain ⟨c9, h⟩ := f_n h
      refine va_ialdE (v := (σ1.1 205 (((((6 : Int32) * y1) + z5) : Int32).toNatClampNeg))) hx hb hK hP _ 0 (mg_205 G Z Y σ1) rfl c9 dX12_small_73 rfl ?_
      refine lv_iconst (v := 1) hx hb dX12_small_74 (by decide) ?_
      refine lv_iadd hx hb dX12_small_75 ?_
      refine va_mmax hx hb (hml.trans hl.1.symm) hown (hts _ wd_1476) (hts _ wd_328) (hts _ wd_12) (hts _ wd_329) (Nat.le_of_ble_eq_true rfl) (Nat.le_of_ble_eq_true rfl) (Nat.zero_le _) (Nat.zero_le _) dX12_small_76 ?_
      refine lv_istore (lv' := [(4, .int (if z4 < ((σ1.1 205 (((((6 : Int32) * y1) + z5) : Int32).toNatClampNeg)) + (1 : Int32)) then ((σ1.1 205 (((((6 : Int32) * y1) + z5) : Int32).toNatClampNeg)) + (1 : Int32)) else z4)), (0, .ref (G.2.1 200)), (1, .int y1), (2, .int y2), (3, .int y3), (5, .int z5)]) hx hb dX12_small_79 hl (by decide) rfl (fun ls hl => ?_)
      refine lv_iinc (v := (z5 + 1)) (lv' := [(5, .int (z5 + 1)), (4, .int (if z4 < ((σ1.1 205 (((((6 : Int32) * y1) + z5) : Int32).toNatClampNeg)) + (1 : Int32)) then ((σ1.1 205 (((((6 : Int32) * y1) + z5) : Int32).toNatClampNeg)) + (1 : Int32)) else z4)), (0, .ref (G.2.1 200)), (1, .int y1), (2, .int y2), (3, .int y3)]) hx hb dX12_small_81 hl (k := 5) rfl rfl (by decide) rfl (fun ls hl => ?_)
      refine lv_goto (tgt := 49) hx hb dX12_small_84 (by decide) ?_
      exact ih (if z4 < ((σ1.1 205 (((((6 : Int32) * y1) + z5) : Int32).toNatClampNeg)) + (1 : Int32)) then ((σ1.1 205 (((((6 : Int32) * y1) + z5) : Int32).toNatClampNeg)) + (1 : Int32)) else z4) (z5 + 1) h _ _ _ hP hD hS (lv_sub hl [2, 3, 4, 5, 1, 0] rfl)
set_option maxRecDepth 100000 in
set_option maxHeartbeats 8000000 in
theorem W_X12_small_L91 {p : Program} {e : Env} {s : State} {m : MethodId} {args : Array Value} {below : List Frame} {meth : Method} {c : Code} {A : Nat → Prop} (l : Launch) (D : va_G) (G : hG) (Z : hZ) (Y : va_W) (σ0 : hSt) (F : Nat) (x1 : Int32) (x2 : Int32) (x3 : Int32) (y1 : Int32) (y2 : Int32) (y3 : Int32) (res : (Int32 × hSt)) (C0 : Cx p s m args meth c cX12_small (some .int) RX12 8 D G A) (hA : ∀ q : Nat, s.heap.size ≤ q → A q) : ∀ (n : Nat) (σ1 : hSt) (z5 : Int32), f_X12_small_L91 F Z y1 y2 y3 n σ1 z5 = some res → ∀ (H : Heap) (locs : List Loc) (ls : Array Slot), va_P D vwCl (mW G Z Y σ1) H → va_D A (mW G Z Y σ1) → va_S A s.heap H locs → lv_has ls 8 [(0, .ref (G.2.1 200)), (1, .int y1), (2, .int y2), (3, .int y3), (5, .int z5)] → W p l e rm_X12_small s m args below meth c H locs 0 0 (MQ below (Qg (some (.int res.1)) D (tysG G) (mW G Z Y res.2) A) args s 0 0 A) (F0 m 91 ls []) := by
  obtain ⟨hx, hb, hr, hml, hown, hts, hlocks, hK, hE⟩ := id C0
  intro n
  induction n with
  | zero =>
    intro σ1 z5 h
    cases h
  | succ n ih =>
    intro σ1 z5 h H locs ls hP hD hS hl
    rw [f_X12_small_L91] at h
    refine lv_iload hx hb dX12_small_91 (lv_at hl 4 rfl) ?_
    refine lv_sipush (v := 1000) hx hb dX12_small_93 (by decide) ?_
    refine lv_icmp_gt (tgt := 157) hx hb dX12_small_96 (by decide) (fun c10 => ?_) (fun c10 => ?_)
    · skip
      have h := f_t c10 h
      refine lv_iconst (v := (-1)) hx hb dX12_small_157 (by decide) ?_
      obtain rfl := Option.some.inj h
      exact W.iret (v := (-1 : Int32)) hx hb hr (q_end hK hP hD hS) hS.2.2 dX12_small_158
    · skip
      have h := f_f c10 h
      refine lv_iload hx hb dX12_small_99 (lv_at hl 4 rfl) ?_
      obtain ⟨q11, hq11, h⟩ := f_b h
      refine cl_S (w := (mW G Z Y σ1)) (w' := (mW G Z Y σ1)) (rv := some (.int q11)) (bytes := cX12_isPrime) (maxL := 3) (ret := (some .boolean)) (As := [.int z5]) (rest := []) (stk := [.int q11]) ⟨hx, hb, hml, hown, hts⟩ hK hE hA hP hD hS (c_X12_isPrime l D G (mW G Z Y σ1) F z5 q11 hq11) (mkS hts wd_1538 wd_1539 wd_11 wd_1540 rfl rfl hd_X12_isPrime ⟨Nat.le_of_ble_eq_true rfl, Nat.le_of_ble_eq_true rfl⟩) rfl hl.1 rfl (Nat.le_of_ble_eq_true rfl) dX12_small_101 ⟨Nat.zero_le _, Nat.zero_le _⟩ rfl (fun H locs hP hD hS => ?_)
      refine lv_if_ne (tgt := 110) hx hb dX12_small_104 (by decide) (fun c12 => ?_) (fun c12 => ?_)
      · skip
        have h := f_f c12 h
        refine lv_aload_n hx hb dX12_small_110 rfl (lv_at hl 0 rfl) ?_
        refine lv_iload_n hx hb dX12_small_111 rfl (lv_at hl 1 rfl) ?_
        refine lv_iload_n hx hb dX12_small_112 rfl (lv_at hl 2 rfl) ?_
        refine lv_iload hx hb dX12_small_113 (lv_at hl 4 rfl) ?_
        refine lv_iconst (v := 0) hx hb dX12_small_115 (by decide) ?_
        obtain ⟨q13, hq13, h⟩ := f_b h
        refine cl_V (w := (mW G Z Y σ1)) (w' := (mW G Z Y q13.2)) (rv := some (.long q13.1)) (bytes := cX12_bestOf) (maxL := 10) (ret := (some .long)) (C := RX12) (As := [.int y1, .int y2, .int z5, .int (0 : Int32)]) (rest := []) (stk := [.long q13.1]) ⟨hx, hb, hml, hown, hts⟩ hK hE hA hP hD hS (c_X12_bestOf l D G Z Y σ1 F y1 y2 z5 (0 : Int32) q13 hq13) (cwV 4 hts (gwV wd_1758 wd_1760 wp_93 wd_11 wd_1761) rfl rfl rfl hd_X12_bestOf ⟨Nat.le_of_ble_eq_true rfl, Nat.le_of_ble_eq_true rfl⟩) (mg_200 G Z Y σ1) rfl rfl rfl hl.1 rfl (Nat.le_of_ble_eq_true rfl) dX12_small_116 ⟨Nat.zero_le _, Nat.zero_le _⟩ rfl (fun H locs hP hD hS => ?_)
        refine lv_lstore (lv' := [(6, .long q13.1), (0, .ref (G.2.1 200)), (1, .int y1), (2, .int y2), (3, .int y3), (5, .int z5)]) hx hb dX12_small_119 hl (by decide) rfl (fun ls hl => ?_)
        refine lv_lload hx hb dX12_small_121 (lv_at hl 0 rfl) ?_
        refine lv_ldc2 (v := (-1)) hx hb hown (hts _ wd_1767) dX12_small_123 ?_
        refine W.lcmp hx hb dX12_small_126 ?_
        refine lv_if_eq (tgt := 151) hx hb dX12_small_127 (by decide) (fun c14 => ?_) (fun c14 => ?_)
        · skip
          have c14 := (lg_cmp_eq _ _).mp c14
          have h := f_t c14 h
          refine lv_iinc (v := (z5 + 1)) (lv' := [(5, .int (z5 + 1)), (6, .long q13.1), (0, .ref (G.2.1 200)), (1, .int y1), (2, .int y2), (3, .int y3)]) hx hb dX12_small_151 hl (k := 5) rfl rfl (by decide) rfl (fun ls hl => ?_)
          refine lv_goto (tgt := 91) hx hb dX12_small_154 (by decide) ?_
          exact ih q13.2 (z5 + 1) h _ _ _ hP hD hS (lv_sub hl [2, 3, 4, 5, 0] rfl)
        · skip
          have c14 := mt (lg_cmp_eq _ _).mpr c14
          have h := f_f c14 h
          refine lv_lload hx hb dX12_small_130 (lv_at hl 0 rfl) ?_
          refine lv_aload_n hx hb dX12_small_132 rfl (lv_at hl 1 rfl) ?_
          refine lv_iload_n hx hb dX12_small_133 rfl (lv_at hl 2 rfl) ?_
          refine lv_iload_n hx hb dX12_small_134 rfl (lv_at hl 3 rfl) ?_
          refine lv_iload hx hb dX12_small_135 (lv_at hl 5 rfl) ?_
          refine lv_iconst (v := 1) hx hb dX12_small_137 (by decide) ?_
          obtain ⟨q15, hq15, h⟩ := f_b h
          refine cl_V (w := (mW G Z Y q13.2)) (w' := (mW G Z Y q15.2)) (rv := some (.long q15.1)) (bytes := cX12_bestOf) (maxL := 10) (ret := (some .long)) (C := RX12) (As := [.int y1, .int y2, .int z5, .int (1 : Int32)]) (rest := [.long q13.1]) (stk := [.long q15.1, .long q13.1]) ⟨hx, hb, hml, hown, hts⟩ hK hE hA hP hD hS (c_X12_bestOf l D G Z Y q13.2 F y1 y2 z5 (1 : Int32) q15 hq15) (cwV 4 hts (gwV wd_1758 wd_1760 wp_93 wd_11 wd_1761) rfl rfl rfl hd_X12_bestOf ⟨Nat.le_of_ble_eq_true rfl, Nat.le_of_ble_eq_true rfl⟩) (mg_200 G Z Y q13.2) rfl rfl rfl hl.1 rfl (Nat.le_of_ble_eq_true rfl) dX12_small_138 ⟨Nat.zero_le _, Nat.zero_le _⟩ rfl (fun H locs hP hD hS => ?_)
          refine lv_iload_n hx hb dX12_small_141 rfl (lv_at hl 4 rfl) ?_
          refine lv_i2l (v := (y3 : Int32).toInt64) hx hb dX12_small_142 rfl ?_
          obtain ⟨c16, h⟩ := f_n h
          refine lv_ldiv hx hb dX12_small_143 c16 ?_
          refine W.lcmp hx hb dX12_small_144 ?_
          refine lv_if_gt (tgt := 151) hx hb dX12_small_145 (by decide) (fun c17 => ?_) (fun c17 => ?_)
          · skip
            have c17 := (lg_cmp_gt _ _).mp c17
            have h := f_t c17 h
            refine lv_iinc (v := (z5 + 1)) (lv' := [(5, .int (z5 + 1)), (6, .long q13.1), (0, .ref (G.2.1 200)), (1, .int y1), (2, .int y2), (3, .int y3)]) hx hb dX12_small_151 hl (k := 5) rfl rfl (by decide) rfl (fun ls hl => ?_)
            refine lv_goto (tgt := 91) hx hb dX12_small_154 (by decide) ?_
            exact ih q15.2 (z5 + 1) h _ _ _ hP hD hS (lv_sub hl [2, 3, 4, 5, 0] rfl)
          · skip
            have c17 := mt (lg_cmp_gt _ _).mpr c17
            have h := f_f c17 h
            refine lv_iload hx hb dX12_small_148 (lv_at hl 5 rfl) ?_
            obtain rfl := Option.some.inj h
            exact W.iret (v := z5) hx hb hr (q_end hK hP hD hS) hS.2.2 dX12_small_150
      · skip
        have h := f_t c12 h
        refine lv_goto (tgt := 151) hx hb dX12_small_107 (by decide) ?_
        refine lv_iinc (v := (z5 + 1)) (lv' := [(5, .int (z5 + 1)), (0, .ref (G.2.1 200)), (1, .int y1), (2, .int y2), (3, .int y3)]) hx hb dX12_small_151 hl (k := 4) rfl rfl (by decide) rfl (fun ls hl => ?_)
        refine lv_goto (tgt := 91) hx hb dX12_small_154 (by decide) ?_
        exact ih σ1 (z5 + 1) h _ _ _ hP hD hS (lv_sub hl [1, 2, 3, 4, 0] rfl)
set_option maxRecDepth 100000 in
set_option maxHeartbeats 8000000 in
theorem c_X12_small (l : Launch) (D : va_G) (G : hG) (Z : hZ) (Y : va_W) (σ0 : hSt) (F : Nat) (x1 : Int32) (x2 : Int32) (x3 : Int32) (res : (Int32 × hSt)) (h : f_X12_small F Z σ0 x1 x2 x3 = some res) : CT l yX12_small cX12_small 8 (some .int) rm_X12_small D G 0 0 [.ref (G.2.1 200), .int x1, .int x2, .int x3] (mW G Z Y σ0) (mW G Z Y res.2) (some (.int res.1)) := by
  unfold f_X12_small at h
  refine CT.mk (cc := cX12_small) (maxL := 8) (ret := (some .int)) (own := RX12) (plainFor_of_name (by decide)) rfl (Nat.le_of_ble_eq_true rfl) ?_
  intro p e s m args below meth c A ls C0 hnm hA hP hD hl
  obtain ⟨hx, hb, hr, hml, hown, hts, hlocks, hK, hE⟩ := id C0
  have hS : va_S A s.heap s.heap [] := va_S.rf
  have hl : lv_has ls 8 [(0, .ref (G.2.1 200)), (1, .int x1), (2, .int x2), (3, .int x3)] := hl
  refine lv_aload_n hx hb dX12_small_0 rfl (lv_at hl 0 rfl) ?_
  refine lv_iconst (v := 0) hx hb dX12_small_1 (by decide) ?_
  refine va_put (D := D) (ci := 12) (v := .int (0 : Int32)) (ty := .int) (C := RX12) (T := TX12) (N := 59) hx hb hts inU_X12 tyX12 tyX12_ok nmX12 hown hK hP hD hS _ (mg_200 G Z Y σ0) rfl 0 (by decide) (hts _ wd_1248) (fun _ h9 => h9) rfl (by decide +kernel) rfl rfl (Nat.le_of_ble_eq_true rfl) dX12_small_2 (fun H locs hP hD hS => ?_)
  have hP := wrP (mp_200_0 G Z Y σ0 (0 : Int32)) hP
  have hD := wrD (mp_200_0 G Z Y σ0 (0 : Int32)) hD
  refine lv_aload_n hx hb dX12_small_5 rfl (lv_at hl 0 rfl) ?_
  refine lv_iload_n hx hb dX12_small_6 rfl (lv_at hl 1 rfl) ?_
  obtain ⟨q1, hq1, h⟩ := f_b h
  refine cl_V (w := (mW G Z Y (sI σ0 200 0 (0 : Int32)))) (w' := (mW G Z Y (sI σ0 200 0 (0 : Int32)))) (rv := some (.int q1)) (bytes := cX12_isSaying) (maxL := 2) (ret := (some .boolean)) (C := RX12) (As := [.int x1]) (rest := []) (stk := [.int q1]) ⟨hx, hb, hml, hown, hts⟩ hK hE hA hP hD hS (c_X12_isSaying l D G Z Y (sI σ0 200 0 (0 : Int32)) x1 q1 hq1) (cwV 1 hts (gwV wd_1493 wd_1495 wp_57 wd_11 wd_1496) rfl rfl rfl hd_X12_isSaying ⟨Nat.le_of_ble_eq_true rfl, Nat.le_of_ble_eq_true rfl⟩) (mg_200 G Z Y (sI σ0 200 0 (0 : Int32))) rfl rfl rfl hl.1 rfl (Nat.le_of_ble_eq_true rfl) dX12_small_7 ⟨Nat.zero_le _, Nat.zero_le _⟩ rfl (fun H locs hP hD hS => ?_)
  refine lv_if_eq (tgt := 41) hx hb dX12_small_10 (by decide) (fun c2 => ?_) (fun c2 => ?_)
  · skip
    have h := f_t c2 h
    refine lv_iconst (v := (-1)) hx hb dX12_small_41 (by decide) ?_
    obtain rfl := Option.some.inj h
    exact W.iret (v := (-1 : Int32)) hx hb hr (q_end hK hP hD hS) hS.2.2 dX12_small_42
  · skip
    have h := f_f c2 h
    refine lv_iload_n hx hb dX12_small_13 rfl (lv_at hl 2 rfl) ?_
    refine lv_i2l (v := (x2 : Int32).toInt64) hx hb dX12_small_14 rfl ?_
    refine lv_lconst (v := 0) hx hb dX12_small_15 (by decide) ?_
    refine lv_aload_n hx hb dX12_small_16 rfl (lv_at hl 0 rfl) ?_
    refine va_get (D := D) (ci := 12) (v := .int (σ0.1 200 25)) (C := RX12) (T := TX12) (N := 59) hx hb hts inU_X12 hown hK hP _ (mg_200 G Z Y (sI σ0 200 0 (0 : Int32))) rfl 25 (by decide) (hts _ wd_1273) (fun _ h9 => h9) rfl dX12_small_17 ?_
    refine lv_iconst (v := 1) hx hb dX12_small_20 (by decide) ?_
    refine lv_isub hx hb dX12_small_21 ?_
    refine lv_i2l (v := (((σ0.1 200 25) - (1 : Int32)) : Int32).toInt64) hx hb dX12_small_22 rfl ?_
    obtain ⟨q3, hq3, h⟩ := f_b h
    refine cl_S (w := (mW G Z Y (sI σ0 200 0 (0 : Int32)))) (w' := (mW G Z Y (sI σ0 200 0 (0 : Int32)))) (rv := some (.int q3)) (bytes := cX12_isIn) (maxL := 6) (ret := (some .boolean)) (As := [.long (x2 : Int32).toInt64, .long (0 : Int64), .long (((σ0.1 200 25) - (1 : Int32)) : Int32).toInt64]) (rest := []) (stk := [.int q3]) ⟨hx, hb, hml, hown, hts⟩ hK hE hA hP hD hS (c_X12_isIn l D G (mW G Z Y (sI σ0 200 0 (0 : Int32))) ((x2 : Int32).toInt64) (0 : Int64) ((((σ0.1 200 25) - (1 : Int32)) : Int32).toInt64) q3 hq3) (mkS hts wd_1498 wd_1499 wd_11 wd_1500 rfl rfl hd_X12_isIn ⟨Nat.le_of_ble_eq_true rfl, Nat.le_of_ble_eq_true rfl⟩) rfl hl.1 rfl (Nat.le_of_ble_eq_true rfl) dX12_small_23 ⟨Nat.zero_le _, Nat.zero_le _⟩ rfl (fun H locs hP hD hS => ?_)
    refine lv_if_eq (tgt := 41) hx hb dX12_small_26 (by decide) (fun c4 => ?_) (fun c4 => ?_)
    · skip
      have h := f_t c4 h
      refine lv_iconst (v := (-1)) hx hb dX12_small_41 (by decide) ?_
      obtain rfl := Option.some.inj h
      exact W.iret (v := (-1 : Int32)) hx hb hr (q_end hK hP hD hS) hS.2.2 dX12_small_42
    · skip
      have h := f_f c4 h
      refine lv_iload_n hx hb dX12_small_29 rfl (lv_at hl 3 rfl) ?_
      refine lv_i2l (v := (x3 : Int32).toInt64) hx hb dX12_small_30 rfl ?_
      refine lv_lconst (v := 1) hx hb dX12_small_31 (by decide) ?_
      refine lv_ldc2 (v := 1000000) hx hb hown (hts _ wd_1656) dX12_small_32 ?_
      obtain ⟨q5, hq5, h⟩ := f_b h
      refine cl_S (w := (mW G Z Y (sI σ0 200 0 (0 : Int32)))) (w' := (mW G Z Y (sI σ0 200 0 (0 : Int32)))) (rv := some (.int q5)) (bytes := cX12_isIn) (maxL := 6) (ret := (some .boolean)) (As := [.long (x3 : Int32).toInt64, .long (1 : Int64), .long (1000000 : Int64)]) (rest := []) (stk := [.int q5]) ⟨hx, hb, hml, hown, hts⟩ hK hE hA hP hD hS (c_X12_isIn l D G (mW G Z Y (sI σ0 200 0 (0 : Int32))) ((x3 : Int32).toInt64) (1 : Int64) (1000000 : Int64) q5 hq5) (mkS hts wd_1498 wd_1499 wd_11 wd_1500 rfl rfl hd_X12_isIn ⟨Nat.le_of_ble_eq_true rfl, Nat.le_of_ble_eq_true rfl⟩) rfl hl.1 rfl (Nat.le_of_ble_eq_true rfl) dX12_small_35 ⟨Nat.zero_le _, Nat.zero_le _⟩ rfl (fun H locs hP hD hS => ?_)
      refine lv_if_ne (tgt := 43) hx hb dX12_small_38 (by decide) (fun c6 => ?_) (fun c6 => ?_)
      · skip
        have h := f_f c6 h
        refine lv_iconst (v := 3) hx hb dX12_small_43 (by decide) ?_
        refine lv_istore (lv' := [(4, .int (3 : Int32)), (0, .ref (G.2.1 200)), (1, .int x1), (2, .int x2), (3, .int x3)]) hx hb dX12_small_44 hl (by decide) rfl (fun ls hl => ?_)
        refine lv_iconst (v := 0) hx hb dX12_small_46 (by decide) ?_
        refine lv_istore (lv' := [(5, .int (0 : Int32)), (4, .int (3 : Int32)), (0, .ref (G.2.1 200)), (1, .int x1), (2, .int x2), (3, .int x3)]) hx hb dX12_small_47 hl (by decide) rfl (fun ls hl => ?_)
        refine W_X12_small_L49 l D G Z Y σ0 F x1 x2 x3 (sI σ0 200 0 (0 : Int32)) x1 x2 x3 res C0 hA _ ?_ F (3 : Int32) (0 : Int32) h _ _ _ hP hD hS (lv_sub hl [2, 3, 4, 5, 1, 0] rfl)
        · intro z4 h H locs ls hP hD hS hl
          refine lv_iload hx hb dX12_small_87 (lv_at hl 4 rfl) ?_
          refine lv_istore (lv' := [(5, .int z4), (0, .ref (G.2.1 200)), (1, .int x1), (2, .int x2), (3, .int x3), (4, .int z4)]) hx hb dX12_small_89 hl (by decide) rfl (fun ls hl => ?_)
          refine W_X12_small_L91 l D G Z Y σ0 F x1 x2 x3 x1 x2 x3 res C0 hA F (sI σ0 200 0 (0 : Int32)) z4 h _ _ _ hP hD hS (lv_sub hl [1, 2, 3, 4, 0] rfl)
      · skip
        have h := f_t c6 h
        refine lv_iconst (v := (-1)) hx hb dX12_small_41 (by decide) ?_
        obtain rfl := Option.some.inj h
        exact W.iret (v := (-1 : Int32)) hx hb hr (q_end hK hP hD hS) hS.2.2 dX12_small_42
def rmG_Mw (d : Nat) : Room := { frames := 3 + d, cells := 0, slots := 0, locals := 80 + d * 26 }
set_option maxRecDepth 100000 in
set_option maxHeartbeats 8000000 in
theorem o_X12_isWon (l : Launch) (D : va_G) (G : hG) (Z : hZ) (Y : va_W) (F : Nat) (d : Nat) (u_X12_isWon : (hSt → Int32 → Int32 → Int32 → Int32 → Option (Int32 × hSt))) (hu_X12_isWon : ∀ (σ0 : hSt) (x1 : Int32) (x2 : Int32) (x3 : Int32) (x4 : Int32) (res : (Int32 × hSt)), u_X12_isWon σ0 x1 x2 x3 x4 = some res → CT l yX12_isWon cX12_isWon 7 (some .boolean) (rmG_Mw d) D G 0 0 [.ref (G.2.1 200), .int x1, .int x2, .int x3, .int x4] (mW G Z Y σ0) (mW G Z Y res.2) (some (.int res.1))) (σ0 : hSt) (x1 : Int32) (x2 : Int32) (x3 : Int32) (x4 : Int32) (res : (Int32 × hSt)) (h : b_X12_isWon F Z u_X12_isWon σ0 x1 x2 x3 x4 = some res) : CT l yX12_isWon cX12_isWon 7 (some .boolean) (rmG_Mw (d + 1)) D G 0 0 [.ref (G.2.1 200), .int x1, .int x2, .int x3, .int x4] (mW G Z Y σ0) (mW G Z Y res.2) (some (.int res.1)) := by
  unfold b_X12_isWon at h
  refine CT.mk (cc := cX12_isWon) (maxL := 7) (ret := (some .boolean)) (own := RX12) (plainFor_of_name (by decide)) rfl (Nat.le_of_ble_eq_true rfl) ?_
  intro p e s m args below meth c A ls C0 hnm hA hP hD hl
  obtain ⟨hx, hb, hr, hml, hown, hts, hlocks, hK, hE⟩ := id C0
  have hS : va_S A s.heap s.heap [] := va_S.rf
  have hl : lv_has ls 7 [(0, .ref (G.2.1 200)), (1, .int x1), (2, .int x2), (3, .int x3), (4, .int x4)] := hl
  refine lv_iload_n hx hb dX12_isWon_0 rfl (lv_at hl 3 rfl) ?_
  refine lv_aload_n hx hb dX12_isWon_1 rfl (lv_at hl 0 rfl) ?_
  refine va_get (D := D) (ci := 12) (v := .ref (G.2.1 204)) (C := RX12) (T := TX12) (N := 59) hx hb hts inU_X12 hown hK hP _ (mg_200 G Z Y σ0) rfl 12 (by decide) (hts _ wd_1260) (fun _ h9 => h9) rfl dX12_isWon_2 ?_
  refine lv_iload_n hx hb dX12_isWon_5 rfl (lv_at hl 1 rfl) ?_
  obtain ⟨c1, h⟩ := f_n h
  refine va_ialdE (v := (σ0.1 204 ((x1 : Int32).toNatClampNeg))) hx hb hK hP _ 0 (mg_204 G Z Y σ0) rfl c1 dX12_isWon_6 rfl ?_
  refine lv_icmp_ne (tgt := 18) hx hb dX12_isWon_7 (by decide) (fun c2 => ?_) (fun c2 => ?_)
  · skip
    have h := f_f c2 h
    refine lv_aload_n hx hb dX12_isWon_18 rfl (lv_at hl 0 rfl) ?_
    refine lv_iload_n hx hb dX12_isWon_19 rfl (lv_at hl 1 rfl) ?_
    refine lv_iload_n hx hb dX12_isWon_20 rfl (lv_at hl 2 rfl) ?_
    refine lv_iload_n hx hb dX12_isWon_21 rfl (lv_at hl 3 rfl) ?_
    refine lv_iconst (v := 1) hx hb dX12_isWon_22 (by decide) ?_
    refine lv_iadd hx hb dX12_isWon_23 ?_
    refine lv_iload hx hb dX12_isWon_24 (lv_at hl 4 rfl) ?_
    obtain ⟨q3, hq3, h⟩ := f_b h
    refine cl_V (w := (mW G Z Y σ0)) (w' := (mW G Z Y q3.2)) (rv := some (.int q3.1)) (bytes := cX12_isWon) (maxL := 7) (ret := (some .boolean)) (C := RX12) (As := [.int x1, .int x2, .int (x3 + (1 : Int32)), .int x4]) (rest := []) (stk := [.int q3.1]) ⟨hx, hb, hml, hown, hts⟩ hK hE hA hP hD hS (hu_X12_isWon σ0 x1 x2 (x3 + (1 : Int32)) x4 q3 hq3) (cwV 4 hts (gwV wd_1794 wd_1796 wp_96 wd_11 wd_1797) rfl rfl rfl hd_X12_isWon ⟨by show 3 + d + 1 ≤ 3 + (d + 1); omega, by show 8 + (7 + 11) + (80 + d * 26) ≤ 80 + (d + 1) * 26; omega⟩) (mg_200 G Z Y σ0) rfl rfl rfl hl.1 rfl (Nat.le_of_ble_eq_true rfl) dX12_isWon_26 ⟨Nat.zero_le _, Nat.zero_le _⟩ rfl (fun H locs hP hD hS => ?_)
    refine lv_istore (lv' := [(5, .int q3.1), (0, .ref (G.2.1 200)), (1, .int x1), (2, .int x2), (3, .int x3), (4, .int x4)]) hx hb dX12_isWon_29 hl (by decide) rfl (fun ls hl => ?_)
    refine lv_aload_n hx hb dX12_isWon_31 rfl (lv_at hl 1 rfl) ?_
    refine lv_iload_n hx hb dX12_isWon_32 rfl (lv_at hl 2 rfl) ?_
    refine lv_iload_n hx hb dX12_isWon_33 rfl (lv_at hl 3 rfl) ?_
    refine lv_iload_n hx hb dX12_isWon_34 rfl (lv_at hl 4 rfl) ?_
    refine lv_iconst (v := 1) hx hb dX12_isWon_35 (by decide) ?_
    refine lv_iadd hx hb dX12_isWon_36 ?_
    refine lv_iload hx hb dX12_isWon_37 (lv_at hl 5 rfl) ?_
    refine lv_iconst (v := 1) hx hb dX12_isWon_39 (by decide) ?_
    refine lv_iload_n hx hb dX12_isWon_40 rfl (lv_at hl 4 rfl) ?_
    refine lv_ishl hx hb dX12_isWon_41 ?_
    refine lv_ior hx hb dX12_isWon_42 ?_
    obtain ⟨q4, hq4, h⟩ := f_b h
    refine cl_V (w := (mW G Z Y q3.2)) (w' := (mW G Z Y q4.2)) (rv := some (.int q4.1)) (bytes := cX12_isWon) (maxL := 7) (ret := (some .boolean)) (C := RX12) (As := [.int x1, .int x2, .int (x3 + (1 : Int32)), .int (x4 ||| ((1 : Int32) <<< (x3 &&& 31)))]) (rest := []) (stk := [.int q4.1]) ⟨hx, hb, hml, hown, hts⟩ hK hE hA hP hD hS (hu_X12_isWon q3.2 x1 x2 (x3 + (1 : Int32)) (x4 ||| ((1 : Int32) <<< (x3 &&& 31))) q4 hq4) (cwV 4 hts (gwV wd_1794 wd_1796 wp_96 wd_11 wd_1797) rfl rfl rfl hd_X12_isWon ⟨by show 3 + d + 1 ≤ 3 + (d + 1); omega, by show 8 + (7 + 11) + (80 + d * 26) ≤ 80 + (d + 1) * 26; omega⟩) (mg_200 G Z Y q3.2) rfl rfl rfl hl.1 rfl (Nat.le_of_ble_eq_true rfl) dX12_isWon_43 ⟨Nat.zero_le _, Nat.zero_le _⟩ rfl (fun H locs hP hD hS => ?_)
    refine lv_istore (lv' := [(6, .int q4.1), (5, .int q3.1), (0, .ref (G.2.1 200)), (1, .int x1), (2, .int x2), (3, .int x3), (4, .int x4)]) hx hb dX12_isWon_46 hl (by decide) rfl (fun ls hl => ?_)
    refine lv_iload_n hx hb dX12_isWon_48 rfl (lv_at hl 4 rfl) ?_
    refine lv_iload_n hx hb dX12_isWon_49 rfl (lv_at hl 5 rfl) ?_
    refine lv_ishr hx hb dX12_isWon_50 ?_
    refine lv_iconst (v := 1) hx hb dX12_isWon_51 (by decide) ?_
    refine lv_iand hx hb dX12_isWon_52 ?_
    refine lv_iconst (v := 1) hx hb dX12_isWon_53 (by decide) ?_
    refine lv_icmp_ne (tgt := 75) hx hb dX12_isWon_54 (by decide) (fun c5 => ?_) (fun c5 => ?_)
    · skip
      have h := f_f c5 h
      refine lv_iload hx hb dX12_isWon_75 (lv_at hl 1 rfl) ?_
      refine lv_if_ne (tgt := 85) hx hb dX12_isWon_77 (by decide) (fun c6 => ?_) (fun c6 => ?_)
      · skip
        have h := f_f c6 h
        refine lv_iconst (v := 1) hx hb dX12_isWon_85 (by decide) ?_
        refine lv_goto (tgt := 90) hx hb dX12_isWon_86 (by decide) ?_
        obtain rfl := Option.some.inj h
        exact W.zret (v := (1 : Int32)) hx hb hr rfl (q_end hK hP hD hS) hS.2.2 dX12_isWon_90
      · skip
        have h := f_t c6 h
        refine lv_iload hx hb dX12_isWon_80 (lv_at hl 0 rfl) ?_
        refine lv_if_eq (tgt := 89) hx hb dX12_isWon_82 (by decide) (fun c7 => ?_) (fun c7 => ?_)
        · skip
          have h := f_t c7 h
          refine lv_iconst (v := 0) hx hb dX12_isWon_89 (by decide) ?_
          obtain rfl := Option.some.inj h
          exact W.zret (v := (0 : Int32)) hx hb hr rfl (q_end hK hP hD hS) hS.2.2 dX12_isWon_90
        · skip
          have h := f_f c7 h
          refine lv_iconst (v := 1) hx hb dX12_isWon_85 (by decide) ?_
          refine lv_goto (tgt := 90) hx hb dX12_isWon_86 (by decide) ?_
          obtain rfl := Option.some.inj h
          exact W.zret (v := (1 : Int32)) hx hb hr rfl (q_end hK hP hD hS) hS.2.2 dX12_isWon_90
    · skip
      have h := f_t c5 h
      refine lv_iload hx hb dX12_isWon_57 (lv_at hl 1 rfl) ?_
      refine lv_if_eq (tgt := 71) hx hb dX12_isWon_59 (by decide) (fun c8 => ?_) (fun c8 => ?_)
      · skip
        have h := f_t c8 h
        refine lv_iconst (v := 0) hx hb dX12_isWon_71 (by decide) ?_
        refine lv_goto (tgt := 90) hx hb dX12_isWon_72 (by decide) ?_
        obtain rfl := Option.some.inj h
        exact W.zret (v := (0 : Int32)) hx hb hr rfl (q_end hK hP hD hS) hS.2.2 dX12_isWon_90
      · skip
        have h := f_f c8 h
        refine lv_iload hx hb dX12_isWon_62 (lv_at hl 0 rfl) ?_
        refine lv_if_eq (tgt := 71) hx hb dX12_isWon_64 (by decide) (fun c9 => ?_) (fun c9 => ?_)
        · skip
          have h := f_t c9 h
          refine lv_iconst (v := 0) hx hb dX12_isWon_71 (by decide) ?_
          refine lv_goto (tgt := 90) hx hb dX12_isWon_72 (by decide) ?_
          obtain rfl := Option.some.inj h
          exact W.zret (v := (0 : Int32)) hx hb hr rfl (q_end hK hP hD hS) hS.2.2 dX12_isWon_90
        · skip
          have h := f_f c9 h
          refine lv_iconst (v := 1) hx hb dX12_isWon_67 (by decide) ?_
          refine lv_goto (tgt := 90) hx hb dX12_isWon_68 (by decide) ?_
          obtain rfl := Option.some.inj h
          exact W.zret (v := (1 : Int32)) hx hb hr rfl (q_end hK hP hD hS) hS.2.2 dX12_isWon_90
  · skip
    have h := f_t c2 h
    refine lv_aload_n hx hb dX12_isWon_10 rfl (lv_at hl 0 rfl) ?_
    refine lv_iload_n hx hb dX12_isWon_11 rfl (lv_at hl 1 rfl) ?_
    refine lv_iload hx hb dX12_isWon_12 (lv_at hl 4 rfl) ?_
    obtain ⟨q10, hq10, h⟩ := f_b h
    refine cl_V (w := (mW G Z Y σ0)) (w' := (mW G Z Y q10.2)) (rv := some (.int q10.1)) (bytes := cX12_isTrue) (maxL := 4) (ret := (some .boolean)) (C := RX12) (As := [.int x1, .int x4]) (rest := []) (stk := [.int q10.1]) ⟨hx, hb, hml, hown, hts⟩ hK hE hA hP hD hS (c_X12_isTrue l D G Z Y σ0 F x1 x4 q10 hq10) (cwV 2 hts (gwV wd_1522 wd_1524 wp_61 wd_11 wd_1525) rfl rfl rfl hd_X12_isTrue ⟨by show 2 + 1 ≤ 3 + (d + 1); omega, by show 8 + (4 + 11) + 57 ≤ 80 + (d + 1) * 26; omega⟩) (mg_200 G Z Y σ0) rfl rfl rfl hl.1 rfl (Nat.le_of_ble_eq_true rfl) dX12_isWon_14 ⟨Nat.zero_le _, Nat.zero_le _⟩ rfl (fun H locs hP hD hS => ?_)
    obtain ⟨c11, h⟩ := f_c h
    obtain rfl := Option.some.inj h
    exact W.zret (v := q10.1) hx hb hr (bn c11) (q_end hK hP hD hS) hS.2.2 dX12_isWon_17
set_option maxRecDepth 100000 in
set_option maxHeartbeats 8000000 in
theorem c_G_Mw (l : Launch) (D : va_G) (G : hG) (Z : hZ) (Y : va_W) (F : Nat) : ∀ d : Nat, (∀ (σ0 : hSt) (x1 : Int32) (x2 : Int32) (x3 : Int32) (x4 : Int32) (res : (Int32 × hSt)), (G_Mw F Z d) σ0 x1 x2 x3 x4 = some res → CT l yX12_isWon cX12_isWon 7 (some .boolean) (rmG_Mw d) D G 0 0 [.ref (G.2.1 200), .int x1, .int x2, .int x3, .int x4] (mW G Z Y σ0) (mW G Z Y res.2) (some (.int res.1))) := by
  intro d
  induction d with
  | zero =>
    exact fun σ0 x1 x2 x3 x4 res h => by
        have h1 : (none : Option (Int32 × hSt)) = some res := h
        cases h1
  | succ d ih =>
    have i_X12_isWon := ih
    exact fun σ0 x1 x2 x3 x4 res h => o_X12_isWon l D G Z Y F d _ i_X12_isWon σ0 x1 x2 x3 x4 res h
abbrev rm_X12_isWon : Room := rmG_Mw 8
theorem c_X12_isWon (l : Launch) (D : va_G) (G : hG) (Z : hZ) (Y : va_W) (σ0 : hSt) (F : Nat) (x1 : Int32) (x2 : Int32) (x3 : Int32) (x4 : Int32) (res : (Int32 × hSt)) (h : f_X12_isWon F Z σ0 x1 x2 x3 x4 = some res) : CT l yX12_isWon cX12_isWon 7 (some .boolean) rm_X12_isWon D G 0 0 [.ref (G.2.1 200), .int x1, .int x2, .int x3, .int x4] (mW G Z Y σ0) (mW G Z Y res.2) (some (.int res.1)) := (c_G_Mw l D G Z Y F 8) σ0 x1 x2 x3 x4 res h
abbrev rm_X12_won : Room := { frames := 12, cells := 0, slots := 0, locals := 314 }
set_option maxRecDepth 100000 in
set_option maxHeartbeats 8000000 in
theorem c_X12_won (l : Launch) (D : va_G) (G : hG) (Z : hZ) (Y : va_W) (σ0 : hSt) (F : Nat) (x1 : Int32) (x2 : Int32) (res : (Int32 × hSt)) (h : f_X12_won F Z σ0 x1 x2 = some res) : CT l yX12_won cX12_won 3 (some .int) rm_X12_won D G 0 0 [.ref (G.2.1 200), .int x1, .int x2] (mW G Z Y σ0) (mW G Z Y res.2) (some (.int res.1)) := by
  unfold f_X12_won at h
  refine CT.mk (cc := cX12_won) (maxL := 3) (ret := (some .int)) (own := RX12) (plainFor_of_name (by decide)) rfl (Nat.le_of_ble_eq_true rfl) ?_
  intro p e s m args below meth c A ls C0 hnm hA hP hD hl
  obtain ⟨hx, hb, hr, hml, hown, hts, hlocks, hK, hE⟩ := id C0
  have hS : va_S A s.heap s.heap [] := va_S.rf
  have hl : lv_has ls 3 [(0, .ref (G.2.1 200)), (1, .int x1), (2, .int x2)] := hl
  refine lv_aload_n hx hb dX12_won_0 rfl (lv_at hl 0 rfl) ?_
  refine lv_iconst (v := 0) hx hb dX12_won_1 (by decide) ?_
  refine va_put (D := D) (ci := 12) (v := .int (0 : Int32)) (ty := .int) (C := RX12) (T := TX12) (N := 59) hx hb hts inU_X12 tyX12 tyX12_ok nmX12 hown hK hP hD hS _ (mg_200 G Z Y σ0) rfl 0 (by decide) (hts _ wd_1248) (fun _ h9 => h9) rfl (by decide +kernel) rfl rfl (Nat.le_of_ble_eq_true rfl) dX12_won_2 (fun H locs hP hD hS => ?_)
  have hP := wrP (mp_200_0 G Z Y σ0 (0 : Int32)) hP
  have hD := wrD (mp_200_0 G Z Y σ0 (0 : Int32)) hD
  refine lv_aload_n hx hb dX12_won_5 rfl (lv_at hl 0 rfl) ?_
  refine lv_iload_n hx hb dX12_won_6 rfl (lv_at hl 1 rfl) ?_
  obtain ⟨q1, hq1, h⟩ := f_b h
  refine cl_V (w := (mW G Z Y (sI σ0 200 0 (0 : Int32)))) (w' := (mW G Z Y (sI σ0 200 0 (0 : Int32)))) (rv := some (.int q1)) (bytes := cX12_isSaying) (maxL := 2) (ret := (some .boolean)) (C := RX12) (As := [.int x1]) (rest := []) (stk := [.int q1]) ⟨hx, hb, hml, hown, hts⟩ hK hE hA hP hD hS (c_X12_isSaying l D G Z Y (sI σ0 200 0 (0 : Int32)) x1 q1 hq1) (cwV 1 hts (gwV wd_1493 wd_1495 wp_57 wd_11 wd_1496) rfl rfl rfl hd_X12_isSaying ⟨Nat.le_of_ble_eq_true rfl, Nat.le_of_ble_eq_true rfl⟩) (mg_200 G Z Y (sI σ0 200 0 (0 : Int32))) rfl rfl rfl hl.1 rfl (Nat.le_of_ble_eq_true rfl) dX12_won_7 ⟨Nat.zero_le _, Nat.zero_le _⟩ rfl (fun H locs hP hD hS => ?_)
  refine lv_if_eq (tgt := 25) hx hb dX12_won_10 (by decide) (fun c2 => ?_) (fun c2 => ?_)
  · skip
    have h := f_t c2 h
    refine lv_iconst (v := (-1)) hx hb dX12_won_25 (by decide) ?_
    refine lv_goto (tgt := 45) hx hb dX12_won_26 (by decide) ?_
    obtain rfl := Option.some.inj h
    exact W.iret (v := (-1 : Int32)) hx hb hr (q_end hK hP hD hS) hS.2.2 dX12_won_45
  · skip
    have h := f_f c2 h
    refine lv_iload_n hx hb dX12_won_13 rfl (lv_at hl 2 rfl) ?_
    refine lv_i2l (v := (x2 : Int32).toInt64) hx hb dX12_won_14 rfl ?_
    refine lv_lconst (v := 0) hx hb dX12_won_15 (by decide) ?_
    refine lv_ldc2 (v := 63) hx hb hown (hts _ wd_1521) dX12_won_16 ?_
    obtain ⟨q3, hq3, h⟩ := f_b h
    refine cl_S (w := (mW G Z Y (sI σ0 200 0 (0 : Int32)))) (w' := (mW G Z Y (sI σ0 200 0 (0 : Int32)))) (rv := some (.int q3)) (bytes := cX12_isIn) (maxL := 6) (ret := (some .boolean)) (As := [.long (x2 : Int32).toInt64, .long (0 : Int64), .long (63 : Int64)]) (rest := []) (stk := [.int q3]) ⟨hx, hb, hml, hown, hts⟩ hK hE hA hP hD hS (c_X12_isIn l D G (mW G Z Y (sI σ0 200 0 (0 : Int32))) ((x2 : Int32).toInt64) (0 : Int64) (63 : Int64) q3 hq3) (mkS hts wd_1498 wd_1499 wd_11 wd_1500 rfl rfl hd_X12_isIn ⟨Nat.le_of_ble_eq_true rfl, Nat.le_of_ble_eq_true rfl⟩) rfl hl.1 rfl (Nat.le_of_ble_eq_true rfl) dX12_won_19 ⟨Nat.zero_le _, Nat.zero_le _⟩ rfl (fun H locs hP hD hS => ?_)
    refine lv_if_ne (tgt := 29) hx hb dX12_won_22 (by decide) (fun c4 => ?_) (fun c4 => ?_)
    · skip
      have h := f_f c4 h
      refine lv_aload_n hx hb dX12_won_29 rfl (lv_at hl 0 rfl) ?_
      refine lv_iload_n hx hb dX12_won_30 rfl (lv_at hl 1 rfl) ?_
      refine lv_iload_n hx hb dX12_won_31 rfl (lv_at hl 2 rfl) ?_
      refine lv_iconst (v := 0) hx hb dX12_won_32 (by decide) ?_
      refine lv_iconst (v := 0) hx hb dX12_won_33 (by decide) ?_
      obtain ⟨q5, hq5, h⟩ := f_b h
      refine cl_V (w := (mW G Z Y (sI σ0 200 0 (0 : Int32)))) (w' := (mW G Z Y q5.2)) (rv := some (.int q5.1)) (bytes := cX12_isWon) (maxL := 7) (ret := (some .boolean)) (C := RX12) (As := [.int x1, .int x2, .int (0 : Int32), .int (0 : Int32)]) (rest := []) (stk := [.int q5.1]) ⟨hx, hb, hml, hown, hts⟩ hK hE hA hP hD hS (c_X12_isWon l D G Z Y (sI σ0 200 0 (0 : Int32)) F x1 x2 (0 : Int32) (0 : Int32) q5 hq5) (cwV 4 hts (gwV wd_1794 wd_1796 wp_96 wd_11 wd_1797) rfl rfl rfl hd_X12_isWon ⟨Nat.le_of_ble_eq_true rfl, Nat.le_of_ble_eq_true rfl⟩) (mg_200 G Z Y (sI σ0 200 0 (0 : Int32))) rfl rfl rfl hl.1 rfl (Nat.le_of_ble_eq_true rfl) dX12_won_34 ⟨Nat.zero_le _, Nat.zero_le _⟩ rfl (fun H locs hP hD hS => ?_)
      refine lv_if_eq (tgt := 44) hx hb dX12_won_37 (by decide) (fun c6 => ?_) (fun c6 => ?_)
      · skip
        have h := f_t c6 h
        refine lv_iconst (v := 0) hx hb dX12_won_44 (by decide) ?_
        obtain rfl := Option.some.inj h
        exact W.iret (v := (0 : Int32)) hx hb hr (q_end hK hP hD hS) hS.2.2 dX12_won_45
      · skip
        have h := f_f c6 h
        refine lv_iconst (v := 1) hx hb dX12_won_40 (by decide) ?_
        refine lv_goto (tgt := 45) hx hb dX12_won_41 (by decide) ?_
        obtain rfl := Option.some.inj h
        exact W.iret (v := (1 : Int32)) hx hb hr (q_end hK hP hD hS) hS.2.2 dX12_won_45
    · skip
      have h := f_t c4 h
      refine lv_iconst (v := (-1)) hx hb dX12_won_25 (by decide) ?_
      refine lv_goto (tgt := 45) hx hb dX12_won_26 (by decide) ?_
      obtain rfl := Option.some.inj h
      exact W.iret (v := (-1 : Int32)) hx hb hr (q_end hK hP hD hS) hS.2.2 dX12_won_45
def rmG_Mf (d : Nat) : Room := { frames := 2 + d, cells := 0, slots := 0, locals := 57 + d * 31 }
set_option maxRecDepth 100000 in
set_option maxHeartbeats 8000000 in
theorem o_X12_folded (l : Launch) (D : va_G) (G : hG) (Z : hZ) (Y : va_W) (F : Nat) (d : Nat) (u_X12_folded : (hSt → Int32 → Int32 → Int32 → Int64 → Option (Int64 × hSt))) (hu_X12_folded : ∀ (σ0 : hSt) (x1 : Int32) (x2 : Int32) (x3 : Int32) (x4 : Int64) (res : (Int64 × hSt)), u_X12_folded σ0 x1 x2 x3 x4 = some res → CT l yX12_folded cX12_folded 12 (some .long) (rmG_Mf d) D G 0 0 [.ref (G.2.1 200), .int x1, .int x2, .int x3, .long x4] (mW G Z Y σ0) (mW G Z Y res.2) (some (.long res.1))) (σ0 : hSt) (x1 : Int32) (x2 : Int32) (x3 : Int32) (x4 : Int64) (res : (Int64 × hSt)) (h : b_X12_folded F Z u_X12_folded σ0 x1 x2 x3 x4 = some res) : CT l yX12_folded cX12_folded 12 (some .long) (rmG_Mf (d + 1)) D G 0 0 [.ref (G.2.1 200), .int x1, .int x2, .int x3, .long x4] (mW G Z Y σ0) (mW G Z Y res.2) (some (.long res.1)) := by
  unfold b_X12_folded at h
  refine CT.mk (cc := cX12_folded) (maxL := 12) (ret := (some .long)) (own := RX12) (plainFor_of_name (by decide)) rfl (Nat.le_of_ble_eq_true rfl) ?_
  intro p e s m args below meth c A ls C0 hnm hA hP hD hl
  obtain ⟨hx, hb, hr, hml, hown, hts, hlocks, hK, hE⟩ := id C0
  have hS : va_S A s.heap s.heap [] := va_S.rf
  have hl : lv_has ls 12 [(0, .ref (G.2.1 200)), (1, .int x1), (2, .int x2), (3, .int x3), (4, .long x4)] := hl
  refine lv_iload_n hx hb dX12_folded_0 rfl (lv_at hl 3 rfl) ?_
  refine lv_aload_n hx hb dX12_folded_1 rfl (lv_at hl 0 rfl) ?_
  refine va_get (D := D) (ci := 12) (v := .ref (G.2.1 204)) (C := RX12) (T := TX12) (N := 59) hx hb hts inU_X12 hown hK hP _ (mg_200 G Z Y σ0) rfl 12 (by decide) (hts _ wd_1260) (fun _ h9 => h9) rfl dX12_folded_2 ?_
  refine lv_iload_n hx hb dX12_folded_5 rfl (lv_at hl 1 rfl) ?_
  obtain ⟨c1, h⟩ := f_n h
  refine va_ialdE (v := (σ0.1 204 ((x1 : Int32).toNatClampNeg))) hx hb hK hP _ 0 (mg_204 G Z Y σ0) rfl c1 dX12_folded_6 rfl ?_
  refine lv_icmp_lt (tgt := 18) hx hb dX12_folded_7 (by decide) (fun c2 => ?_) (fun c2 => ?_)
  · skip
    have h := f_t c2 h
    refine lv_aload_n hx hb dX12_folded_18 rfl (lv_at hl 0 rfl) ?_
    refine va_get (D := D) (ci := 12) (v := .ref (G.2.1 208)) (C := RX12) (T := TX12) (N := 59) hx hb hts inU_X12 hown hK hP _ (mg_200 G Z Y σ0) rfl 18 (by decide) (hts _ wd_1266) (fun _ h9 => h9) rfl dX12_folded_19 ?_
    refine lv_iload_n hx hb dX12_folded_22 rfl (lv_at hl 3 rfl) ?_
    refine lv_lconst (v := 0) hx hb dX12_folded_23 (by decide) ?_
    obtain ⟨c3, h⟩ := f_n h
    refine va_last hx hb hK hP hD hS _ 1 (mg_208 G Z Y σ0) rfl c3 dX12_folded_24 (fun H locs hP hD hS => ?_)
    have hP := wrP (mp_208 G Z Y σ0 _ _) hP
    have hD := wrD (mp_208 G Z Y σ0 _ _) hD
    refine lv_aload_n hx hb dX12_folded_25 rfl (lv_at hl 0 rfl) ?_
    refine lv_iload_n hx hb dX12_folded_26 rfl (lv_at hl 1 rfl) ?_
    refine lv_iload_n hx hb dX12_folded_27 rfl (lv_at hl 2 rfl) ?_
    refine lv_iload_n hx hb dX12_folded_28 rfl (lv_at hl 3 rfl) ?_
    refine lv_iconst (v := 1) hx hb dX12_folded_29 (by decide) ?_
    refine lv_iadd hx hb dX12_folded_30 ?_
    refine lv_lload hx hb dX12_folded_31 (lv_at hl 4 rfl) ?_
    obtain ⟨q4, hq4, h⟩ := f_b h
    refine cl_V (w := (mW G Z Y (sJ σ0 208 ((x3 : Int32).toNatClampNeg) (0 : Int64)))) (w' := (mW G Z Y q4.2)) (rv := some (.long q4.1)) (bytes := cX12_folded) (maxL := 12) (ret := (some .long)) (C := RX12) (As := [.int x1, .int x2, .int (x3 + (1 : Int32)), .long x4]) (rest := []) (stk := [.long q4.1]) ⟨hx, hb, hml, hown, hts⟩ hK hE hA hP hD hS (hu_X12_folded (sJ σ0 208 ((x3 : Int32).toNatClampNeg) (0 : Int64)) x1 x2 (x3 + (1 : Int32)) x4 q4 hq4) (cwV 4 hts (gwV wd_1802 wd_1804 wp_97 wd_11 wd_1805) rfl rfl rfl hd_X12_folded ⟨by show 2 + d + 1 ≤ 2 + (d + 1); omega, by show 8 + (12 + 11) + (57 + d * 31) ≤ 57 + (d + 1) * 31; omega⟩) (mg_200 G Z Y (sJ σ0 208 ((x3 : Int32).toNatClampNeg) (0 : Int64))) rfl rfl rfl hl.1 rfl (Nat.le_of_ble_eq_true rfl) dX12_folded_33 ⟨Nat.zero_le _, Nat.zero_le _⟩ rfl (fun H locs hP hD hS => ?_)
    refine lv_lstore (lv' := [(6, .long q4.1), (0, .ref (G.2.1 200)), (1, .int x1), (2, .int x2), (3, .int x3), (4, .long x4)]) hx hb dX12_folded_36 hl (by decide) rfl (fun ls hl => ?_)
    refine lv_aload_n hx hb dX12_folded_38 rfl (lv_at hl 1 rfl) ?_
    refine va_get (D := D) (ci := 12) (v := .ref (G.2.1 208)) (C := RX12) (T := TX12) (N := 59) hx hb hts inU_X12 hown hK hP _ (mg_200 G Z Y q4.2) rfl 18 (by decide) (hts _ wd_1266) (fun _ h9 => h9) rfl dX12_folded_39 ?_
    refine lv_iload_n hx hb dX12_folded_42 rfl (lv_at hl 4 rfl) ?_
    refine lv_lconst (v := 1) hx hb dX12_folded_43 (by decide) ?_
    obtain ⟨c5, h⟩ := f_n h
    refine va_last hx hb hK hP hD hS _ 1 (mg_208 G Z Y q4.2) rfl c5 dX12_folded_44 (fun H locs hP hD hS => ?_)
    have hP := wrP (mp_208 G Z Y q4.2 _ _) hP
    have hD := wrD (mp_208 G Z Y q4.2 _ _) hD
    refine lv_aload_n hx hb dX12_folded_45 rfl (lv_at hl 1 rfl) ?_
    refine lv_iload_n hx hb dX12_folded_46 rfl (lv_at hl 2 rfl) ?_
    refine lv_iload_n hx hb dX12_folded_47 rfl (lv_at hl 3 rfl) ?_
    refine lv_iload_n hx hb dX12_folded_48 rfl (lv_at hl 4 rfl) ?_
    refine lv_iconst (v := 1) hx hb dX12_folded_49 (by decide) ?_
    refine lv_iadd hx hb dX12_folded_50 ?_
    refine lv_lload hx hb dX12_folded_51 (lv_at hl 5 rfl) ?_
    obtain ⟨q6, hq6, h⟩ := f_b h
    refine cl_V (w := (mW G Z Y (sJ q4.2 208 ((x3 : Int32).toNatClampNeg) (1 : Int64)))) (w' := (mW G Z Y q6.2)) (rv := some (.long q6.1)) (bytes := cX12_folded) (maxL := 12) (ret := (some .long)) (C := RX12) (As := [.int x1, .int x2, .int (x3 + (1 : Int32)), .long x4]) (rest := []) (stk := [.long q6.1]) ⟨hx, hb, hml, hown, hts⟩ hK hE hA hP hD hS (hu_X12_folded (sJ q4.2 208 ((x3 : Int32).toNatClampNeg) (1 : Int64)) x1 x2 (x3 + (1 : Int32)) x4 q6 hq6) (cwV 4 hts (gwV wd_1802 wd_1804 wp_97 wd_11 wd_1805) rfl rfl rfl hd_X12_folded ⟨by show 2 + d + 1 ≤ 2 + (d + 1); omega, by show 8 + (12 + 11) + (57 + d * 31) ≤ 57 + (d + 1) * 31; omega⟩) (mg_200 G Z Y (sJ q4.2 208 ((x3 : Int32).toNatClampNeg) (1 : Int64))) rfl rfl rfl hl.1 rfl (Nat.le_of_ble_eq_true rfl) dX12_folded_53 ⟨Nat.zero_le _, Nat.zero_le _⟩ rfl (fun H locs hP hD hS => ?_)
    refine lv_lstore (lv' := [(8, .long q6.1), (6, .long q4.1), (0, .ref (G.2.1 200)), (1, .int x1), (2, .int x2), (3, .int x3), (4, .long x4)]) hx hb dX12_folded_56 hl (by decide) rfl (fun ls hl => ?_)
    refine lv_lload hx hb dX12_folded_58 (lv_at hl 1 rfl) ?_
    refine lv_lload hx hb dX12_folded_60 (lv_at hl 0 rfl) ?_
    refine lv_lmul hx hb dX12_folded_62 ?_
    refine lv_lload hx hb dX12_folded_63 (lv_at hl 6 rfl) ?_
    obtain ⟨c7, h⟩ := f_n h
    refine lv_lrem hx hb dX12_folded_65 c7 ?_
    refine lv_lstore (lv' := [(10, .long ((q4.1 * q6.1) - (q4.1 * q6.1) / x4 * x4)), (8, .long q6.1), (6, .long q4.1), (0, .ref (G.2.1 200)), (1, .int x1), (2, .int x2), (3, .int x3), (4, .long x4)]) hx hb dX12_folded_66 hl (by decide) rfl (fun ls hl => ?_)
    refine lv_iload_n hx hb dX12_folded_68 rfl (lv_at hl 5 rfl) ?_
    refine lv_iload_n hx hb dX12_folded_69 rfl (lv_at hl 6 rfl) ?_
    refine lv_ishr hx hb dX12_folded_70 ?_
    refine lv_iconst (v := 1) hx hb dX12_folded_71 (by decide) ?_
    refine lv_iand hx hb dX12_folded_72 ?_
    refine lv_iconst (v := 1) hx hb dX12_folded_73 (by decide) ?_
    refine lv_icmp_ne (tgt := 82) hx hb dX12_folded_74 (by decide) (fun c8 => ?_) (fun c8 => ?_)
    · skip
      have h := f_f c8 h
      refine lv_lload hx hb dX12_folded_82 (lv_at hl 2 rfl) ?_
      refine lv_lload hx hb dX12_folded_84 (lv_at hl 1 rfl) ?_
      refine lv_ladd hx hb dX12_folded_86 ?_
      refine lv_lload hx hb dX12_folded_87 (lv_at hl 0 rfl) ?_
      refine lv_lsub hx hb dX12_folded_89 ?_
      refine lv_lload hx hb dX12_folded_90 (lv_at hl 7 rfl) ?_
      obtain ⟨q9, hq9, h⟩ := f_b h
      refine cl_S (w := (mW G Z Y q6.2)) (w' := (mW G Z Y q6.2)) (rv := some (.long q9)) (bytes := cX12_rest) (maxL := 6) (ret := (some .long)) (As := [.long ((q4.1 + q6.1) - ((q4.1 * q6.1) - (q4.1 * q6.1) / x4 * x4)), .long x4]) (rest := []) (stk := [.long q9]) ⟨hx, hb, hml, hown, hts⟩ hK hE hA hP hD hS (c_X12_rest l D G (mW G Z Y q6.2) ((q4.1 + q6.1) - ((q4.1 * q6.1) - (q4.1 * q6.1) / x4 * x4)) x4 q9 hq9) (mkS hts wd_1514 wd_1515 wd_11 wd_1516 rfl rfl hd_X12_rest ⟨by show 0 + 1 ≤ 2 + (d + 1); omega, by show 8 + (6 + 11) + 0 ≤ 57 + (d + 1) * 31; omega⟩) rfl hl.1 rfl (Nat.le_of_ble_eq_true rfl) dX12_folded_92 ⟨Nat.zero_le _, Nat.zero_le _⟩ rfl (fun H locs hP hD hS => ?_)
      obtain rfl := Option.some.inj h
      exact W.lret (v := q9) hx hb hr (q_end hK hP hD hS) hS.2.2 dX12_folded_95
    · skip
      have h := f_t c8 h
      refine lv_lload hx hb dX12_folded_77 (lv_at hl 0 rfl) ?_
      refine lv_goto (tgt := 95) hx hb dX12_folded_79 (by decide) ?_
      obtain rfl := Option.some.inj h
      exact W.lret (v := ((q4.1 * q6.1) - (q4.1 * q6.1) / x4 * x4)) hx hb hr (q_end hK hP hD hS) hS.2.2 dX12_folded_95
  · skip
    have h := f_f c2 h
    refine lv_aload_n hx hb dX12_folded_10 rfl (lv_at hl 0 rfl) ?_
    refine lv_iload_n hx hb dX12_folded_11 rfl (lv_at hl 1 rfl) ?_
    refine lv_lload hx hb dX12_folded_12 (lv_at hl 4 rfl) ?_
    obtain ⟨q10, hq10, h⟩ := f_b h
    refine cl_V (w := (mW G Z Y σ0)) (w' := (mW G Z Y q10.2)) (rv := some (.long q10.1)) (bytes := cX12_worthAt) (maxL := 13) (ret := (some .long)) (C := RX12) (As := [.int x1, .long x4]) (rest := []) (stk := [.long q10.1]) ⟨hx, hb, hml, hown, hts⟩ hK hE hA hP hD hS (c_X12_worthAt l D G Z Y σ0 F x1 x4 q10 hq10) (cwV 2 hts (gwV wd_1510 wd_1512 wp_60 wd_11 wd_1513) rfl rfl rfl hd_X12_worthAt ⟨by show 1 + 1 ≤ 2 + (d + 1); omega, by show 8 + (13 + 11) + 25 ≤ 57 + (d + 1) * 31; omega⟩) (mg_200 G Z Y σ0) rfl rfl rfl hl.1 rfl (Nat.le_of_ble_eq_true rfl) dX12_folded_14 ⟨Nat.zero_le _, Nat.zero_le _⟩ rfl (fun H locs hP hD hS => ?_)
    obtain rfl := Option.some.inj h
    exact W.lret (v := q10.1) hx hb hr (q_end hK hP hD hS) hS.2.2 dX12_folded_17
set_option maxRecDepth 100000 in
set_option maxHeartbeats 8000000 in
theorem c_G_Mf (l : Launch) (D : va_G) (G : hG) (Z : hZ) (Y : va_W) (F : Nat) : ∀ d : Nat, (∀ (σ0 : hSt) (x1 : Int32) (x2 : Int32) (x3 : Int32) (x4 : Int64) (res : (Int64 × hSt)), (G_Mf F Z d) σ0 x1 x2 x3 x4 = some res → CT l yX12_folded cX12_folded 12 (some .long) (rmG_Mf d) D G 0 0 [.ref (G.2.1 200), .int x1, .int x2, .int x3, .long x4] (mW G Z Y σ0) (mW G Z Y res.2) (some (.long res.1))) := by
  intro d
  induction d with
  | zero =>
    exact fun σ0 x1 x2 x3 x4 res h => by
        have h1 : (none : Option (Int64 × hSt)) = some res := h
        cases h1
  | succ d ih =>
    have i_X12_folded := ih
    exact fun σ0 x1 x2 x3 x4 res h => o_X12_folded l D G Z Y F d _ i_X12_folded σ0 x1 x2 x3 x4 res h
abbrev rm_X12_folded : Room := rmG_Mf 8
theorem c_X12_folded (l : Launch) (D : va_G) (G : hG) (Z : hZ) (Y : va_W) (σ0 : hSt) (F : Nat) (x1 : Int32) (x2 : Int32) (x3 : Int32) (x4 : Int64) (res : (Int64 × hSt)) (h : f_X12_folded F Z σ0 x1 x2 x3 x4 = some res) : CT l yX12_folded cX12_folded 12 (some .long) rm_X12_folded D G 0 0 [.ref (G.2.1 200), .int x1, .int x2, .int x3, .long x4] (mW G Z Y σ0) (mW G Z Y res.2) (some (.long res.1)) := (c_G_Mf l D G Z Y F 8) σ0 x1 x2 x3 x4 res h
abbrev rm_X12_game : Room := { frames := 11, cells := 0, slots := 0, locals := 336 }
set_option maxRecDepth 100000 in
set_option maxHeartbeats 8000000 in
theorem c_X12_game (l : Launch) (D : va_G) (G : hG) (Z : hZ) (Y : va_W) (σ0 : hSt) (F : Nat) (x1 : Int32) (x2 : Int32) (x3 : Int32) (res : (Int32 × hSt)) (h : f_X12_game F Z σ0 x1 x2 x3 = some res) : CT l yX12_game cX12_game 4 (some .int) rm_X12_game D G 0 0 [.ref (G.2.1 200), .int x1, .int x2, .int x3] (mW G Z Y σ0) (mW G Z Y res.2) (some (.int res.1)) := by
  unfold f_X12_game at h
  refine CT.mk (cc := cX12_game) (maxL := 4) (ret := (some .int)) (own := RX12) (plainFor_of_name (by decide)) rfl (Nat.le_of_ble_eq_true rfl) ?_
  intro p e s m args below meth c A ls C0 hnm hA hP hD hl
  obtain ⟨hx, hb, hr, hml, hown, hts, hlocks, hK, hE⟩ := id C0
  have hS : va_S A s.heap s.heap [] := va_S.rf
  have hl : lv_has ls 4 [(0, .ref (G.2.1 200)), (1, .int x1), (2, .int x2), (3, .int x3)] := hl
  refine lv_aload_n hx hb dX12_game_0 rfl (lv_at hl 0 rfl) ?_
  refine lv_iconst (v := 0) hx hb dX12_game_1 (by decide) ?_
  refine va_put (D := D) (ci := 12) (v := .int (0 : Int32)) (ty := .int) (C := RX12) (T := TX12) (N := 59) hx hb hts inU_X12 tyX12 tyX12_ok nmX12 hown hK hP hD hS _ (mg_200 G Z Y σ0) rfl 0 (by decide) (hts _ wd_1248) (fun _ h9 => h9) rfl (by decide +kernel) rfl rfl (Nat.le_of_ble_eq_true rfl) dX12_game_2 (fun H locs hP hD hS => ?_)
  have hP := wrP (mp_200_0 G Z Y σ0 (0 : Int32)) hP
  have hD := wrD (mp_200_0 G Z Y σ0 (0 : Int32)) hD
  refine lv_aload_n hx hb dX12_game_5 rfl (lv_at hl 0 rfl) ?_
  refine lv_iload_n hx hb dX12_game_6 rfl (lv_at hl 1 rfl) ?_
  obtain ⟨q1, hq1, h⟩ := f_b h
  refine cl_V (w := (mW G Z Y (sI σ0 200 0 (0 : Int32)))) (w' := (mW G Z Y (sI σ0 200 0 (0 : Int32)))) (rv := some (.int q1)) (bytes := cX12_isSaying) (maxL := 2) (ret := (some .boolean)) (C := RX12) (As := [.int x1]) (rest := []) (stk := [.int q1]) ⟨hx, hb, hml, hown, hts⟩ hK hE hA hP hD hS (c_X12_isSaying l D G Z Y (sI σ0 200 0 (0 : Int32)) x1 q1 hq1) (cwV 1 hts (gwV wd_1493 wd_1495 wp_57 wd_11 wd_1496) rfl rfl rfl hd_X12_isSaying ⟨Nat.le_of_ble_eq_true rfl, Nat.le_of_ble_eq_true rfl⟩) (mg_200 G Z Y (sI σ0 200 0 (0 : Int32))) rfl rfl rfl hl.1 rfl (Nat.le_of_ble_eq_true rfl) dX12_game_7 ⟨Nat.zero_le _, Nat.zero_le _⟩ rfl (fun H locs hP hD hS => ?_)
  refine lv_if_eq (tgt := 32) hx hb dX12_game_10 (by decide) (fun c2 => ?_) (fun c2 => ?_)
  · skip
    have h := f_t c2 h
    refine lv_iconst (v := (-1)) hx hb dX12_game_32 (by decide) ?_
    obtain rfl := Option.some.inj h
    exact W.iret (v := (-1 : Int32)) hx hb hr (q_end hK hP hD hS) hS.2.2 dX12_game_33
  · skip
    have h := f_f c2 h
    refine lv_iload_n hx hb dX12_game_13 rfl (lv_at hl 2 rfl) ?_
    refine lv_i2l (v := (x2 : Int32).toInt64) hx hb dX12_game_14 rfl ?_
    refine lv_lconst (v := 0) hx hb dX12_game_15 (by decide) ?_
    refine lv_ldc2 (v := 63) hx hb hown (hts _ wd_1521) dX12_game_16 ?_
    obtain ⟨q3, hq3, h⟩ := f_b h
    refine cl_S (w := (mW G Z Y (sI σ0 200 0 (0 : Int32)))) (w' := (mW G Z Y (sI σ0 200 0 (0 : Int32)))) (rv := some (.int q3)) (bytes := cX12_isIn) (maxL := 6) (ret := (some .boolean)) (As := [.long (x2 : Int32).toInt64, .long (0 : Int64), .long (63 : Int64)]) (rest := []) (stk := [.int q3]) ⟨hx, hb, hml, hown, hts⟩ hK hE hA hP hD hS (c_X12_isIn l D G (mW G Z Y (sI σ0 200 0 (0 : Int32))) ((x2 : Int32).toInt64) (0 : Int64) (63 : Int64) q3 hq3) (mkS hts wd_1498 wd_1499 wd_11 wd_1500 rfl rfl hd_X12_isIn ⟨Nat.le_of_ble_eq_true rfl, Nat.le_of_ble_eq_true rfl⟩) rfl hl.1 rfl (Nat.le_of_ble_eq_true rfl) dX12_game_19 ⟨Nat.zero_le _, Nat.zero_le _⟩ rfl (fun H locs hP hD hS => ?_)
    refine lv_if_eq (tgt := 32) hx hb dX12_game_22 (by decide) (fun c4 => ?_) (fun c4 => ?_)
    · skip
      have h := f_t c4 h
      refine lv_iconst (v := (-1)) hx hb dX12_game_32 (by decide) ?_
      obtain rfl := Option.some.inj h
      exact W.iret (v := (-1 : Int32)) hx hb hr (q_end hK hP hD hS) hS.2.2 dX12_game_33
    · skip
      have h := f_f c4 h
      refine lv_iload_n hx hb dX12_game_25 rfl (lv_at hl 3 rfl) ?_
      obtain ⟨q5, hq5, h⟩ := f_b h
      refine cl_S (w := (mW G Z Y (sI σ0 200 0 (0 : Int32)))) (w' := (mW G Z Y (sI σ0 200 0 (0 : Int32)))) (rv := some (.int q5)) (bytes := cX12_isRing) (maxL := 1) (ret := (some .boolean)) (As := [.int x3]) (rest := []) (stk := [.int q5]) ⟨hx, hb, hml, hown, hts⟩ hK hE hA hP hD hS (c_X12_isRing l D G (mW G Z Y (sI σ0 200 0 (0 : Int32))) F x3 q5 hq5) (mkS hts wd_1546 wd_1547 wd_11 wd_1548 rfl rfl hd_X12_isRing ⟨Nat.le_of_ble_eq_true rfl, Nat.le_of_ble_eq_true rfl⟩) rfl hl.1 rfl (Nat.le_of_ble_eq_true rfl) dX12_game_26 ⟨Nat.zero_le _, Nat.zero_le _⟩ rfl (fun H locs hP hD hS => ?_)
      refine lv_if_ne (tgt := 34) hx hb dX12_game_29 (by decide) (fun c6 => ?_) (fun c6 => ?_)
      · skip
        have h := f_f c6 h
        refine lv_aload_n hx hb dX12_game_34 rfl (lv_at hl 0 rfl) ?_
        refine lv_iload_n hx hb dX12_game_35 rfl (lv_at hl 3 rfl) ?_
        obtain ⟨q7, hq7, h⟩ := f_b h
        refine cl_V (w := (mW G Z Y (sI σ0 200 0 (0 : Int32)))) (w' := (mW G Z Y q7.2)) (rv := none) (bytes := cX12_layPoint) (maxL := 3) (ret := none) (C := RX12) (As := [.int x3]) (rest := []) (stk := []) ⟨hx, hb, hml, hown, hts⟩ hK hE hA hP hD hS (c_X12_layPoint l D G Z Y (sI σ0 200 0 (0 : Int32)) F x3 q7 hq7) (cwV 1 hts (gwV wd_1550 wd_1552 wp_62 wd_11 wd_1553) rfl rfl rfl hd_X12_layPoint ⟨Nat.le_of_ble_eq_true rfl, Nat.le_of_ble_eq_true rfl⟩) (mg_200 G Z Y (sI σ0 200 0 (0 : Int32))) rfl rfl rfl hl.1 rfl (Nat.le_of_ble_eq_true rfl) dX12_game_36 ⟨Nat.zero_le _, Nat.zero_le _⟩ rfl (fun H locs hP hD hS => ?_)
        refine lv_aload_n hx hb dX12_game_39 rfl (lv_at hl 0 rfl) ?_
        refine lv_iload_n hx hb dX12_game_40 rfl (lv_at hl 1 rfl) ?_
        refine lv_iload_n hx hb dX12_game_41 rfl (lv_at hl 2 rfl) ?_
        refine lv_aload_n hx hb dX12_game_42 rfl (lv_at hl 0 rfl) ?_
        refine va_get (D := D) (ci := 12) (v := .int (q7.2.1 200 20)) (C := RX12) (T := TX12) (N := 59) hx hb hts inU_X12 hown hK hP _ (mg_200 G Z Y q7.2) rfl 20 (by decide) (hts _ wd_1268) (fun _ h9 => h9) rfl dX12_game_43 ?_
        refine lv_iload_n hx hb dX12_game_46 rfl (lv_at hl 3 rfl) ?_
        refine lv_i2l (v := (x3 : Int32).toInt64) hx hb dX12_game_47 rfl ?_
        obtain ⟨q8, hq8, h⟩ := f_b h
        refine cl_V (w := (mW G Z Y q7.2)) (w' := (mW G Z Y q8.2)) (rv := some (.long q8.1)) (bytes := cX12_folded) (maxL := 12) (ret := (some .long)) (C := RX12) (As := [.int x1, .int x2, .int (q7.2.1 200 20), .long (x3 : Int32).toInt64]) (rest := []) (stk := [.long q8.1]) ⟨hx, hb, hml, hown, hts⟩ hK hE hA hP hD hS (c_X12_folded l D G Z Y q7.2 F x1 x2 (q7.2.1 200 20) ((x3 : Int32).toInt64) q8 hq8) (cwV 4 hts (gwV wd_1802 wd_1804 wp_97 wd_11 wd_1805) rfl rfl rfl hd_X12_folded ⟨Nat.le_of_ble_eq_true rfl, Nat.le_of_ble_eq_true rfl⟩) (mg_200 G Z Y q7.2) rfl rfl rfl hl.1 rfl (Nat.le_of_ble_eq_true rfl) dX12_game_48 ⟨Nat.zero_le _, Nat.zero_le _⟩ rfl (fun H locs hP hD hS => ?_)
        refine lv_l2i (v := (q8.1 : Int64).toInt32) hx hb dX12_game_51 rfl ?_
        obtain rfl := Option.some.inj h
        exact W.iret (v := (q8.1 : Int64).toInt32) hx hb hr (q_end hK hP hD hS) hS.2.2 dX12_game_52
      · skip
        have h := f_t c6 h
        refine lv_iconst (v := (-1)) hx hb dX12_game_32 (by decide) ?_
        obtain rfl := Option.some.inj h
        exact W.iret (v := (-1 : Int32)) hx hb hr (q_end hK hP hD hS) hS.2.2 dX12_game_33
abbrev rm_X12_steep : Room := { frames := 1, cells := 0, slots := 0, locals := 30 }
set_option maxRecDepth 100000 in
set_option maxHeartbeats 8000000 in
theorem W_X12_steep_L71 {p : Program} {e : Env} {s : State} {m : MethodId} {args : Array Value} {below : List Frame} {meth : Method} {c : Code} {A : Nat → Prop} (l : Launch) (D : va_G) (G : hG) (Z : hZ) (Y : va_W) (σ0 : hSt) (F : Nat) (x1 : Int32) (x2 : Int32) (x3 : Int32) (x4 : Int32) (σ1 : hSt) (y1 : Int32) (y4 : Int32) (res : (Int32 × hSt)) (C0 : Cx p s m args meth c cX12_steep (some .int) RX12 7 D G A) (hA : ∀ q : Nat, s.heap.size ≤ q → A q) : ∀ (n : Nat) (z5 : Int32) (z6 : Int32), f_X12_steep_L71 σ1 y1 y4 n z5 z6 = some res → ∀ (H : Heap) (locs : List Loc) (ls : Array Slot), va_P D vwCl (mW G Z Y σ1) H → va_D A (mW G Z Y σ1) → va_S A s.heap H locs → lv_has ls 7 [(0, .ref (G.2.1 200)), (1, .int y1), (4, .int y4), (5, .int z5), (6, .int z6)] → W p l e rm_X12_steep s m args below meth c H locs 0 0 (MQ below (Qg (some (.int res.1)) D (tysG G) (mW G Z Y res.2) A) args s 0 0 A) (F0 m 71 ls []) := by
  obtain ⟨hx, hb, hr, hml, hown, hts, hlocks, hK, hE⟩ := id C0
  intro n
  induction n with
  | zero =>
    intro z5 z6 h
    cases h
  | succ n ih =>
    intro z5 z6 h H locs ls hP hD hS hl
    rw [f_X12_steep_L71] at h
    refine lv_iload hx hb dX12_steep_71 (lv_at hl 4 rfl) ?_
    refine lv_aload_n hx hb dX12_steep_73 rfl (lv_at hl 0 rfl) ?_
    refine va_get (D := D) (ci := 12) (v := .ref (G.2.1 204)) (C := RX12) (T := TX12) (N := 59) hx hb hts inU_X12 hown hK hP _ (mg_200 G Z Y σ1) rfl 12 (by decide) (hts _ wd_1260) (fun _ h9 => h9) rfl dX12_steep_74 ?_
    refine lv_iload_n hx hb dX12_steep_77 rfl (lv_at hl 1 rfl) ?_
    obtain ⟨c10, h⟩ := f_n h
    refine va_ialdE (v := (σ1.1 204 ((y1 : Int32).toNatClampNeg))) hx hb hK hP _ 0 (mg_204 G Z Y σ1) rfl c10 dX12_steep_78 rfl ?_
    refine lv_icmp_ge (tgt := 112) hx hb dX12_steep_79 (by decide) (fun c11 => ?_) (fun c11 => ?_)
    · skip
      have h := f_t c11 h
      refine lv_iload hx hb dX12_steep_112 (lv_at hl 3 rfl) ?_
      obtain rfl := Option.some.inj h
      exact W.iret (v := z5) hx hb hr (q_end hK hP hD hS) hS.2.2 dX12_steep_114
    · skip
      have h := f_f c11 h
      refine lv_iload hx hb dX12_steep_82 (lv_at hl 2 rfl) ?_
      refine lv_if_ne (tgt := 94) hx hb dX12_steep_84 (by decide) (fun c12 => ?_) (fun c12 => ?_)
      · skip
        have h := f_f c12 h
        refine lv_iload hx hb dX12_steep_94 (lv_at hl 3 rfl) ?_
        refine lv_if_ne (tgt := 103) hx hb dX12_steep_96 (by decide) (fun c13 => ?_) (fun c13 => ?_)
        · skip
          have h := f_f c13 h
          refine lv_iconst (v := 2) hx hb dX12_steep_103 (by decide) ?_
          refine lv_istore (lv' := [(5, .int (2 : Int32)), (0, .ref (G.2.1 200)), (1, .int y1), (4, .int y4), (6, .int z6)]) hx hb dX12_steep_104 hl (by decide) rfl (fun ls hl => ?_)
          refine lv_iinc (v := (z6 + 1)) (lv' := [(6, .int (z6 + 1)), (5, .int (2 : Int32)), (0, .ref (G.2.1 200)), (1, .int y1), (4, .int y4)]) hx hb dX12_steep_106 hl (k := 4) rfl rfl (by decide) rfl (fun ls hl => ?_)
          refine lv_goto (tgt := 71) hx hb dX12_steep_109 (by decide) ?_
          exact ih (2 : Int32) (z6 + 1) h _ _ _ hP hD hS (lv_sub hl [2, 3, 4, 1, 0] rfl)
        · skip
          have h := f_t c13 h
          refine lv_iconst (v := 0) hx hb dX12_steep_99 (by decide) ?_
          refine lv_goto (tgt := 104) hx hb dX12_steep_100 (by decide) ?_
          refine lv_istore (lv' := [(5, .int (0 : Int32)), (0, .ref (G.2.1 200)), (1, .int y1), (4, .int y4), (6, .int z6)]) hx hb dX12_steep_104 hl (by decide) rfl (fun ls hl => ?_)
          refine lv_iinc (v := (z6 + 1)) (lv' := [(6, .int (z6 + 1)), (5, .int (0 : Int32)), (0, .ref (G.2.1 200)), (1, .int y1), (4, .int y4)]) hx hb dX12_steep_106 hl (k := 4) rfl rfl (by decide) rfl (fun ls hl => ?_)
          refine lv_goto (tgt := 71) hx hb dX12_steep_109 (by decide) ?_
          exact ih (0 : Int32) (z6 + 1) h _ _ _ hP hD hS (lv_sub hl [2, 3, 4, 1, 0] rfl)
      · skip
        have h := f_t c12 h
        refine lv_iconst (v := 2) hx hb dX12_steep_87 (by decide) ?_
        refine lv_iload hx hb dX12_steep_88 (lv_at hl 3 rfl) ?_
        refine lv_imul hx hb dX12_steep_90 ?_
        refine lv_goto (tgt := 104) hx hb dX12_steep_91 (by decide) ?_
        refine lv_istore (lv' := [(5, .int ((2 : Int32) * z5)), (0, .ref (G.2.1 200)), (1, .int y1), (4, .int y4), (6, .int z6)]) hx hb dX12_steep_104 hl (by decide) rfl (fun ls hl => ?_)
        refine lv_iinc (v := (z6 + 1)) (lv' := [(6, .int (z6 + 1)), (5, .int ((2 : Int32) * z5)), (0, .ref (G.2.1 200)), (1, .int y1), (4, .int y4)]) hx hb dX12_steep_106 hl (k := 4) rfl rfl (by decide) rfl (fun ls hl => ?_)
        refine lv_goto (tgt := 71) hx hb dX12_steep_109 (by decide) ?_
        exact ih ((2 : Int32) * z5) (z6 + 1) h _ _ _ hP hD hS (lv_sub hl [2, 3, 4, 1, 0] rfl)
set_option maxRecDepth 100000 in
set_option maxHeartbeats 8000000 in
theorem c_X12_steep (l : Launch) (D : va_G) (G : hG) (Z : hZ) (Y : va_W) (σ0 : hSt) (F : Nat) (x1 : Int32) (x2 : Int32) (x3 : Int32) (x4 : Int32) (res : (Int32 × hSt)) (h : f_X12_steep F Z σ0 x1 x2 x3 x4 = some res) : CT l yX12_steep cX12_steep 7 (some .int) rm_X12_steep D G 0 0 [.ref (G.2.1 200), .int x1, .int x2, .int x3, .int x4] (mW G Z Y σ0) (mW G Z Y res.2) (some (.int res.1)) := by
  unfold f_X12_steep at h
  refine CT.mk (cc := cX12_steep) (maxL := 7) (ret := (some .int)) (own := RX12) (plainFor_of_name (by decide)) rfl (Nat.le_of_ble_eq_true rfl) ?_
  intro p e s m args below meth c A ls C0 hnm hA hP hD hl
  obtain ⟨hx, hb, hr, hml, hown, hts, hlocks, hK, hE⟩ := id C0
  have hS : va_S A s.heap s.heap [] := va_S.rf
  have hl : lv_has ls 7 [(0, .ref (G.2.1 200)), (1, .int x1), (2, .int x2), (3, .int x3), (4, .int x4)] := hl
  refine lv_aload_n hx hb dX12_steep_0 rfl (lv_at hl 0 rfl) ?_
  refine lv_iconst (v := 0) hx hb dX12_steep_1 (by decide) ?_
  refine va_put (D := D) (ci := 12) (v := .int (0 : Int32)) (ty := .int) (C := RX12) (T := TX12) (N := 59) hx hb hts inU_X12 tyX12 tyX12_ok nmX12 hown hK hP hD hS _ (mg_200 G Z Y σ0) rfl 0 (by decide) (hts _ wd_1248) (fun _ h9 => h9) rfl (by decide +kernel) rfl rfl (Nat.le_of_ble_eq_true rfl) dX12_steep_2 (fun H locs hP hD hS => ?_)
  have hP := wrP (mp_200_0 G Z Y σ0 (0 : Int32)) hP
  have hD := wrD (mp_200_0 G Z Y σ0 (0 : Int32)) hD
  refine lv_aload_n hx hb dX12_steep_5 rfl (lv_at hl 0 rfl) ?_
  refine lv_iload_n hx hb dX12_steep_6 rfl (lv_at hl 1 rfl) ?_
  obtain ⟨q1, hq1, h⟩ := f_b h
  refine cl_V (w := (mW G Z Y (sI σ0 200 0 (0 : Int32)))) (w' := (mW G Z Y (sI σ0 200 0 (0 : Int32)))) (rv := some (.int q1)) (bytes := cX12_isSaying) (maxL := 2) (ret := (some .boolean)) (C := RX12) (As := [.int x1]) (rest := []) (stk := [.int q1]) ⟨hx, hb, hml, hown, hts⟩ hK hE hA hP hD hS (c_X12_isSaying l D G Z Y (sI σ0 200 0 (0 : Int32)) x1 q1 hq1) (cwV 1 hts (gwV wd_1493 wd_1495 wp_57 wd_11 wd_1496) rfl rfl rfl hd_X12_isSaying ⟨Nat.le_of_ble_eq_true rfl, Nat.le_of_ble_eq_true rfl⟩) (mg_200 G Z Y (sI σ0 200 0 (0 : Int32))) rfl rfl rfl hl.1 rfl (Nat.le_of_ble_eq_true rfl) dX12_steep_7 ⟨Nat.zero_le _, Nat.zero_le _⟩ rfl (fun H locs hP hD hS => ?_)
  refine lv_if_eq (tgt := 47) hx hb dX12_steep_10 (by decide) (fun c2 => ?_) (fun c2 => ?_)
  · skip
    have h := f_t c2 h
    refine lv_iconst (v := (-1)) hx hb dX12_steep_47 (by decide) ?_
    obtain rfl := Option.some.inj h
    exact W.iret (v := (-1 : Int32)) hx hb hr (q_end hK hP hD hS) hS.2.2 dX12_steep_48
  · skip
    have h := f_f c2 h
    refine lv_iload_n hx hb dX12_steep_13 rfl (lv_at hl 2 rfl) ?_
    refine lv_i2l (v := (x2 : Int32).toInt64) hx hb dX12_steep_14 rfl ?_
    refine lv_lconst (v := 0) hx hb dX12_steep_15 (by decide) ?_
    refine lv_aload_n hx hb dX12_steep_16 rfl (lv_at hl 0 rfl) ?_
    refine va_get (D := D) (ci := 12) (v := .ref (G.2.1 204)) (C := RX12) (T := TX12) (N := 59) hx hb hts inU_X12 hown hK hP _ (mg_200 G Z Y (sI σ0 200 0 (0 : Int32))) rfl 12 (by decide) (hts _ wd_1260) (fun _ h9 => h9) rfl dX12_steep_17 ?_
    refine lv_iload_n hx hb dX12_steep_20 rfl (lv_at hl 1 rfl) ?_
    obtain ⟨c3, h⟩ := f_n h
    refine va_ialdE (v := (σ0.1 204 ((x1 : Int32).toNatClampNeg))) hx hb hK hP _ 0 (mg_204 G Z Y (sI σ0 200 0 (0 : Int32))) rfl c3 dX12_steep_21 rfl ?_
    refine lv_iconst (v := 1) hx hb dX12_steep_22 (by decide) ?_
    refine lv_isub hx hb dX12_steep_23 ?_
    refine lv_i2l (v := (((σ0.1 204 ((x1 : Int32).toNatClampNeg)) - (1 : Int32)) : Int32).toInt64) hx hb dX12_steep_24 rfl ?_
    obtain ⟨q4, hq4, h⟩ := f_b h
    refine cl_S (w := (mW G Z Y (sI σ0 200 0 (0 : Int32)))) (w' := (mW G Z Y (sI σ0 200 0 (0 : Int32)))) (rv := some (.int q4)) (bytes := cX12_isIn) (maxL := 6) (ret := (some .boolean)) (As := [.long (x2 : Int32).toInt64, .long (0 : Int64), .long (((σ0.1 204 ((x1 : Int32).toNatClampNeg)) - (1 : Int32)) : Int32).toInt64]) (rest := []) (stk := [.int q4]) ⟨hx, hb, hml, hown, hts⟩ hK hE hA hP hD hS (c_X12_isIn l D G (mW G Z Y (sI σ0 200 0 (0 : Int32))) ((x2 : Int32).toInt64) (0 : Int64) ((((σ0.1 204 ((x1 : Int32).toNatClampNeg)) - (1 : Int32)) : Int32).toInt64) q4 hq4) (mkS hts wd_1498 wd_1499 wd_11 wd_1500 rfl rfl hd_X12_isIn ⟨Nat.le_of_ble_eq_true rfl, Nat.le_of_ble_eq_true rfl⟩) rfl hl.1 rfl (Nat.le_of_ble_eq_true rfl) dX12_steep_25 ⟨Nat.zero_le _, Nat.zero_le _⟩ rfl (fun H locs hP hD hS => ?_)
    refine lv_if_eq (tgt := 47) hx hb dX12_steep_28 (by decide) (fun c5 => ?_) (fun c5 => ?_)
    · skip
      have h := f_t c5 h
      refine lv_iconst (v := (-1)) hx hb dX12_steep_47 (by decide) ?_
      obtain rfl := Option.some.inj h
      exact W.iret (v := (-1 : Int32)) hx hb hr (q_end hK hP hD hS) hS.2.2 dX12_steep_48
    · skip
      have h := f_f c5 h
      refine lv_iload_n hx hb dX12_steep_31 rfl (lv_at hl 3 rfl) ?_
      refine lv_i2l (v := (x3 : Int32).toInt64) hx hb dX12_steep_32 rfl ?_
      refine lv_lconst (v := 0) hx hb dX12_steep_33 (by decide) ?_
      refine lv_aload_n hx hb dX12_steep_34 rfl (lv_at hl 0 rfl) ?_
      refine va_get (D := D) (ci := 12) (v := .ref (G.2.1 204)) (C := RX12) (T := TX12) (N := 59) hx hb hts inU_X12 hown hK hP _ (mg_200 G Z Y (sI σ0 200 0 (0 : Int32))) rfl 12 (by decide) (hts _ wd_1260) (fun _ h9 => h9) rfl dX12_steep_35 ?_
      refine lv_iload_n hx hb dX12_steep_38 rfl (lv_at hl 1 rfl) ?_
      obtain ⟨c6, h⟩ := f_n h
      refine va_ialdE (v := (σ0.1 204 ((x1 : Int32).toNatClampNeg))) hx hb hK hP _ 0 (mg_204 G Z Y (sI σ0 200 0 (0 : Int32))) rfl c6 dX12_steep_39 rfl ?_
      refine lv_i2l (v := ((σ0.1 204 ((x1 : Int32).toNatClampNeg)) : Int32).toInt64) hx hb dX12_steep_40 rfl ?_
      obtain ⟨q7, hq7, h⟩ := f_b h
      refine cl_S (w := (mW G Z Y (sI σ0 200 0 (0 : Int32)))) (w' := (mW G Z Y (sI σ0 200 0 (0 : Int32)))) (rv := some (.int q7)) (bytes := cX12_isIn) (maxL := 6) (ret := (some .boolean)) (As := [.long (x3 : Int32).toInt64, .long (0 : Int64), .long ((σ0.1 204 ((x1 : Int32).toNatClampNeg)) : Int32).toInt64]) (rest := []) (stk := [.int q7]) ⟨hx, hb, hml, hown, hts⟩ hK hE hA hP hD hS (c_X12_isIn l D G (mW G Z Y (sI σ0 200 0 (0 : Int32))) ((x3 : Int32).toInt64) (0 : Int64) (((σ0.1 204 ((x1 : Int32).toNatClampNeg)) : Int32).toInt64) q7 hq7) (mkS hts wd_1498 wd_1499 wd_11 wd_1500 rfl rfl hd_X12_isIn ⟨Nat.le_of_ble_eq_true rfl, Nat.le_of_ble_eq_true rfl⟩) rfl hl.1 rfl (Nat.le_of_ble_eq_true rfl) dX12_steep_41 ⟨Nat.zero_le _, Nat.zero_le _⟩ rfl (fun H locs hP hD hS => ?_)
      refine lv_if_ne (tgt := 49) hx hb dX12_steep_44 (by decide) (fun c8 => ?_) (fun c8 => ?_)
      · skip
        have h := f_f c8 h
        refine lv_aload_n hx hb dX12_steep_49 rfl (lv_at hl 0 rfl) ?_
        refine va_get (D := D) (ci := 12) (v := .ref (G.2.1 205)) (C := RX12) (T := TX12) (N := 59) hx hb hts inU_X12 hown hK hP _ (mg_200 G Z Y (sI σ0 200 0 (0 : Int32))) rfl 13 (by decide) (hts _ wd_1261) (fun _ h9 => h9) rfl dX12_steep_50 ?_
        refine lv_bipush (v := 6) hx hb dX12_steep_53 (by decide) ?_
        refine lv_iload_n hx hb dX12_steep_55 rfl (lv_at hl 1 rfl) ?_
        refine lv_imul hx hb dX12_steep_56 ?_
        refine lv_iload_n hx hb dX12_steep_57 rfl (lv_at hl 2 rfl) ?_
        refine lv_iadd hx hb dX12_steep_58 ?_
        obtain ⟨c9, h⟩ := f_n h
        refine va_ialdE (v := (σ0.1 205 (((((6 : Int32) * x1) + x2) : Int32).toNatClampNeg))) hx hb hK hP _ 0 (mg_205 G Z Y (sI σ0 200 0 (0 : Int32))) rfl c9 dX12_steep_59 rfl ?_
        refine lv_istore (lv' := [(5, .int (σ0.1 205 (((((6 : Int32) * x1) + x2) : Int32).toNatClampNeg))), (0, .ref (G.2.1 200)), (1, .int x1), (2, .int x2), (3, .int x3), (4, .int x4)]) hx hb dX12_steep_60 hl (by decide) rfl (fun ls hl => ?_)
        refine lv_iload_n hx hb dX12_steep_62 rfl (lv_at hl 3 rfl) ?_
        refine lv_iconst (v := 1) hx hb dX12_steep_63 (by decide) ?_
        refine lv_iadd hx hb dX12_steep_64 ?_
        refine lv_iload_n hx hb dX12_steep_65 rfl (lv_at hl 4 rfl) ?_
        refine va_mmax hx hb (hml.trans hl.1.symm) hown (hts _ wd_1476) (hts _ wd_328) (hts _ wd_12) (hts _ wd_329) (Nat.le_of_ble_eq_true rfl) (Nat.le_of_ble_eq_true rfl) (Nat.zero_le _) (Nat.zero_le _) dX12_steep_66 ?_
        refine lv_istore (lv' := [(6, .int (if (x2 + (1 : Int32)) < x3 then x3 else (x2 + (1 : Int32)))), (5, .int (σ0.1 205 (((((6 : Int32) * x1) + x2) : Int32).toNatClampNeg))), (0, .ref (G.2.1 200)), (1, .int x1), (2, .int x2), (3, .int x3), (4, .int x4)]) hx hb dX12_steep_69 hl (by decide) rfl (fun ls hl => ?_)
        refine W_X12_steep_L71 l D G Z Y σ0 F x1 x2 x3 x4 (sI σ0 200 0 (0 : Int32)) x1 x4 res C0 hA F (σ0.1 205 (((((6 : Int32) * x1) + x2) : Int32).toNatClampNeg)) (if (x2 + (1 : Int32)) < x3 then x3 else (x2 + (1 : Int32))) h _ _ _ hP hD hS (lv_sub hl [2, 3, 6, 1, 0] rfl)
      · skip
        have h := f_t c8 h
        refine lv_iconst (v := (-1)) hx hb dX12_steep_47 (by decide) ?_
        obtain rfl := Option.some.inj h
        exact W.iret (v := (-1 : Int32)) hx hb hr (q_end hK hP hD hS) hS.2.2 dX12_steep_48
abbrev rm_X12_isNet : Room := { frames := 0, cells := 0, slots := 0, locals := 0 }
set_option maxRecDepth 100000 in
set_option maxHeartbeats 8000000 in
theorem c_X12_isNet (l : Launch) (D : va_G) (G : hG) (Z : hZ) (Y : va_W) (σ0 : hSt) (x1 : Int32) (res : Int32) (h : f_X12_isNet Z σ0 x1 = some res) : CT l yX12_isNet cX12_isNet 2 (some .boolean) rm_X12_isNet D G 0 0 [.ref (G.2.1 200), .int x1] (mW G Z Y σ0) (mW G Z Y σ0) (some (.int res)) := by
  unfold f_X12_isNet at h
  refine CT.mk (cc := cX12_isNet) (maxL := 2) (ret := (some .boolean)) (own := RX12) (plainFor_of_name (by decide)) rfl (Nat.le_of_ble_eq_true rfl) ?_
  intro p e s m args below meth c A ls C0 hnm hA hP hD hl
  obtain ⟨hx, hb, hr, hml, hown, hts, hlocks, hK, hE⟩ := id C0
  have hS : va_S A s.heap s.heap [] := va_S.rf
  have hl : lv_has ls 2 [(0, .ref (G.2.1 200)), (1, .int x1)] := hl
  refine lv_iload_n hx hb dX12_isNet_0 rfl (lv_at hl 1 rfl) ?_
  refine lv_if_lt (tgt := 16) hx hb dX12_isNet_1 (by decide) (fun c1 => ?_) (fun c1 => ?_)
  · skip
    have h := f_t c1 h
    refine lv_iconst (v := 0) hx hb dX12_isNet_16 (by decide) ?_
    obtain rfl := Option.some.inj h
    exact W.zret (v := (0 : Int32)) hx hb hr rfl (q_end hK hP hD hS) hS.2.2 dX12_isNet_17
  · skip
    have h := f_f c1 h
    refine lv_iload_n hx hb dX12_isNet_4 rfl (lv_at hl 1 rfl) ?_
    refine lv_aload_n hx hb dX12_isNet_5 rfl (lv_at hl 0 rfl) ?_
    refine va_get (D := D) (ci := 12) (v := .int (σ0.1 200 58)) (C := RX12) (T := TX12) (N := 59) hx hb hts inU_X12 hown hK hP _ (mg_200 G Z Y σ0) rfl 58 (by decide) (hts _ wd_1305) (fun _ h9 => h9) rfl dX12_isNet_6 ?_
    refine lv_icmp_ge (tgt := 16) hx hb dX12_isNet_9 (by decide) (fun c2 => ?_) (fun c2 => ?_)
    · skip
      have h := f_t c2 h
      refine lv_iconst (v := 0) hx hb dX12_isNet_16 (by decide) ?_
      obtain rfl := Option.some.inj h
      exact W.zret (v := (0 : Int32)) hx hb hr rfl (q_end hK hP hD hS) hS.2.2 dX12_isNet_17
    · skip
      have h := f_f c2 h
      refine lv_iconst (v := 1) hx hb dX12_isNet_12 (by decide) ?_
      refine lv_goto (tgt := 17) hx hb dX12_isNet_13 (by decide) ?_
      obtain rfl := Option.some.inj h
      exact W.zret (v := (1 : Int32)) hx hb hr rfl (q_end hK hP hD hS) hS.2.2 dX12_isNet_17
abbrev rm_X12_net : Room := { frames := 1, cells := 0, slots := 0, locals := 25 }
set_option maxRecDepth 100000 in
set_option maxHeartbeats 8000000 in
theorem c_X12_net (l : Launch) (D : va_G) (G : hG) (Z : hZ) (Y : va_W) (σ0 : hSt) (x1 : Int32) (x2 : Int32) (res : (Int32 × hSt)) (h : f_X12_net Z σ0 x1 x2 = some res) : CT l yX12_net cX12_net 3 (some .int) rm_X12_net D G 0 0 [.ref (G.2.1 200), .int x1, .int x2] (mW G Z Y σ0) (mW G Z Y res.2) (some (.int res.1)) := by
  unfold f_X12_net at h
  refine CT.mk (cc := cX12_net) (maxL := 3) (ret := (some .int)) (own := RX12) (plainFor_of_name (by decide)) rfl (Nat.le_of_ble_eq_true rfl) ?_
  intro p e s m args below meth c A ls C0 hnm hA hP hD hl
  obtain ⟨hx, hb, hr, hml, hown, hts, hlocks, hK, hE⟩ := id C0
  have hS : va_S A s.heap s.heap [] := va_S.rf
  have hl : lv_has ls 3 [(0, .ref (G.2.1 200)), (1, .int x1), (2, .int x2)] := hl
  refine lv_aload_n hx hb dX12_net_0 rfl (lv_at hl 0 rfl) ?_
  refine lv_iconst (v := 0) hx hb dX12_net_1 (by decide) ?_
  refine va_put (D := D) (ci := 12) (v := .int (0 : Int32)) (ty := .int) (C := RX12) (T := TX12) (N := 59) hx hb hts inU_X12 tyX12 tyX12_ok nmX12 hown hK hP hD hS _ (mg_200 G Z Y σ0) rfl 0 (by decide) (hts _ wd_1248) (fun _ h9 => h9) rfl (by decide +kernel) rfl rfl (Nat.le_of_ble_eq_true rfl) dX12_net_2 (fun H locs hP hD hS => ?_)
  have hP := wrP (mp_200_0 G Z Y σ0 (0 : Int32)) hP
  have hD := wrD (mp_200_0 G Z Y σ0 (0 : Int32)) hD
  refine lv_aload_n hx hb dX12_net_5 rfl (lv_at hl 0 rfl) ?_
  refine va_get (D := D) (ci := 12) (v := .int (σ0.1 200 58)) (C := RX12) (T := TX12) (N := 59) hx hb hts inU_X12 hown hK hP _ (mg_200 G Z Y (sI σ0 200 0 (0 : Int32))) rfl 58 (by decide) (hts _ wd_1305) (fun _ h9 => h9) rfl dX12_net_6 ?_
  refine lv_bipush (v := 12) hx hb dX12_net_9 (by decide) ?_
  refine lv_icmp_eq (tgt := 45) hx hb dX12_net_11 (by decide) (fun c1 => ?_) (fun c1 => ?_)
  · skip
    have h := f_t c1 h
    refine lv_iconst (v := (-1)) hx hb dX12_net_45 (by decide) ?_
    obtain rfl := Option.some.inj h
    exact W.iret (v := (-1 : Int32)) hx hb hr (q_end hK hP hD hS) hS.2.2 dX12_net_46
  · skip
    have h := f_f c1 h
    refine lv_iload_n hx hb dX12_net_14 rfl (lv_at hl 1 rfl) ?_
    refine lv_i2l (v := (x1 : Int32).toInt64) hx hb dX12_net_15 rfl ?_
    refine lv_ldc2 (v := 2) hx hb hown (hts _ wd_1541) dX12_net_16 ?_
    refine lv_ldc2 (v := 6) hx hb hown (hts _ wd_1814) dX12_net_19 ?_
    obtain ⟨q2, hq2, h⟩ := f_b h
    refine cl_S (w := (mW G Z Y (sI σ0 200 0 (0 : Int32)))) (w' := (mW G Z Y (sI σ0 200 0 (0 : Int32)))) (rv := some (.int q2)) (bytes := cX12_isIn) (maxL := 6) (ret := (some .boolean)) (As := [.long (x1 : Int32).toInt64, .long (2 : Int64), .long (6 : Int64)]) (rest := []) (stk := [.int q2]) ⟨hx, hb, hml, hown, hts⟩ hK hE hA hP hD hS (c_X12_isIn l D G (mW G Z Y (sI σ0 200 0 (0 : Int32))) ((x1 : Int32).toInt64) (2 : Int64) (6 : Int64) q2 hq2) (mkS hts wd_1498 wd_1499 wd_11 wd_1500 rfl rfl hd_X12_isIn ⟨Nat.le_of_ble_eq_true rfl, Nat.le_of_ble_eq_true rfl⟩) rfl hl.1 rfl (Nat.le_of_ble_eq_true rfl) dX12_net_22 ⟨Nat.zero_le _, Nat.zero_le _⟩ rfl (fun H locs hP hD hS => ?_)
    refine lv_if_eq (tgt := 45) hx hb dX12_net_25 (by decide) (fun c3 => ?_) (fun c3 => ?_)
    · skip
      have h := f_t c3 h
      refine lv_iconst (v := (-1)) hx hb dX12_net_45 (by decide) ?_
      obtain rfl := Option.some.inj h
      exact W.iret (v := (-1 : Int32)) hx hb hr (q_end hK hP hD hS) hS.2.2 dX12_net_46
    · skip
      have h := f_f c3 h
      refine lv_iload_n hx hb dX12_net_28 rfl (lv_at hl 2 rfl) ?_
      refine lv_if_lt (tgt := 45) hx hb dX12_net_29 (by decide) (fun c4 => ?_) (fun c4 => ?_)
      · skip
        have h := f_t c4 h
        refine lv_iconst (v := (-1)) hx hb dX12_net_45 (by decide) ?_
        obtain rfl := Option.some.inj h
        exact W.iret (v := (-1 : Int32)) hx hb hr (q_end hK hP hD hS) hS.2.2 dX12_net_46
      · skip
        have h := f_f c4 h
        refine lv_iload_n hx hb dX12_net_32 rfl (lv_at hl 2 rfl) ?_
        refine lv_iconst (v := 1) hx hb dX12_net_33 (by decide) ?_
        refine lv_iload_n hx hb dX12_net_34 rfl (lv_at hl 1 rfl) ?_
        refine lv_iload_n hx hb dX12_net_35 rfl (lv_at hl 1 rfl) ?_
        refine lv_iconst (v := 1) hx hb dX12_net_36 (by decide) ?_
        refine lv_isub hx hb dX12_net_37 ?_
        refine lv_imul hx hb dX12_net_38 ?_
        refine lv_iconst (v := 2) hx hb dX12_net_39 (by decide) ?_
        refine lv_idiv hx hb dX12_net_40 (by decide) ?_
        refine lv_ishl hx hb dX12_net_41 ?_
        refine lv_icmp_lt (tgt := 47) hx hb dX12_net_42 (by decide) (fun c5 => ?_) (fun c5 => ?_)
        · skip
          have h := f_t c5 h
          refine lv_aload_n hx hb dX12_net_47 rfl (lv_at hl 0 rfl) ?_
          refine va_get (D := D) (ci := 12) (v := .ref (G.2.1 222)) (C := RX12) (T := TX12) (N := 59) hx hb hts inU_X12 hown hK hP _ (mg_200 G Z Y (sI σ0 200 0 (0 : Int32))) rfl 54 (by decide) (hts _ wd_1301) (fun _ h9 => h9) rfl dX12_net_48 ?_
          refine lv_aload_n hx hb dX12_net_51 rfl (lv_at hl 0 rfl) ?_
          refine va_get (D := D) (ci := 12) (v := .int (σ0.1 200 58)) (C := RX12) (T := TX12) (N := 59) hx hb hts inU_X12 hown hK hP _ (mg_200 G Z Y (sI σ0 200 0 (0 : Int32))) rfl 58 (by decide) (hts _ wd_1305) (fun _ h9 => h9) rfl dX12_net_52 ?_
          refine lv_iload_n hx hb dX12_net_55 rfl (lv_at hl 1 rfl) ?_
          obtain ⟨c6, h⟩ := f_n h
          refine va_iast hx hb hK hP hD hS _ 0 (mg_222 G Z Y (sI σ0 200 0 (0 : Int32))) rfl c6 dX12_net_56 (fun H locs hP hD hS => ?_)
          have hP := wrP (mp_222 G Z Y (sI σ0 200 0 (0 : Int32)) _ _) hP
          have hD := wrD (mp_222 G Z Y (sI σ0 200 0 (0 : Int32)) _ _) hD
          refine lv_aload_n hx hb dX12_net_57 rfl (lv_at hl 0 rfl) ?_
          refine va_get (D := D) (ci := 12) (v := .ref (G.2.1 223)) (C := RX12) (T := TX12) (N := 59) hx hb hts inU_X12 hown hK hP _ (mg_200 G Z Y (sI (sI σ0 200 0 (0 : Int32)) 222 (((σ0.1 200 58) : Int32).toNatClampNeg) x1)) rfl 55 (by decide) (hts _ wd_1302) (fun _ h9 => h9) rfl dX12_net_58 ?_
          refine lv_aload_n hx hb dX12_net_61 rfl (lv_at hl 0 rfl) ?_
          refine va_get (D := D) (ci := 12) (v := .int (σ0.1 200 58)) (C := RX12) (T := TX12) (N := 59) hx hb hts inU_X12 hown hK hP _ (mg_200 G Z Y (sI (sI σ0 200 0 (0 : Int32)) 222 (((σ0.1 200 58) : Int32).toNatClampNeg) x1)) rfl 58 (by decide) (hts _ wd_1305) (fun _ h9 => h9) rfl dX12_net_62 ?_
          refine lv_iload_n hx hb dX12_net_65 rfl (lv_at hl 2 rfl) ?_
          obtain ⟨c7, h⟩ := f_n h
          refine va_iast hx hb hK hP hD hS _ 0 (mg_223 G Z Y (sI (sI σ0 200 0 (0 : Int32)) 222 (((σ0.1 200 58) : Int32).toNatClampNeg) x1)) rfl c7 dX12_net_66 (fun H locs hP hD hS => ?_)
          have hP := wrP (mp_223 G Z Y (sI (sI σ0 200 0 (0 : Int32)) 222 (((σ0.1 200 58) : Int32).toNatClampNeg) x1) _ _) hP
          have hD := wrD (mp_223 G Z Y (sI (sI σ0 200 0 (0 : Int32)) 222 (((σ0.1 200 58) : Int32).toNatClampNeg) x1) _ _) hD
          refine lv_aload_n hx hb dX12_net_67 rfl (lv_at hl 0 rfl) ?_
          refine lv_dup hx hb dX12_net_68 rfl ?_
          refine va_get (D := D) (ci := 12) (v := .int (σ0.1 200 58)) (C := RX12) (T := TX12) (N := 59) hx hb hts inU_X12 hown hK hP _ (mg_200 G Z Y (sI (sI (sI σ0 200 0 (0 : Int32)) 222 (((σ0.1 200 58) : Int32).toNatClampNeg) x1) 223 (((σ0.1 200 58) : Int32).toNatClampNeg) x2)) rfl 58 (by decide) (hts _ wd_1305) (fun _ h9 => h9) rfl dX12_net_69 ?_
          refine lv_iconst (v := 1) hx hb dX12_net_72 (by decide) ?_
          refine lv_iadd hx hb dX12_net_73 ?_
          refine va_put (D := D) (ci := 12) (v := .int ((σ0.1 200 58) + (1 : Int32))) (ty := .int) (C := RX12) (T := TX12) (N := 59) hx hb hts inU_X12 tyX12 tyX12_ok nmX12 hown hK hP hD hS _ (mg_200 G Z Y (sI (sI (sI σ0 200 0 (0 : Int32)) 222 (((σ0.1 200 58) : Int32).toNatClampNeg) x1) 223 (((σ0.1 200 58) : Int32).toNatClampNeg) x2)) rfl 58 (by decide) (hts _ wd_1305) (fun _ h9 => h9) rfl (by decide +kernel) rfl rfl (Nat.le_of_ble_eq_true rfl) dX12_net_74 (fun H locs hP hD hS => ?_)
          have hP := wrP (mp_200_58 G Z Y (sI (sI (sI σ0 200 0 (0 : Int32)) 222 (((σ0.1 200 58) : Int32).toNatClampNeg) x1) 223 (((σ0.1 200 58) : Int32).toNatClampNeg) x2) ((σ0.1 200 58) + (1 : Int32))) hP
          have hD := wrD (mp_200_58 G Z Y (sI (sI (sI σ0 200 0 (0 : Int32)) 222 (((σ0.1 200 58) : Int32).toNatClampNeg) x1) 223 (((σ0.1 200 58) : Int32).toNatClampNeg) x2) ((σ0.1 200 58) + (1 : Int32))) hD
          refine lv_aload_n hx hb dX12_net_77 rfl (lv_at hl 0 rfl) ?_
          refine va_get (D := D) (ci := 12) (v := .int ((σ0.1 200 58) + (1 : Int32))) (C := RX12) (T := TX12) (N := 59) hx hb hts inU_X12 hown hK hP _ (mg_200 G Z Y (sI (sI (sI (sI σ0 200 0 (0 : Int32)) 222 (((σ0.1 200 58) : Int32).toNatClampNeg) x1) 223 (((σ0.1 200 58) : Int32).toNatClampNeg) x2) 200 58 ((σ0.1 200 58) + (1 : Int32)))) rfl 58 (by decide) (hts _ wd_1305) (fun _ h9 => h9) rfl dX12_net_78 ?_
          refine lv_iconst (v := 1) hx hb dX12_net_81 (by decide) ?_
          refine lv_isub hx hb dX12_net_82 ?_
          obtain rfl := Option.some.inj h
          exact W.iret (v := (((σ0.1 200 58) + (1 : Int32)) - (1 : Int32))) hx hb hr (q_end hK hP hD hS) hS.2.2 dX12_net_83
        · skip
          have h := f_f c5 h
          refine lv_iconst (v := (-1)) hx hb dX12_net_45 (by decide) ?_
          obtain rfl := Option.some.inj h
          exact W.iret (v := (-1 : Int32)) hx hb hr (q_end hK hP hD hS) hS.2.2 dX12_net_46
abbrev rm_X12_hasEdge : Room := { frames := 1, cells := 0, slots := 0, locals := 30 }
set_option maxRecDepth 100000 in
set_option maxHeartbeats 8000000 in
theorem c_X12_hasEdge (l : Launch) (D : va_G) (G : hG) (Z : hZ) (Y : va_W) (σ0 : hSt) (x1 : Int32) (x2 : Int32) (x3 : Int32) (res : Int32) (h : f_X12_hasEdge Z σ0 x1 x2 x3 = some res) : CT l yX12_hasEdge cX12_hasEdge 6 (some .boolean) rm_X12_hasEdge D G 0 0 [.ref (G.2.1 200), .int x1, .int x2, .int x3] (mW G Z Y σ0) (mW G Z Y σ0) (some (.int res)) := by
  unfold f_X12_hasEdge at h
  refine CT.mk (cc := cX12_hasEdge) (maxL := 6) (ret := (some .boolean)) (own := RX12) (plainFor_of_name (by decide)) rfl (Nat.le_of_ble_eq_true rfl) ?_
  intro p e s m args below meth c A ls C0 hnm hA hP hD hl
  obtain ⟨hx, hb, hr, hml, hown, hts, hlocks, hK, hE⟩ := id C0
  have hS : va_S A s.heap s.heap [] := va_S.rf
  have hl : lv_has ls 6 [(0, .ref (G.2.1 200)), (1, .int x1), (2, .int x2), (3, .int x3)] := hl
  refine lv_iload_n hx hb dX12_hasEdge_0 rfl (lv_at hl 2 rfl) ?_
  refine lv_iload_n hx hb dX12_hasEdge_1 rfl (lv_at hl 3 rfl) ?_
  refine va_mmin hx hb (hml.trans hl.1.symm) hown (hts _ wd_1719) (hts _ wd_400) (hts _ wd_12) (hts _ wd_401) (Nat.le_of_ble_eq_true rfl) (Nat.le_of_ble_eq_true rfl) (Nat.zero_le _) (Nat.zero_le _) dX12_hasEdge_2 ?_
  refine lv_istore (lv' := [(4, .int (if x3 < x2 then x3 else x2)), (0, .ref (G.2.1 200)), (1, .int x1), (2, .int x2), (3, .int x3)]) hx hb dX12_hasEdge_5 hl (by decide) rfl (fun ls hl => ?_)
  refine lv_iload_n hx hb dX12_hasEdge_7 rfl (lv_at hl 3 rfl) ?_
  refine lv_iload_n hx hb dX12_hasEdge_8 rfl (lv_at hl 4 rfl) ?_
  refine va_mmax hx hb (hml.trans hl.1.symm) hown (hts _ wd_1476) (hts _ wd_328) (hts _ wd_12) (hts _ wd_329) (Nat.le_of_ble_eq_true rfl) (Nat.le_of_ble_eq_true rfl) (Nat.zero_le _) (Nat.zero_le _) dX12_hasEdge_9 ?_
  refine lv_istore (lv' := [(5, .int (if x2 < x3 then x3 else x2)), (4, .int (if x3 < x2 then x3 else x2)), (0, .ref (G.2.1 200)), (1, .int x1), (2, .int x2), (3, .int x3)]) hx hb dX12_hasEdge_12 hl (by decide) rfl (fun ls hl => ?_)
  refine lv_aload_n hx hb dX12_hasEdge_14 rfl (lv_at hl 2 rfl) ?_
  refine va_get (D := D) (ci := 12) (v := .ref (G.2.1 223)) (C := RX12) (T := TX12) (N := 59) hx hb hts inU_X12 hown hK hP _ (mg_200 G Z Y σ0) rfl 55 (by decide) (hts _ wd_1302) (fun _ h9 => h9) rfl dX12_hasEdge_15 ?_
  refine lv_iload_n hx hb dX12_hasEdge_18 rfl (lv_at hl 3 rfl) ?_
  obtain ⟨c1, h⟩ := f_n h
  refine va_ialdE (v := (σ0.1 223 ((x1 : Int32).toNatClampNeg))) hx hb hK hP _ 0 (mg_223 G Z Y σ0) rfl c1 dX12_hasEdge_19 rfl ?_
  refine lv_iload hx hb dX12_hasEdge_20 (lv_at hl 0 rfl) ?_
  refine lv_iload hx hb dX12_hasEdge_22 (lv_at hl 0 rfl) ?_
  refine lv_iconst (v := 1) hx hb dX12_hasEdge_24 (by decide) ?_
  refine lv_isub hx hb dX12_hasEdge_25 ?_
  refine lv_imul hx hb dX12_hasEdge_26 ?_
  refine lv_iconst (v := 2) hx hb dX12_hasEdge_27 (by decide) ?_
  refine lv_idiv hx hb dX12_hasEdge_28 (by decide) ?_
  refine lv_iload hx hb dX12_hasEdge_29 (lv_at hl 1 rfl) ?_
  refine lv_iadd hx hb dX12_hasEdge_31 ?_
  refine lv_ishr hx hb dX12_hasEdge_32 ?_
  refine lv_iconst (v := 1) hx hb dX12_hasEdge_33 (by decide) ?_
  refine lv_iand hx hb dX12_hasEdge_34 ?_
  refine lv_iconst (v := 1) hx hb dX12_hasEdge_35 (by decide) ?_
  refine lv_icmp_ne (tgt := 43) hx hb dX12_hasEdge_36 (by decide) (fun c2 => ?_) (fun c2 => ?_)
  · skip
    have h := f_f c2 h
    refine lv_iconst (v := 0) hx hb dX12_hasEdge_43 (by decide) ?_
    obtain rfl := Option.some.inj h
    exact W.zret (v := (0 : Int32)) hx hb hr rfl (q_end hK hP hD hS) hS.2.2 dX12_hasEdge_44
  · skip
    have h := f_t c2 h
    refine lv_iconst (v := 1) hx hb dX12_hasEdge_39 (by decide) ?_
    refine lv_goto (tgt := 44) hx hb dX12_hasEdge_40 (by decide) ?_
    obtain rfl := Option.some.inj h
    exact W.zret (v := (1 : Int32)) hx hb hr rfl (q_end hK hP hD hS) hS.2.2 dX12_hasEdge_44
def rmG_Mp (d : Nat) : Room := { frames := 2 + d, cells := 0, slots := 0, locals := 55 + d * 27 }
set_option maxRecDepth 100000 in
set_option maxHeartbeats 8000000 in
theorem W_X12_puts_L46 {p : Program} {e : Env} {s : State} {m : MethodId} {args : Array Value} {below : List Frame} {meth : Method} {c : Code} {A : Nat → Prop} (l : Launch) (D : va_G) (G : hG) (Z : hZ) (Y : va_W) (F : Nat) (d : Nat) (u_X12_puts : (hSt → Int32 → Int32 → Int32 → Int32 → Option (Int32 × hSt))) (hu_X12_puts : ∀ (σ0 : hSt) (x1 : Int32) (x2 : Int32) (x3 : Int32) (x4 : Int32) (res : (Int32 × hSt)), u_X12_puts σ0 x1 x2 x3 x4 = some res → CT l yX12_puts cX12_puts 8 (some .boolean) (rmG_Mp d) D G 0 0 [.ref (G.2.1 200), .int x1, .int x2, .int x3, .int x4] (mW G Z Y σ0) (mW G Z Y res.2) (some (.int res.1))) (σ0 : hSt) (x1 : Int32) (x2 : Int32) (x3 : Int32) (x4 : Int32) (σ1 : hSt) (y1 : Int32) (y2 : Int32) (y3 : Int32) (y4 : Int32) (y5 : Int32) (res : (Int32 × hSt)) (C0 : Cx p s m args meth c cX12_puts (some .boolean) RX12 8 D G A) (hA : ∀ q : Nat, s.heap.size ≤ q → A q) (k95 : Int32 → Option (Int32 × hSt)) (hk95 : ∀ (z6 : Int32), k95 z6 = some res → ∀ (H : Heap) (locs : List Loc) (ls : Array Slot), va_P D vwCl (mW G Z Y σ1) H → va_D A (mW G Z Y σ1) → va_S A s.heap H locs → lv_has ls 8 [(0, .ref (G.2.1 200)), (1, .int y1), (2, .int y2), (3, .int y3), (4, .int y4), (5, .int y5), (6, .int z6)] → W p l e (rmG_Mp (d + 1)) s m args below meth c H locs 0 0 (MQ below (Qg (some (.int res.1)) D (tysG G) (mW G Z Y res.2) A) args s 0 0 A) (F0 m 95 ls [])) : ∀ (n : Nat) (z6 : Int32) (z7 : Int32), f_X12_puts_L46 Z σ1 y1 y2 y3 y4 y5 k95 n z6 z7 = some res → ∀ (H : Heap) (locs : List Loc) (ls : Array Slot), va_P D vwCl (mW G Z Y σ1) H → va_D A (mW G Z Y σ1) → va_S A s.heap H locs → lv_has ls 8 [(0, .ref (G.2.1 200)), (1, .int y1), (2, .int y2), (3, .int y3), (4, .int y4), (5, .int y5), (6, .int z6), (7, .int z7)] → W p l e (rmG_Mp (d + 1)) s m args below meth c H locs 0 0 (MQ below (Qg (some (.int res.1)) D (tysG G) (mW G Z Y res.2) A) args s 0 0 A) (F0 m 46 ls []) := by
  obtain ⟨hx, hb, hr, hml, hown, hts, hlocks, hK, hE⟩ := id C0
  intro n
  induction n with
  | zero =>
    intro z6 z7 h
    cases h
  | succ n ih =>
    intro z6 z7 h H locs ls hP hD hS hl
    rw [f_X12_puts_L46] at h
    refine lv_iload hx hb dX12_puts_46 (lv_at hl 7 rfl) ?_
    refine lv_iload_n hx hb dX12_puts_48 rfl (lv_at hl 3 rfl) ?_
    refine lv_icmp_ge (tgt := 95) hx hb dX12_puts_49 (by decide) (fun c6 => ?_) (fun c6 => ?_)
    · skip
      have h := f_t c6 h
      exact hk95 z6 h _ _ _ hP hD hS (lv_sub hl [0, 1, 2, 3, 4, 5, 6] rfl)
    · skip
      have h := f_f c6 h
      refine lv_iload hx hb dX12_puts_52 (lv_at hl 6 rfl) ?_
      refine lv_if_eq (tgt := 95) hx hb dX12_puts_54 (by decide) (fun c7 => ?_) (fun c7 => ?_)
      · skip
        have h := f_t c7 h
        exact hk95 z6 h _ _ _ hP hD hS (lv_sub hl [0, 1, 2, 3, 4, 5, 6] rfl)
      · skip
        have h := f_f c7 h
        refine lv_aload_n hx hb dX12_puts_57 rfl (lv_at hl 0 rfl) ?_
        refine lv_iload_n hx hb dX12_puts_58 rfl (lv_at hl 1 rfl) ?_
        refine lv_iload hx hb dX12_puts_59 (lv_at hl 7 rfl) ?_
        refine lv_iload_n hx hb dX12_puts_61 rfl (lv_at hl 3 rfl) ?_
        obtain ⟨q8, hq8, h⟩ := f_b h
        refine cl_V (w := (mW G Z Y σ1)) (w' := (mW G Z Y σ1)) (rv := some (.int q8)) (bytes := cX12_hasEdge) (maxL := 6) (ret := (some .boolean)) (C := RX12) (As := [.int y1, .int z7, .int y3]) (rest := []) (stk := [.int q8]) ⟨hx, hb, hml, hown, hts⟩ hK hE hA hP hD hS (c_X12_hasEdge l D G Z Y σ1 y1 z7 y3 q8 hq8) (cwV 3 hts (gwV wd_1831 wd_1833 wp_101 wd_11 wd_1834) rfl rfl rfl hd_X12_hasEdge ⟨by show 1 + 1 ≤ 2 + (d + 1); omega, by show 8 + (6 + 11) + 30 ≤ 55 + (d + 1) * 27; omega⟩) (mg_200 G Z Y σ1) rfl rfl rfl hl.1 rfl (Nat.le_of_ble_eq_true rfl) dX12_puts_62 ⟨Nat.zero_le _, Nat.zero_le _⟩ rfl (fun H locs hP hD hS => ?_)
        refine lv_aload_n hx hb dX12_puts_65 rfl (lv_at hl 0 rfl) ?_
        refine lv_iload_n hx hb dX12_puts_66 rfl (lv_at hl 2 rfl) ?_
        refine lv_aload_n hx hb dX12_puts_67 rfl (lv_at hl 0 rfl) ?_
        refine va_get (D := D) (ci := 12) (v := .ref (G.2.1 224)) (C := RX12) (T := TX12) (N := 59) hx hb hts inU_X12 hown hK hP _ (mg_200 G Z Y σ1) rfl 56 (by decide) (hts _ wd_1303) (fun _ h9 => h9) rfl dX12_puts_68 ?_
        refine lv_iload hx hb dX12_puts_71 (lv_at hl 7 rfl) ?_
        obtain ⟨c9, h⟩ := f_n h
        refine va_ialdE (v := (σ1.1 224 ((z7 : Int32).toNatClampNeg))) hx hb hK hP _ 0 (mg_224 G Z Y σ1) rfl c9 dX12_puts_73 rfl ?_
        refine lv_iload hx hb dX12_puts_74 (lv_at hl 5 rfl) ?_
        obtain ⟨q10, hq10, h⟩ := f_b h
        refine cl_V (w := (mW G Z Y σ1)) (w' := (mW G Z Y σ1)) (rv := some (.int q10)) (bytes := cX12_hasEdge) (maxL := 6) (ret := (some .boolean)) (C := RX12) (As := [.int y2, .int (σ1.1 224 ((z7 : Int32).toNatClampNeg)), .int y5]) (rest := [.int q8]) (stk := [.int q10, .int q8]) ⟨hx, hb, hml, hown, hts⟩ hK hE hA hP hD hS (c_X12_hasEdge l D G Z Y σ1 y2 (σ1.1 224 ((z7 : Int32).toNatClampNeg)) y5 q10 hq10) (cwV 3 hts (gwV wd_1831 wd_1833 wp_101 wd_11 wd_1834) rfl rfl rfl hd_X12_hasEdge ⟨by show 1 + 1 ≤ 2 + (d + 1); omega, by show 8 + (6 + 11) + 30 ≤ 55 + (d + 1) * 27; omega⟩) (mg_200 G Z Y σ1) rfl rfl rfl hl.1 rfl (Nat.le_of_ble_eq_true rfl) dX12_puts_76 ⟨Nat.zero_le _, Nat.zero_le _⟩ rfl (fun H locs hP hD hS => ?_)
        refine lv_icmp_ne (tgt := 86) hx hb dX12_puts_79 (by decide) (fun c11 => ?_) (fun c11 => ?_)
        · skip
          have h := f_f c11 h
          refine lv_iconst (v := 0) hx hb dX12_puts_86 (by decide) ?_
          refine lv_istore (lv' := [(6, .int (0 : Int32)), (0, .ref (G.2.1 200)), (1, .int y1), (2, .int y2), (3, .int y3), (4, .int y4), (5, .int y5), (7, .int z7)]) hx hb dX12_puts_87 hl (by decide) rfl (fun ls hl => ?_)
          refine lv_iinc (v := (z7 + 1)) (lv' := [(7, .int (z7 + 1)), (6, .int (0 : Int32)), (0, .ref (G.2.1 200)), (1, .int y1), (2, .int y2), (3, .int y3), (4, .int y4), (5, .int y5)]) hx hb dX12_puts_89 hl (k := 7) rfl rfl (by decide) rfl (fun ls hl => ?_)
          refine lv_goto (tgt := 46) hx hb dX12_puts_92 (by decide) ?_
          exact ih (0 : Int32) (z7 + 1) h _ _ _ hP hD hS (lv_sub hl [2, 3, 4, 5, 6, 7, 1, 0] rfl)
        · skip
          have h := f_t c11 h
          refine lv_iconst (v := 1) hx hb dX12_puts_82 (by decide) ?_
          refine lv_goto (tgt := 87) hx hb dX12_puts_83 (by decide) ?_
          refine lv_istore (lv' := [(6, .int (1 : Int32)), (0, .ref (G.2.1 200)), (1, .int y1), (2, .int y2), (3, .int y3), (4, .int y4), (5, .int y5), (7, .int z7)]) hx hb dX12_puts_87 hl (by decide) rfl (fun ls hl => ?_)
          refine lv_iinc (v := (z7 + 1)) (lv' := [(7, .int (z7 + 1)), (6, .int (1 : Int32)), (0, .ref (G.2.1 200)), (1, .int y1), (2, .int y2), (3, .int y3), (4, .int y4), (5, .int y5)]) hx hb dX12_puts_89 hl (k := 7) rfl rfl (by decide) rfl (fun ls hl => ?_)
          refine lv_goto (tgt := 46) hx hb dX12_puts_92 (by decide) ?_
          exact ih (1 : Int32) (z7 + 1) h _ _ _ hP hD hS (lv_sub hl [2, 3, 4, 5, 6, 7, 1, 0] rfl)
set_option maxRecDepth 100000 in
set_option maxHeartbeats 8000000 in
theorem W_X12_puts_L15 {p : Program} {e : Env} {s : State} {m : MethodId} {args : Array Value} {below : List Frame} {meth : Method} {c : Code} {A : Nat → Prop} (l : Launch) (D : va_G) (G : hG) (Z : hZ) (Y : va_W) (F : Nat) (d : Nat) (u_X12_puts : (hSt → Int32 → Int32 → Int32 → Int32 → Option (Int32 × hSt))) (hu_X12_puts : ∀ (σ0 : hSt) (x1 : Int32) (x2 : Int32) (x3 : Int32) (x4 : Int32) (res : (Int32 × hSt)), u_X12_puts σ0 x1 x2 x3 x4 = some res → CT l yX12_puts cX12_puts 8 (some .boolean) (rmG_Mp d) D G 0 0 [.ref (G.2.1 200), .int x1, .int x2, .int x3, .int x4] (mW G Z Y σ0) (mW G Z Y res.2) (some (.int res.1))) (σ0 : hSt) (x1 : Int32) (x2 : Int32) (x3 : Int32) (x4 : Int32) (y1 : Int32) (y2 : Int32) (y3 : Int32) (y4 : Int32) (res : (Int32 × hSt)) (C0 : Cx p s m args meth c cX12_puts (some .boolean) RX12 8 D G A) (hA : ∀ q : Nat, s.heap.size ≤ q → A q) : ∀ (n : Nat) (σ1 : hSt) (z5 : Int32), f_X12_puts_L15 F Z u_X12_puts y1 y2 y3 y4 n σ1 z5 = some res → ∀ (H : Heap) (locs : List Loc) (ls : Array Slot), va_P D vwCl (mW G Z Y σ1) H → va_D A (mW G Z Y σ1) → va_S A s.heap H locs → lv_has ls 8 [(0, .ref (G.2.1 200)), (1, .int y1), (2, .int y2), (3, .int y3), (4, .int y4), (5, .int z5)] → W p l e (rmG_Mp (d + 1)) s m args below meth c H locs 0 0 (MQ below (Qg (some (.int res.1)) D (tysG G) (mW G Z Y res.2) A) args s 0 0 A) (F0 m 15 ls []) := by
  obtain ⟨hx, hb, hr, hml, hown, hts, hlocks, hK, hE⟩ := id C0
  intro n
  induction n with
  | zero =>
    intro σ1 z5 h
    cases h
  | succ n ih =>
    intro σ1 z5 h H locs ls hP hD hS hl
    rw [f_X12_puts_L15] at h
    refine lv_iload hx hb dX12_puts_15 (lv_at hl 5 rfl) ?_
    refine lv_aload_n hx hb dX12_puts_17 rfl (lv_at hl 0 rfl) ?_
    refine va_get (D := D) (ci := 12) (v := .ref (G.2.1 222)) (C := RX12) (T := TX12) (N := 59) hx hb hts inU_X12 hown hK hP _ (mg_200 G Z Y σ1) rfl 54 (by decide) (hts _ wd_1301) (fun _ h9 => h9) rfl dX12_puts_18 ?_
    refine lv_iload_n hx hb dX12_puts_21 rfl (lv_at hl 1 rfl) ?_
    obtain ⟨c3, h⟩ := f_n h
    refine va_ialdE (v := (σ1.1 222 ((y1 : Int32).toNatClampNeg))) hx hb hK hP _ 0 (mg_222 G Z Y σ1) rfl c3 dX12_puts_22 rfl ?_
    refine lv_icmp_ge (tgt := 135) hx hb dX12_puts_23 (by decide) (fun c4 => ?_) (fun c4 => ?_)
    · skip
      have h := f_t c4 h
      refine lv_iconst (v := 0) hx hb dX12_puts_135 (by decide) ?_
      obtain rfl := Option.some.inj h
      exact W.zret (v := (0 : Int32)) hx hb hr rfl (q_end hK hP hD hS) hS.2.2 dX12_puts_136
    · skip
      have h := f_f c4 h
      refine lv_iload hx hb dX12_puts_26 (lv_at hl 4 rfl) ?_
      refine lv_iload hx hb dX12_puts_28 (lv_at hl 5 rfl) ?_
      refine lv_ishr hx hb dX12_puts_30 ?_
      refine lv_iconst (v := 1) hx hb dX12_puts_31 (by decide) ?_
      refine lv_iand hx hb dX12_puts_32 ?_
      refine lv_if_ne (tgt := 40) hx hb dX12_puts_33 (by decide) (fun c5 => ?_) (fun c5 => ?_)
      · skip
        have h := f_f c5 h
        refine lv_iconst (v := 0) hx hb dX12_puts_40 (by decide) ?_
        refine lv_istore (lv' := [(6, .int (0 : Int32)), (0, .ref (G.2.1 200)), (1, .int y1), (2, .int y2), (3, .int y3), (4, .int y4), (5, .int z5)]) hx hb dX12_puts_41 hl (by decide) rfl (fun ls hl => ?_)
        refine lv_iconst (v := 0) hx hb dX12_puts_43 (by decide) ?_
        refine lv_istore (lv' := [(7, .int (0 : Int32)), (6, .int (0 : Int32)), (0, .ref (G.2.1 200)), (1, .int y1), (2, .int y2), (3, .int y3), (4, .int y4), (5, .int z5)]) hx hb dX12_puts_44 hl (by decide) rfl (fun ls hl => ?_)
        refine W_X12_puts_L46 l D G Z Y F d u_X12_puts hu_X12_puts σ0 x1 x2 x3 x4 σ1 y1 y2 y3 y4 z5 res C0 hA _ ?_ F (0 : Int32) (0 : Int32) h _ _ _ hP hD hS (lv_sub hl [2, 3, 4, 5, 6, 7, 1, 0] rfl)
        · intro z6 h H locs ls hP hD hS hl
          refine lv_aload_n hx hb dX12_puts_95 rfl (lv_at hl 0 rfl) ?_
          refine va_get (D := D) (ci := 12) (v := .ref (G.2.1 224)) (C := RX12) (T := TX12) (N := 59) hx hb hts inU_X12 hown hK hP _ (mg_200 G Z Y σ1) rfl 56 (by decide) (hts _ wd_1303) (fun _ h9 => h9) rfl dX12_puts_96 ?_
          refine lv_iload_n hx hb dX12_puts_99 rfl (lv_at hl 3 rfl) ?_
          refine lv_iload hx hb dX12_puts_100 (lv_at hl 5 rfl) ?_
          obtain ⟨c12, h⟩ := f_n h
          refine va_iast hx hb hK hP hD hS _ 0 (mg_224 G Z Y σ1) rfl c12 dX12_puts_102 (fun H locs hP hD hS => ?_)
          have hP := wrP (mp_224 G Z Y σ1 _ _) hP
          have hD := wrD (mp_224 G Z Y σ1 _ _) hD
          refine lv_iload hx hb dX12_puts_103 (lv_at hl 6 rfl) ?_
          refine lv_if_eq (tgt := 129) hx hb dX12_puts_105 (by decide) (fun c13 => ?_) (fun c13 => ?_)
          · skip
            have h := f_t c13 h
            refine lv_iinc (v := (z5 + 1)) (lv' := [(5, .int (z5 + 1)), (0, .ref (G.2.1 200)), (1, .int y1), (2, .int y2), (3, .int y3), (4, .int y4), (6, .int z6)]) hx hb dX12_puts_129 hl (k := 5) rfl rfl (by decide) rfl (fun ls hl => ?_)
            refine lv_goto (tgt := 15) hx hb dX12_puts_132 (by decide) ?_
            exact ih (sI σ1 224 ((y3 : Int32).toNatClampNeg) z5) (z5 + 1) h _ _ _ hP hD hS (lv_sub hl [1, 2, 3, 4, 5, 0] rfl)
          · skip
            have h := f_f c13 h
            refine lv_aload_n hx hb dX12_puts_108 rfl (lv_at hl 0 rfl) ?_
            refine lv_iload_n hx hb dX12_puts_109 rfl (lv_at hl 1 rfl) ?_
            refine lv_iload_n hx hb dX12_puts_110 rfl (lv_at hl 2 rfl) ?_
            refine lv_iload_n hx hb dX12_puts_111 rfl (lv_at hl 3 rfl) ?_
            refine lv_iconst (v := 1) hx hb dX12_puts_112 (by decide) ?_
            refine lv_iadd hx hb dX12_puts_113 ?_
            refine lv_iload hx hb dX12_puts_114 (lv_at hl 4 rfl) ?_
            refine lv_iconst (v := 1) hx hb dX12_puts_116 (by decide) ?_
            refine lv_iload hx hb dX12_puts_117 (lv_at hl 5 rfl) ?_
            refine lv_ishl hx hb dX12_puts_119 ?_
            refine lv_ior hx hb dX12_puts_120 ?_
            obtain ⟨q14, hq14, h⟩ := f_b h
            refine cl_V (w := (mW G Z Y (sI σ1 224 ((y3 : Int32).toNatClampNeg) z5))) (w' := (mW G Z Y q14.2)) (rv := some (.int q14.1)) (bytes := cX12_puts) (maxL := 8) (ret := (some .boolean)) (C := RX12) (As := [.int y1, .int y2, .int (y3 + (1 : Int32)), .int (y4 ||| ((1 : Int32) <<< (z5 &&& 31)))]) (rest := []) (stk := [.int q14.1]) ⟨hx, hb, hml, hown, hts⟩ hK hE hA hP hD hS (hu_X12_puts (sI σ1 224 ((y3 : Int32).toNatClampNeg) z5) y1 y2 (y3 + (1 : Int32)) (y4 ||| ((1 : Int32) <<< (z5 &&& 31))) q14 hq14) (cwV 4 hts (gwV wd_1827 wd_1829 wp_100 wd_11 wd_1830) rfl rfl rfl hd_X12_puts ⟨by show 2 + d + 1 ≤ 2 + (d + 1); omega, by show 8 + (8 + 11) + (55 + d * 27) ≤ 55 + (d + 1) * 27; omega⟩) (mg_200 G Z Y (sI σ1 224 ((y3 : Int32).toNatClampNeg) z5)) rfl rfl rfl hl.1 rfl (Nat.le_of_ble_eq_true rfl) dX12_puts_121 ⟨Nat.zero_le _, Nat.zero_le _⟩ rfl (fun H locs hP hD hS => ?_)
            refine lv_if_eq (tgt := 129) hx hb dX12_puts_124 (by decide) (fun c15 => ?_) (fun c15 => ?_)
            · skip
              have h := f_t c15 h
              refine lv_iinc (v := (z5 + 1)) (lv' := [(5, .int (z5 + 1)), (0, .ref (G.2.1 200)), (1, .int y1), (2, .int y2), (3, .int y3), (4, .int y4), (6, .int z6)]) hx hb dX12_puts_129 hl (k := 5) rfl rfl (by decide) rfl (fun ls hl => ?_)
              refine lv_goto (tgt := 15) hx hb dX12_puts_132 (by decide) ?_
              exact ih q14.2 (z5 + 1) h _ _ _ hP hD hS (lv_sub hl [1, 2, 3, 4, 5, 0] rfl)
            · skip
              have h := f_f c15 h
              refine lv_iconst (v := 1) hx hb dX12_puts_127 (by decide) ?_
              obtain rfl := Option.some.inj h
              exact W.zret (v := (1 : Int32)) hx hb hr rfl (q_end hK hP hD hS) hS.2.2 dX12_puts_128
      · skip
        have h := f_t c5 h
        refine lv_iconst (v := 1) hx hb dX12_puts_36 (by decide) ?_
        refine lv_goto (tgt := 41) hx hb dX12_puts_37 (by decide) ?_
        refine lv_istore (lv' := [(6, .int (1 : Int32)), (0, .ref (G.2.1 200)), (1, .int y1), (2, .int y2), (3, .int y3), (4, .int y4), (5, .int z5)]) hx hb dX12_puts_41 hl (by decide) rfl (fun ls hl => ?_)
        refine lv_iconst (v := 0) hx hb dX12_puts_43 (by decide) ?_
        refine lv_istore (lv' := [(7, .int (0 : Int32)), (6, .int (1 : Int32)), (0, .ref (G.2.1 200)), (1, .int y1), (2, .int y2), (3, .int y3), (4, .int y4), (5, .int z5)]) hx hb dX12_puts_44 hl (by decide) rfl (fun ls hl => ?_)
        refine W_X12_puts_L46 l D G Z Y F d u_X12_puts hu_X12_puts σ0 x1 x2 x3 x4 σ1 y1 y2 y3 y4 z5 res C0 hA _ ?_ F (1 : Int32) (0 : Int32) h _ _ _ hP hD hS (lv_sub hl [2, 3, 4, 5, 6, 7, 1, 0] rfl)
        · intro z6 h H locs ls hP hD hS hl
          refine lv_aload_n hx hb dX12_puts_95 rfl (lv_at hl 0 rfl) ?_
          refine va_get (D := D) (ci := 12) (v := .ref (G.2.1 224)) (C := RX12) (T := TX12) (N := 59) hx hb hts inU_X12 hown hK hP _ (mg_200 G Z Y σ1) rfl 56 (by decide) (hts _ wd_1303) (fun _ h9 => h9) rfl dX12_puts_96 ?_
          refine lv_iload_n hx hb dX12_puts_99 rfl (lv_at hl 3 rfl) ?_
          refine lv_iload hx hb dX12_puts_100 (lv_at hl 5 rfl) ?_
          obtain ⟨c16, h⟩ := f_n h
          refine va_iast hx hb hK hP hD hS _ 0 (mg_224 G Z Y σ1) rfl c16 dX12_puts_102 (fun H locs hP hD hS => ?_)
          have hP := wrP (mp_224 G Z Y σ1 _ _) hP
          have hD := wrD (mp_224 G Z Y σ1 _ _) hD
          refine lv_iload hx hb dX12_puts_103 (lv_at hl 6 rfl) ?_
          refine lv_if_eq (tgt := 129) hx hb dX12_puts_105 (by decide) (fun c17 => ?_) (fun c17 => ?_)
          · skip
            have h := f_t c17 h
            refine lv_iinc (v := (z5 + 1)) (lv' := [(5, .int (z5 + 1)), (0, .ref (G.2.1 200)), (1, .int y1), (2, .int y2), (3, .int y3), (4, .int y4), (6, .int z6)]) hx hb dX12_puts_129 hl (k := 5) rfl rfl (by decide) rfl (fun ls hl => ?_)
            refine lv_goto (tgt := 15) hx hb dX12_puts_132 (by decide) ?_
            exact ih (sI σ1 224 ((y3 : Int32).toNatClampNeg) z5) (z5 + 1) h _ _ _ hP hD hS (lv_sub hl [1, 2, 3, 4, 5, 0] rfl)
          · skip
            have h := f_f c17 h
            refine lv_aload_n hx hb dX12_puts_108 rfl (lv_at hl 0 rfl) ?_
            refine lv_iload_n hx hb dX12_puts_109 rfl (lv_at hl 1 rfl) ?_
            refine lv_iload_n hx hb dX12_puts_110 rfl (lv_at hl 2 rfl) ?_
            refine lv_iload_n hx hb dX12_puts_111 rfl (lv_at hl 3 rfl) ?_
            refine lv_iconst (v := 1) hx hb dX12_puts_112 (by decide) ?_
            refine lv_iadd hx hb dX12_puts_113 ?_
            refine lv_iload hx hb dX12_puts_114 (lv_at hl 4 rfl) ?_
            refine lv_iconst (v := 1) hx hb dX12_puts_116 (by decide) ?_
            refine lv_iload hx hb dX12_puts_117 (lv_at hl 5 rfl) ?_
            refine lv_ishl hx hb dX12_puts_119 ?_
            refine lv_ior hx hb dX12_puts_120 ?_
            obtain ⟨q18, hq18, h⟩ := f_b h
            refine cl_V (w := (mW G Z Y (sI σ1 224 ((y3 : Int32).toNatClampNeg) z5))) (w' := (mW G Z Y q18.2)) (rv := some (.int q18.1)) (bytes := cX12_puts) (maxL := 8) (ret := (some .boolean)) (C := RX12) (As := [.int y1, .int y2, .int (y3 + (1 : Int32)), .int (y4 ||| ((1 : Int32) <<< (z5 &&& 31)))]) (rest := []) (stk := [.int q18.1]) ⟨hx, hb, hml, hown, hts⟩ hK hE hA hP hD hS (hu_X12_puts (sI σ1 224 ((y3 : Int32).toNatClampNeg) z5) y1 y2 (y3 + (1 : Int32)) (y4 ||| ((1 : Int32) <<< (z5 &&& 31))) q18 hq18) (cwV 4 hts (gwV wd_1827 wd_1829 wp_100 wd_11 wd_1830) rfl rfl rfl hd_X12_puts ⟨by show 2 + d + 1 ≤ 2 + (d + 1); omega, by show 8 + (8 + 11) + (55 + d * 27) ≤ 55 + (d + 1) * 27; omega⟩) (mg_200 G Z Y (sI σ1 224 ((y3 : Int32).toNatClampNeg) z5)) rfl rfl rfl hl.1 rfl (Nat.le_of_ble_eq_true rfl) dX12_puts_121 ⟨Nat.zero_le _, Nat.zero_le _⟩ rfl (fun H locs hP hD hS => ?_)
            refine lv_if_eq (tgt := 129) hx hb dX12_puts_124 (by decide) (fun c19 => ?_) (fun c19 => ?_)
            · skip
              have h := f_t c19 h
              refine lv_iinc (v := (z5 + 1)) (lv' := [(5, .int (z5 + 1)), (0, .ref (G.2.1 200)), (1, .int y1), (2, .int y2), (3, .int y3), (4, .int y4), (6, .int z6)]) hx hb dX12_puts_129 hl (k := 5) rfl rfl (by decide) rfl (fun ls hl => ?_)
              refine lv_goto (tgt := 15) hx hb dX12_puts_132 (by decide) ?_
              exact ih q18.2 (z5 + 1) h _ _ _ hP hD hS (lv_sub hl [1, 2, 3, 4, 5, 0] rfl)
            · skip
              have h := f_f c19 h
              refine lv_iconst (v := 1) hx hb dX12_puts_127 (by decide) ?_
              obtain rfl := Option.some.inj h
              exact W.zret (v := (1 : Int32)) hx hb hr rfl (q_end hK hP hD hS) hS.2.2 dX12_puts_128
set_option maxRecDepth 100000 in
set_option maxHeartbeats 8000000 in
theorem o_X12_puts (l : Launch) (D : va_G) (G : hG) (Z : hZ) (Y : va_W) (F : Nat) (d : Nat) (u_X12_puts : (hSt → Int32 → Int32 → Int32 → Int32 → Option (Int32 × hSt))) (hu_X12_puts : ∀ (σ0 : hSt) (x1 : Int32) (x2 : Int32) (x3 : Int32) (x4 : Int32) (res : (Int32 × hSt)), u_X12_puts σ0 x1 x2 x3 x4 = some res → CT l yX12_puts cX12_puts 8 (some .boolean) (rmG_Mp d) D G 0 0 [.ref (G.2.1 200), .int x1, .int x2, .int x3, .int x4] (mW G Z Y σ0) (mW G Z Y res.2) (some (.int res.1))) (σ0 : hSt) (x1 : Int32) (x2 : Int32) (x3 : Int32) (x4 : Int32) (res : (Int32 × hSt)) (h : b_X12_puts F Z u_X12_puts σ0 x1 x2 x3 x4 = some res) : CT l yX12_puts cX12_puts 8 (some .boolean) (rmG_Mp (d + 1)) D G 0 0 [.ref (G.2.1 200), .int x1, .int x2, .int x3, .int x4] (mW G Z Y σ0) (mW G Z Y res.2) (some (.int res.1)) := by
  unfold b_X12_puts at h
  refine CT.mk (cc := cX12_puts) (maxL := 8) (ret := (some .boolean)) (own := RX12) (plainFor_of_name (by decide)) rfl (Nat.le_of_ble_eq_true rfl) ?_
  intro p e s m args below meth c A ls C0 hnm hA hP hD hl
  obtain ⟨hx, hb, hr, hml, hown, hts, hlocks, hK, hE⟩ := id C0
  have hS : va_S A s.heap s.heap [] := va_S.rf
  have hl : lv_has ls 8 [(0, .ref (G.2.1 200)), (1, .int x1), (2, .int x2), (3, .int x3), (4, .int x4)] := hl
  refine lv_iload_n hx hb dX12_puts_0 rfl (lv_at hl 3 rfl) ?_
  refine lv_aload_n hx hb dX12_puts_1 rfl (lv_at hl 0 rfl) ?_
  refine va_get (D := D) (ci := 12) (v := .ref (G.2.1 222)) (C := RX12) (T := TX12) (N := 59) hx hb hts inU_X12 hown hK hP _ (mg_200 G Z Y σ0) rfl 54 (by decide) (hts _ wd_1301) (fun _ h9 => h9) rfl dX12_puts_2 ?_
  refine lv_iload_n hx hb dX12_puts_5 rfl (lv_at hl 1 rfl) ?_
  obtain ⟨c1, h⟩ := f_n h
  refine va_ialdE (v := (σ0.1 222 ((x1 : Int32).toNatClampNeg))) hx hb hK hP _ 0 (mg_222 G Z Y σ0) rfl c1 dX12_puts_6 rfl ?_
  refine lv_icmp_ne (tgt := 12) hx hb dX12_puts_7 (by decide) (fun c2 => ?_) (fun c2 => ?_)
  · skip
    have h := f_f c2 h
    refine lv_iconst (v := 0) hx hb dX12_puts_12 (by decide) ?_
    refine lv_istore (lv' := [(5, .int (0 : Int32)), (0, .ref (G.2.1 200)), (1, .int x1), (2, .int x2), (3, .int x3), (4, .int x4)]) hx hb dX12_puts_13 hl (by decide) rfl (fun ls hl => ?_)
    refine W_X12_puts_L15 l D G Z Y F d u_X12_puts hu_X12_puts σ0 x1 x2 x3 x4 x1 x2 x3 x4 res C0 hA F σ0 (0 : Int32) h _ _ _ hP hD hS (lv_sub hl [1, 2, 3, 4, 5, 0] rfl)
  · skip
    have h := f_t c2 h
    refine lv_iconst (v := 1) hx hb dX12_puts_10 (by decide) ?_
    obtain rfl := Option.some.inj h
    exact W.zret (v := (1 : Int32)) hx hb hr rfl (q_end hK hP hD hS) hS.2.2 dX12_puts_11
set_option maxRecDepth 100000 in
set_option maxHeartbeats 8000000 in
theorem c_G_Mp (l : Launch) (D : va_G) (G : hG) (Z : hZ) (Y : va_W) (F : Nat) : ∀ d : Nat, (∀ (σ0 : hSt) (x1 : Int32) (x2 : Int32) (x3 : Int32) (x4 : Int32) (res : (Int32 × hSt)), (G_Mp F Z d) σ0 x1 x2 x3 x4 = some res → CT l yX12_puts cX12_puts 8 (some .boolean) (rmG_Mp d) D G 0 0 [.ref (G.2.1 200), .int x1, .int x2, .int x3, .int x4] (mW G Z Y σ0) (mW G Z Y res.2) (some (.int res.1))) := by
  intro d
  induction d with
  | zero =>
    exact fun σ0 x1 x2 x3 x4 res h => by
        have h1 : (none : Option (Int32 × hSt)) = some res := h
        cases h1
  | succ d ih =>
    have i_X12_puts := ih
    exact fun σ0 x1 x2 x3 x4 res h => o_X12_puts l D G Z Y F d _ i_X12_puts σ0 x1 x2 x3 x4 res h
abbrev rm_X12_puts : Room := rmG_Mp 8
theorem c_X12_puts (l : Launch) (D : va_G) (G : hG) (Z : hZ) (Y : va_W) (σ0 : hSt) (F : Nat) (x1 : Int32) (x2 : Int32) (x3 : Int32) (x4 : Int32) (res : (Int32 × hSt)) (h : f_X12_puts F Z σ0 x1 x2 x3 x4 = some res) : CT l yX12_puts cX12_puts 8 (some .boolean) rm_X12_puts D G 0 0 [.ref (G.2.1 200), .int x1, .int x2, .int x3, .int x4] (mW G Z Y σ0) (mW G Z Y res.2) (some (.int res.1)) := (c_G_Mp l D G Z Y F 8) σ0 x1 x2 x3 x4 res h
abbrev rm_X12_areAlike : Room := { frames := 11, cells := 0, slots := 0, locals := 298 }
set_option maxRecDepth 100000 in
set_option maxHeartbeats 8000000 in
theorem c_X12_areAlike (l : Launch) (D : va_G) (G : hG) (Z : hZ) (Y : va_W) (σ0 : hSt) (F : Nat) (x1 : Int32) (x2 : Int32) (res : (Int32 × hSt)) (h : f_X12_areAlike F Z σ0 x1 x2 = some res) : CT l yX12_areAlike cX12_areAlike 3 (some .boolean) rm_X12_areAlike D G 0 0 [.ref (G.2.1 200), .int x1, .int x2] (mW G Z Y σ0) (mW G Z Y res.2) (some (.int res.1)) := by
  unfold f_X12_areAlike at h
  refine CT.mk (cc := cX12_areAlike) (maxL := 3) (ret := (some .boolean)) (own := RX12) (plainFor_of_name (by decide)) rfl (Nat.le_of_ble_eq_true rfl) ?_
  intro p e s m args below meth c A ls C0 hnm hA hP hD hl
  obtain ⟨hx, hb, hr, hml, hown, hts, hlocks, hK, hE⟩ := id C0
  have hS : va_S A s.heap s.heap [] := va_S.rf
  have hl : lv_has ls 3 [(0, .ref (G.2.1 200)), (1, .int x1), (2, .int x2)] := hl
  refine lv_aload_n hx hb dX12_areAlike_0 rfl (lv_at hl 0 rfl) ?_
  refine va_get (D := D) (ci := 12) (v := .ref (G.2.1 222)) (C := RX12) (T := TX12) (N := 59) hx hb hts inU_X12 hown hK hP _ (mg_200 G Z Y σ0) rfl 54 (by decide) (hts _ wd_1301) (fun _ h9 => h9) rfl dX12_areAlike_1 ?_
  refine lv_iload_n hx hb dX12_areAlike_4 rfl (lv_at hl 1 rfl) ?_
  obtain ⟨c1, h⟩ := f_n h
  refine va_ialdE (v := (σ0.1 222 ((x1 : Int32).toNatClampNeg))) hx hb hK hP _ 0 (mg_222 G Z Y σ0) rfl c1 dX12_areAlike_5 rfl ?_
  refine lv_aload_n hx hb dX12_areAlike_6 rfl (lv_at hl 0 rfl) ?_
  refine va_get (D := D) (ci := 12) (v := .ref (G.2.1 222)) (C := RX12) (T := TX12) (N := 59) hx hb hts inU_X12 hown hK hP _ (mg_200 G Z Y σ0) rfl 54 (by decide) (hts _ wd_1301) (fun _ h9 => h9) rfl dX12_areAlike_7 ?_
  refine lv_iload_n hx hb dX12_areAlike_10 rfl (lv_at hl 2 rfl) ?_
  obtain ⟨c2, h⟩ := f_n h
  refine va_ialdE (v := (σ0.1 222 ((x2 : Int32).toNatClampNeg))) hx hb hK hP _ 0 (mg_222 G Z Y σ0) rfl c2 dX12_areAlike_11 rfl ?_
  refine lv_icmp_ne (tgt := 30) hx hb dX12_areAlike_12 (by decide) (fun c3 => ?_) (fun c3 => ?_)
  · skip
    have h := f_f c3 h
    refine lv_iconst (v := 0) hx hb dX12_areAlike_30 (by decide) ?_
    obtain rfl := Option.some.inj h
    exact W.zret (v := (0 : Int32)) hx hb hr rfl (q_end hK hP hD hS) hS.2.2 dX12_areAlike_31
  · skip
    have h := f_t c3 h
    refine lv_aload_n hx hb dX12_areAlike_15 rfl (lv_at hl 0 rfl) ?_
    refine lv_iload_n hx hb dX12_areAlike_16 rfl (lv_at hl 1 rfl) ?_
    refine lv_iload_n hx hb dX12_areAlike_17 rfl (lv_at hl 2 rfl) ?_
    refine lv_iconst (v := 0) hx hb dX12_areAlike_18 (by decide) ?_
    refine lv_iconst (v := 0) hx hb dX12_areAlike_19 (by decide) ?_
    obtain ⟨q4, hq4, h⟩ := f_b h
    refine cl_V (w := (mW G Z Y σ0)) (w' := (mW G Z Y q4.2)) (rv := some (.int q4.1)) (bytes := cX12_puts) (maxL := 8) (ret := (some .boolean)) (C := RX12) (As := [.int x1, .int x2, .int (0 : Int32), .int (0 : Int32)]) (rest := []) (stk := [.int q4.1]) ⟨hx, hb, hml, hown, hts⟩ hK hE hA hP hD hS (c_X12_puts l D G Z Y σ0 F x1 x2 (0 : Int32) (0 : Int32) q4 hq4) (cwV 4 hts (gwV wd_1827 wd_1829 wp_100 wd_11 wd_1830) rfl rfl rfl hd_X12_puts ⟨Nat.le_of_ble_eq_true rfl, Nat.le_of_ble_eq_true rfl⟩) (mg_200 G Z Y σ0) rfl rfl rfl hl.1 rfl (Nat.le_of_ble_eq_true rfl) dX12_areAlike_20 ⟨Nat.zero_le _, Nat.zero_le _⟩ rfl (fun H locs hP hD hS => ?_)
    refine lv_if_eq (tgt := 30) hx hb dX12_areAlike_23 (by decide) (fun c5 => ?_) (fun c5 => ?_)
    · skip
      have h := f_t c5 h
      refine lv_iconst (v := 0) hx hb dX12_areAlike_30 (by decide) ?_
      obtain rfl := Option.some.inj h
      exact W.zret (v := (0 : Int32)) hx hb hr rfl (q_end hK hP hD hS) hS.2.2 dX12_areAlike_31
    · skip
      have h := f_f c5 h
      refine lv_iconst (v := 1) hx hb dX12_areAlike_26 (by decide) ?_
      refine lv_goto (tgt := 31) hx hb dX12_areAlike_27 (by decide) ?_
      obtain rfl := Option.some.inj h
      exact W.zret (v := (1 : Int32)) hx hb hr rfl (q_end hK hP hD hS) hS.2.2 dX12_areAlike_31
abbrev rm_X12_alike : Room := { frames := 12, cells := 0, slots := 0, locals := 320 }
set_option maxRecDepth 100000 in
set_option maxHeartbeats 8000000 in
theorem c_X12_alike (l : Launch) (D : va_G) (G : hG) (Z : hZ) (Y : va_W) (σ0 : hSt) (F : Nat) (x1 : Int32) (x2 : Int32) (res : (Int32 × hSt)) (h : f_X12_alike F Z σ0 x1 x2 = some res) : CT l yX12_alike cX12_alike 3 (some .int) rm_X12_alike D G 0 0 [.ref (G.2.1 200), .int x1, .int x2] (mW G Z Y σ0) (mW G Z Y res.2) (some (.int res.1)) := by
  unfold f_X12_alike at h
  refine CT.mk (cc := cX12_alike) (maxL := 3) (ret := (some .int)) (own := RX12) (plainFor_of_name (by decide)) rfl (Nat.le_of_ble_eq_true rfl) ?_
  intro p e s m args below meth c A ls C0 hnm hA hP hD hl
  obtain ⟨hx, hb, hr, hml, hown, hts, hlocks, hK, hE⟩ := id C0
  have hS : va_S A s.heap s.heap [] := va_S.rf
  have hl : lv_has ls 3 [(0, .ref (G.2.1 200)), (1, .int x1), (2, .int x2)] := hl
  refine lv_aload_n hx hb dX12_alike_0 rfl (lv_at hl 0 rfl) ?_
  refine lv_iconst (v := 0) hx hb dX12_alike_1 (by decide) ?_
  refine va_put (D := D) (ci := 12) (v := .int (0 : Int32)) (ty := .int) (C := RX12) (T := TX12) (N := 59) hx hb hts inU_X12 tyX12 tyX12_ok nmX12 hown hK hP hD hS _ (mg_200 G Z Y σ0) rfl 0 (by decide) (hts _ wd_1248) (fun _ h9 => h9) rfl (by decide +kernel) rfl rfl (Nat.le_of_ble_eq_true rfl) dX12_alike_2 (fun H locs hP hD hS => ?_)
  have hP := wrP (mp_200_0 G Z Y σ0 (0 : Int32)) hP
  have hD := wrD (mp_200_0 G Z Y σ0 (0 : Int32)) hD
  refine lv_aload_n hx hb dX12_alike_5 rfl (lv_at hl 0 rfl) ?_
  refine lv_iload_n hx hb dX12_alike_6 rfl (lv_at hl 1 rfl) ?_
  obtain ⟨q1, hq1, h⟩ := f_b h
  refine cl_V (w := (mW G Z Y (sI σ0 200 0 (0 : Int32)))) (w' := (mW G Z Y (sI σ0 200 0 (0 : Int32)))) (rv := some (.int q1)) (bytes := cX12_isNet) (maxL := 2) (ret := (some .boolean)) (C := RX12) (As := [.int x1]) (rest := []) (stk := [.int q1]) ⟨hx, hb, hml, hown, hts⟩ hK hE hA hP hD hS (c_X12_isNet l D G Z Y (sI σ0 200 0 (0 : Int32)) x1 q1 hq1) (cwV 1 hts (gwV wd_1819 wd_1821 wp_98 wd_11 wd_1822) rfl rfl rfl hd_X12_isNet ⟨Nat.le_of_ble_eq_true rfl, Nat.le_of_ble_eq_true rfl⟩) (mg_200 G Z Y (sI σ0 200 0 (0 : Int32))) rfl rfl rfl hl.1 rfl (Nat.le_of_ble_eq_true rfl) dX12_alike_7 ⟨Nat.zero_le _, Nat.zero_le _⟩ rfl (fun H locs hP hD hS => ?_)
  refine lv_if_eq (tgt := 21) hx hb dX12_alike_10 (by decide) (fun c2 => ?_) (fun c2 => ?_)
  · skip
    have h := f_t c2 h
    refine lv_iconst (v := (-1)) hx hb dX12_alike_21 (by decide) ?_
    refine lv_goto (tgt := 39) hx hb dX12_alike_22 (by decide) ?_
    obtain rfl := Option.some.inj h
    exact W.iret (v := (-1 : Int32)) hx hb hr (q_end hK hP hD hS) hS.2.2 dX12_alike_39
  · skip
    have h := f_f c2 h
    refine lv_aload_n hx hb dX12_alike_13 rfl (lv_at hl 0 rfl) ?_
    refine lv_iload_n hx hb dX12_alike_14 rfl (lv_at hl 2 rfl) ?_
    obtain ⟨q3, hq3, h⟩ := f_b h
    refine cl_V (w := (mW G Z Y (sI σ0 200 0 (0 : Int32)))) (w' := (mW G Z Y (sI σ0 200 0 (0 : Int32)))) (rv := some (.int q3)) (bytes := cX12_isNet) (maxL := 2) (ret := (some .boolean)) (C := RX12) (As := [.int x2]) (rest := []) (stk := [.int q3]) ⟨hx, hb, hml, hown, hts⟩ hK hE hA hP hD hS (c_X12_isNet l D G Z Y (sI σ0 200 0 (0 : Int32)) x2 q3 hq3) (cwV 1 hts (gwV wd_1819 wd_1821 wp_98 wd_11 wd_1822) rfl rfl rfl hd_X12_isNet ⟨Nat.le_of_ble_eq_true rfl, Nat.le_of_ble_eq_true rfl⟩) (mg_200 G Z Y (sI σ0 200 0 (0 : Int32))) rfl rfl rfl hl.1 rfl (Nat.le_of_ble_eq_true rfl) dX12_alike_15 ⟨Nat.zero_le _, Nat.zero_le _⟩ rfl (fun H locs hP hD hS => ?_)
    refine lv_if_ne (tgt := 25) hx hb dX12_alike_18 (by decide) (fun c4 => ?_) (fun c4 => ?_)
    · skip
      have h := f_f c4 h
      refine lv_aload_n hx hb dX12_alike_25 rfl (lv_at hl 0 rfl) ?_
      refine lv_iload_n hx hb dX12_alike_26 rfl (lv_at hl 1 rfl) ?_
      refine lv_iload_n hx hb dX12_alike_27 rfl (lv_at hl 2 rfl) ?_
      obtain ⟨q5, hq5, h⟩ := f_b h
      refine cl_V (w := (mW G Z Y (sI σ0 200 0 (0 : Int32)))) (w' := (mW G Z Y q5.2)) (rv := some (.int q5.1)) (bytes := cX12_areAlike) (maxL := 3) (ret := (some .boolean)) (C := RX12) (As := [.int x1, .int x2]) (rest := []) (stk := [.int q5.1]) ⟨hx, hb, hml, hown, hts⟩ hK hE hA hP hD hS (c_X12_areAlike l D G Z Y (sI σ0 200 0 (0 : Int32)) F x1 x2 q5 hq5) (cwV 2 hts (gwV wd_1823 wd_1825 wp_99 wd_11 wd_1826) rfl rfl rfl hd_X12_areAlike ⟨Nat.le_of_ble_eq_true rfl, Nat.le_of_ble_eq_true rfl⟩) (mg_200 G Z Y (sI σ0 200 0 (0 : Int32))) rfl rfl rfl hl.1 rfl (Nat.le_of_ble_eq_true rfl) dX12_alike_28 ⟨Nat.zero_le _, Nat.zero_le _⟩ rfl (fun H locs hP hD hS => ?_)
      refine lv_if_eq (tgt := 38) hx hb dX12_alike_31 (by decide) (fun c6 => ?_) (fun c6 => ?_)
      · skip
        have h := f_t c6 h
        refine lv_iconst (v := 0) hx hb dX12_alike_38 (by decide) ?_
        obtain rfl := Option.some.inj h
        exact W.iret (v := (0 : Int32)) hx hb hr (q_end hK hP hD hS) hS.2.2 dX12_alike_39
      · skip
        have h := f_f c6 h
        refine lv_iconst (v := 1) hx hb dX12_alike_34 (by decide) ?_
        refine lv_goto (tgt := 39) hx hb dX12_alike_35 (by decide) ?_
        obtain rfl := Option.some.inj h
        exact W.iret (v := (1 : Int32)) hx hb hr (q_end hK hP hD hS) hS.2.2 dX12_alike_39
    · skip
      have h := f_t c4 h
      refine lv_iconst (v := (-1)) hx hb dX12_alike_21 (by decide) ?_
      refine lv_goto (tgt := 39) hx hb dX12_alike_22 (by decide) ?_
      obtain rfl := Option.some.inj h
      exact W.iret (v := (-1 : Int32)) hx hb hr (q_end hK hP hD hS) hS.2.2 dX12_alike_39
abbrev rm_X12_shuffle : Room := { frames := 12, cells := 0, slots := 0, locals := 320 }
set_option maxRecDepth 100000 in
set_option maxHeartbeats 8000000 in
theorem c_X12_shuffle (l : Launch) (D : va_G) (G : hG) (Z : hZ) (Y : va_W) (σ0 : hSt) (F : Nat) (x1 : Int32) (x2 : Int32) (x3 : Int32) (res : (Int32 × hSt)) (h : f_X12_shuffle F Z σ0 x1 x2 x3 = some res) : CT l yX12_shuffle cX12_shuffle 4 (some .int) rm_X12_shuffle D G 0 0 [.ref (G.2.1 200), .int x1, .int x2, .int x3] (mW G Z Y σ0) (mW G Z Y res.2) (some (.int res.1)) := by
  unfold f_X12_shuffle at h
  refine CT.mk (cc := cX12_shuffle) (maxL := 4) (ret := (some .int)) (own := RX12) (plainFor_of_name (by decide)) rfl (Nat.le_of_ble_eq_true rfl) ?_
  intro p e s m args below meth c A ls C0 hnm hA hP hD hl
  obtain ⟨hx, hb, hr, hml, hown, hts, hlocks, hK, hE⟩ := id C0
  have hS : va_S A s.heap s.heap [] := va_S.rf
  have hl : lv_has ls 4 [(0, .ref (G.2.1 200)), (1, .int x1), (2, .int x2), (3, .int x3)] := hl
  refine lv_aload_n hx hb dX12_shuffle_0 rfl (lv_at hl 0 rfl) ?_
  refine lv_iconst (v := 0) hx hb dX12_shuffle_1 (by decide) ?_
  refine va_put (D := D) (ci := 12) (v := .int (0 : Int32)) (ty := .int) (C := RX12) (T := TX12) (N := 59) hx hb hts inU_X12 tyX12 tyX12_ok nmX12 hown hK hP hD hS _ (mg_200 G Z Y σ0) rfl 0 (by decide) (hts _ wd_1248) (fun _ h9 => h9) rfl (by decide +kernel) rfl rfl (Nat.le_of_ble_eq_true rfl) dX12_shuffle_2 (fun H locs hP hD hS => ?_)
  have hP := wrP (mp_200_0 G Z Y σ0 (0 : Int32)) hP
  have hD := wrD (mp_200_0 G Z Y σ0 (0 : Int32)) hD
  refine lv_aload_n hx hb dX12_shuffle_5 rfl (lv_at hl 0 rfl) ?_
  refine lv_iload_n hx hb dX12_shuffle_6 rfl (lv_at hl 1 rfl) ?_
  obtain ⟨q1, hq1, h⟩ := f_b h
  refine cl_V (w := (mW G Z Y (sI σ0 200 0 (0 : Int32)))) (w' := (mW G Z Y (sI σ0 200 0 (0 : Int32)))) (rv := some (.int q1)) (bytes := cX12_isNet) (maxL := 2) (ret := (some .boolean)) (C := RX12) (As := [.int x1]) (rest := []) (stk := [.int q1]) ⟨hx, hb, hml, hown, hts⟩ hK hE hA hP hD hS (c_X12_isNet l D G Z Y (sI σ0 200 0 (0 : Int32)) x1 q1 hq1) (cwV 1 hts (gwV wd_1819 wd_1821 wp_98 wd_11 wd_1822) rfl rfl rfl hd_X12_isNet ⟨Nat.le_of_ble_eq_true rfl, Nat.le_of_ble_eq_true rfl⟩) (mg_200 G Z Y (sI σ0 200 0 (0 : Int32))) rfl rfl rfl hl.1 rfl (Nat.le_of_ble_eq_true rfl) dX12_shuffle_7 ⟨Nat.zero_le _, Nat.zero_le _⟩ rfl (fun H locs hP hD hS => ?_)
  refine lv_if_eq (tgt := 48) hx hb dX12_shuffle_10 (by decide) (fun c2 => ?_) (fun c2 => ?_)
  · skip
    have h := f_t c2 h
    refine lv_iconst (v := (-1)) hx hb dX12_shuffle_48 (by decide) ?_
    obtain rfl := Option.some.inj h
    exact W.iret (v := (-1 : Int32)) hx hb hr (q_end hK hP hD hS) hS.2.2 dX12_shuffle_49
  · skip
    have h := f_f c2 h
    refine lv_aload_n hx hb dX12_shuffle_13 rfl (lv_at hl 0 rfl) ?_
    refine lv_iload_n hx hb dX12_shuffle_14 rfl (lv_at hl 2 rfl) ?_
    obtain ⟨q3, hq3, h⟩ := f_b h
    refine cl_V (w := (mW G Z Y (sI σ0 200 0 (0 : Int32)))) (w' := (mW G Z Y (sI σ0 200 0 (0 : Int32)))) (rv := some (.int q3)) (bytes := cX12_isNet) (maxL := 2) (ret := (some .boolean)) (C := RX12) (As := [.int x2]) (rest := []) (stk := [.int q3]) ⟨hx, hb, hml, hown, hts⟩ hK hE hA hP hD hS (c_X12_isNet l D G Z Y (sI σ0 200 0 (0 : Int32)) x2 q3 hq3) (cwV 1 hts (gwV wd_1819 wd_1821 wp_98 wd_11 wd_1822) rfl rfl rfl hd_X12_isNet ⟨Nat.le_of_ble_eq_true rfl, Nat.le_of_ble_eq_true rfl⟩) (mg_200 G Z Y (sI σ0 200 0 (0 : Int32))) rfl rfl rfl hl.1 rfl (Nat.le_of_ble_eq_true rfl) dX12_shuffle_15 ⟨Nat.zero_le _, Nat.zero_le _⟩ rfl (fun H locs hP hD hS => ?_)
    refine lv_if_eq (tgt := 48) hx hb dX12_shuffle_18 (by decide) (fun c4 => ?_) (fun c4 => ?_)
    · skip
      have h := f_t c4 h
      refine lv_iconst (v := (-1)) hx hb dX12_shuffle_48 (by decide) ?_
      obtain rfl := Option.some.inj h
      exact W.iret (v := (-1 : Int32)) hx hb hr (q_end hK hP hD hS) hS.2.2 dX12_shuffle_49
    · skip
      have h := f_f c4 h
      refine lv_iload_n hx hb dX12_shuffle_21 rfl (lv_at hl 3 rfl) ?_
      refine lv_i2l (v := (x3 : Int32).toInt64) hx hb dX12_shuffle_22 rfl ?_
      refine lv_lconst (v := 0) hx hb dX12_shuffle_23 (by decide) ?_
      refine lv_aload_n hx hb dX12_shuffle_24 rfl (lv_at hl 0 rfl) ?_
      refine va_get (D := D) (ci := 12) (v := .ref (G.2.1 222)) (C := RX12) (T := TX12) (N := 59) hx hb hts inU_X12 hown hK hP _ (mg_200 G Z Y (sI σ0 200 0 (0 : Int32))) rfl 54 (by decide) (hts _ wd_1301) (fun _ h9 => h9) rfl dX12_shuffle_25 ?_
      refine lv_iload_n hx hb dX12_shuffle_28 rfl (lv_at hl 1 rfl) ?_
      obtain ⟨c5, h⟩ := f_n h
      refine va_ialdE (v := (σ0.1 222 ((x1 : Int32).toNatClampNeg))) hx hb hK hP _ 0 (mg_222 G Z Y (sI σ0 200 0 (0 : Int32))) rfl c5 dX12_shuffle_29 rfl ?_
      refine lv_iconst (v := 1) hx hb dX12_shuffle_30 (by decide) ?_
      refine lv_isub hx hb dX12_shuffle_31 ?_
      refine lv_i2l (v := (((σ0.1 222 ((x1 : Int32).toNatClampNeg)) - (1 : Int32)) : Int32).toInt64) hx hb dX12_shuffle_32 rfl ?_
      obtain ⟨q6, hq6, h⟩ := f_b h
      refine cl_S (w := (mW G Z Y (sI σ0 200 0 (0 : Int32)))) (w' := (mW G Z Y (sI σ0 200 0 (0 : Int32)))) (rv := some (.int q6)) (bytes := cX12_isIn) (maxL := 6) (ret := (some .boolean)) (As := [.long (x3 : Int32).toInt64, .long (0 : Int64), .long (((σ0.1 222 ((x1 : Int32).toNatClampNeg)) - (1 : Int32)) : Int32).toInt64]) (rest := []) (stk := [.int q6]) ⟨hx, hb, hml, hown, hts⟩ hK hE hA hP hD hS (c_X12_isIn l D G (mW G Z Y (sI σ0 200 0 (0 : Int32))) ((x3 : Int32).toInt64) (0 : Int64) ((((σ0.1 222 ((x1 : Int32).toNatClampNeg)) - (1 : Int32)) : Int32).toInt64) q6 hq6) (mkS hts wd_1498 wd_1499 wd_11 wd_1500 rfl rfl hd_X12_isIn ⟨Nat.le_of_ble_eq_true rfl, Nat.le_of_ble_eq_true rfl⟩) rfl hl.1 rfl (Nat.le_of_ble_eq_true rfl) dX12_shuffle_33 ⟨Nat.zero_le _, Nat.zero_le _⟩ rfl (fun H locs hP hD hS => ?_)
      refine lv_if_eq (tgt := 48) hx hb dX12_shuffle_36 (by decide) (fun c7 => ?_) (fun c7 => ?_)
      · skip
        have h := f_t c7 h
        refine lv_iconst (v := (-1)) hx hb dX12_shuffle_48 (by decide) ?_
        obtain rfl := Option.some.inj h
        exact W.iret (v := (-1 : Int32)) hx hb hr (q_end hK hP hD hS) hS.2.2 dX12_shuffle_49
      · skip
        have h := f_f c7 h
        refine lv_aload_n hx hb dX12_shuffle_39 rfl (lv_at hl 0 rfl) ?_
        refine lv_iload_n hx hb dX12_shuffle_40 rfl (lv_at hl 1 rfl) ?_
        refine lv_iload_n hx hb dX12_shuffle_41 rfl (lv_at hl 2 rfl) ?_
        obtain ⟨q8, hq8, h⟩ := f_b h
        refine cl_V (w := (mW G Z Y (sI σ0 200 0 (0 : Int32)))) (w' := (mW G Z Y q8.2)) (rv := some (.int q8.1)) (bytes := cX12_areAlike) (maxL := 3) (ret := (some .boolean)) (C := RX12) (As := [.int x1, .int x2]) (rest := []) (stk := [.int q8.1]) ⟨hx, hb, hml, hown, hts⟩ hK hE hA hP hD hS (c_X12_areAlike l D G Z Y (sI σ0 200 0 (0 : Int32)) F x1 x2 q8 hq8) (cwV 2 hts (gwV wd_1823 wd_1825 wp_99 wd_11 wd_1826) rfl rfl rfl hd_X12_areAlike ⟨Nat.le_of_ble_eq_true rfl, Nat.le_of_ble_eq_true rfl⟩) (mg_200 G Z Y (sI σ0 200 0 (0 : Int32))) rfl rfl rfl hl.1 rfl (Nat.le_of_ble_eq_true rfl) dX12_shuffle_42 ⟨Nat.zero_le _, Nat.zero_le _⟩ rfl (fun H locs hP hD hS => ?_)
        refine lv_if_ne (tgt := 50) hx hb dX12_shuffle_45 (by decide) (fun c9 => ?_) (fun c9 => ?_)
        · skip
          have h := f_f c9 h
          refine lv_aload_n hx hb dX12_shuffle_50 rfl (lv_at hl 0 rfl) ?_
          refine va_get (D := D) (ci := 12) (v := .ref (G.2.1 224)) (C := RX12) (T := TX12) (N := 59) hx hb hts inU_X12 hown hK hP _ (mg_200 G Z Y q8.2) rfl 56 (by decide) (hts _ wd_1303) (fun _ h9 => h9) rfl dX12_shuffle_51 ?_
          refine lv_iload_n hx hb dX12_shuffle_54 rfl (lv_at hl 3 rfl) ?_
          obtain ⟨c10, h⟩ := f_n h
          refine va_ialdE (v := (q8.2.1 224 ((x3 : Int32).toNatClampNeg))) hx hb hK hP _ 0 (mg_224 G Z Y q8.2) rfl c10 dX12_shuffle_55 rfl ?_
          obtain rfl := Option.some.inj h
          exact W.iret (v := (q8.2.1 224 ((x3 : Int32).toNatClampNeg))) hx hb hr (q_end hK hP hD hS) hS.2.2 dX12_shuffle_56
        · skip
          have h := f_t c9 h
          refine lv_iconst (v := (-1)) hx hb dX12_shuffle_48 (by decide) ?_
          obtain rfl := Option.some.inj h
          exact W.iret (v := (-1 : Int32)) hx hb hr (q_end hK hP hD hS) hS.2.2 dX12_shuffle_49
abbrev rm_X12_unlike : Room := { frames := 12, cells := 0, slots := 0, locals := 320 }
set_option maxRecDepth 100000 in
set_option maxHeartbeats 8000000 in
theorem W_X12_unlike_L73 {p : Program} {e : Env} {s : State} {m : MethodId} {args : Array Value} {below : List Frame} {meth : Method} {c : Code} {A : Nat → Prop} (l : Launch) (D : va_G) (G : hG) (Z : hZ) (Y : va_W) (σ0 : hSt) (F : Nat) (x1 : Int32) (x2 : Int32) (x3 : Int64) (x5 : Int32) (σ1 : hSt) (y1 : Int32) (y2 : Int32) (y5 : Int32) (y6 : Int32) (res : (Int32 × hSt)) (C0 : Cx p s m args meth c cX12_unlike (some .int) RX12 12 D G A) (hA : ∀ q : Nat, s.heap.size ≤ q → A q) : ∀ (n : Nat) (z7 : Int64) (z9 : Int32) (z10 : Int32), f_X12_unlike_L73 σ1 y1 y2 y5 y6 n z7 z9 z10 = some res → ∀ (H : Heap) (locs : List Loc) (ls : Array Slot), va_P D vwCl (mW G Z Y σ1) H → va_D A (mW G Z Y σ1) → va_S A s.heap H locs → lv_has ls 12 [(1, .int y1), (2, .int y2), (5, .int y5), (6, .int y6), (7, .long z7), (9, .int z9), (10, .int z10)] → W p l e rm_X12_unlike s m args below meth c H locs 0 0 (MQ below (Qg (some (.int res.1)) D (tysG G) (mW G Z Y res.2) A) args s 0 0 A) (F0 m 73 ls []) := by
  obtain ⟨hx, hb, hr, hml, hown, hts, hlocks, hK, hE⟩ := id C0
  intro n
  induction n with
  | zero =>
    intro z7 z9 z10 h
    cases h
  | succ n ih =>
    intro z7 z9 z10 h H locs ls hP hD hS hl
    rw [f_X12_unlike_L73] at h
    refine lv_iload hx hb dX12_unlike_73 (lv_at hl 6 rfl) ?_
    refine lv_iload hx hb dX12_unlike_75 (lv_at hl 2 rfl) ?_
    refine lv_icmp_ge (tgt := 144) hx hb dX12_unlike_77 (by decide) (fun c12 => ?_) (fun c12 => ?_)
    · skip
      have h := f_t c12 h
      refine lv_iload hx hb dX12_unlike_144 (lv_at hl 5 rfl) ?_
      obtain rfl := Option.some.inj h
      exact W.iret (v := z9) hx hb hr (q_end hK hP hD hS) hS.2.2 dX12_unlike_146
    · skip
      have h := f_f c12 h
      refine lv_lload hx hb dX12_unlike_80 (lv_at hl 4 rfl) ?_
      refine lv_ldc2 (v := 6364136223846793005) hx hb hown (hts _ wd_1677) dX12_unlike_82 ?_
      refine lv_lmul hx hb dX12_unlike_85 ?_
      refine lv_ldc2 (v := 1442695040888963407) hx hb hown (hts _ wd_1678) dX12_unlike_86 ?_
      refine lv_ladd hx hb dX12_unlike_89 ?_
      refine lv_lstore (lv' := [(7, .long ((z7 * (6364136223846793005 : Int64)) + (1442695040888963407 : Int64))), (1, .int y1), (2, .int y2), (5, .int y5), (6, .int y6), (9, .int z9), (10, .int z10)]) hx hb dX12_unlike_90 hl (by decide) rfl (fun ls hl => ?_)
      refine lv_lload hx hb dX12_unlike_92 (lv_at hl 0 rfl) ?_
      refine lv_bipush (v := 33) hx hb dX12_unlike_94 (by decide) ?_
      refine lv_lushr (v := ((((z7 * (6364136223846793005 : Int64)) + (1442695040888963407 : Int64))).toUInt64 >>> (((33 : Int32) : Int32).toInt64.toUInt64 &&& Int64.toUInt64 63)).toInt64) hx hb dX12_unlike_96 rfl ?_
      refine lv_ldc2 (v := 2) hx hb hown (hts _ wd_1541) dX12_unlike_97 ?_
      refine lv_lrem hx hb dX12_unlike_100 (by decide) ?_
      refine lv_lconst (v := 0) hx hb dX12_unlike_101 (by decide) ?_
      refine W.lcmp hx hb dX12_unlike_102 ?_
      refine lv_if_ne (tgt := 110) hx hb dX12_unlike_103 (by decide) (fun c13 => ?_) (fun c13 => ?_)
      · skip
        have c13 := mt (lg_cmp_eq _ _).mpr c13
        have h := f_f c13 h
        refine lv_iload_n hx hb dX12_unlike_110 rfl (lv_at hl 2 rfl) ?_
        refine lv_istore (lv' := [(11, .int y2), (7, .long ((z7 * (6364136223846793005 : Int64)) + (1442695040888963407 : Int64))), (1, .int y1), (2, .int y2), (5, .int y5), (6, .int y6), (9, .int z9), (10, .int z10)]) hx hb dX12_unlike_111 hl (by decide) rfl (fun ls hl => ?_)
        refine lv_iload hx hb dX12_unlike_113 (lv_at hl 6 rfl) ?_
        refine lv_iload hx hb dX12_unlike_115 (lv_at hl 5 rfl) ?_
        refine lv_if_eq (tgt := 130) hx hb dX12_unlike_117 (by decide) (fun c14 => ?_) (fun c14 => ?_)
        · skip
          have h := f_t c14 h
          refine lv_iconst (v := 1) hx hb dX12_unlike_130 (by decide) ?_
          refine lv_goto (tgt := 135) hx hb dX12_unlike_131 (by decide) ?_
          refine lv_iadd hx hb dX12_unlike_135 ?_
          refine lv_istore (lv' := [(9, .int (z9 + (1 : Int32))), (11, .int y2), (7, .long ((z7 * (6364136223846793005 : Int64)) + (1442695040888963407 : Int64))), (1, .int y1), (2, .int y2), (5, .int y5), (6, .int y6), (10, .int z10)]) hx hb dX12_unlike_136 hl (by decide) rfl (fun ls hl => ?_)
          refine lv_iinc (v := (z10 + 1)) (lv' := [(10, .int (z10 + 1)), (9, .int (z9 + (1 : Int32))), (11, .int y2), (7, .long ((z7 * (6364136223846793005 : Int64)) + (1442695040888963407 : Int64))), (1, .int y1), (2, .int y2), (5, .int y5), (6, .int y6)]) hx hb dX12_unlike_138 hl (k := 7) rfl rfl (by decide) rfl (fun ls hl => ?_)
          refine lv_goto (tgt := 73) hx hb dX12_unlike_141 (by decide) ?_
          exact ih ((z7 * (6364136223846793005 : Int64)) + (1442695040888963407 : Int64)) (z9 + (1 : Int32)) (z10 + 1) h _ _ _ hP hD hS (lv_sub hl [4, 5, 6, 7, 3, 1, 0] rfl)
        · skip
          have h := f_f c14 h
          refine lv_iload hx hb dX12_unlike_120 (lv_at hl 0 rfl) ?_
          refine lv_iload_n hx hb dX12_unlike_122 rfl (lv_at hl 2 rfl) ?_
          refine lv_iload_n hx hb dX12_unlike_123 rfl (lv_at hl 3 rfl) ?_
          refine va_mmin hx hb (hml.trans hl.1.symm) hown (hts _ wd_1719) (hts _ wd_400) (hts _ wd_12) (hts _ wd_401) (Nat.le_of_ble_eq_true rfl) (Nat.le_of_ble_eq_true rfl) (Nat.zero_le _) (Nat.zero_le _) dX12_unlike_124 ?_
          refine lv_icmp_ne (tgt := 134) hx hb dX12_unlike_127 (by decide) (fun c15 => ?_) (fun c15 => ?_)
          · skip
            have h := f_f c15 h
            refine lv_iconst (v := 0) hx hb dX12_unlike_134 (by decide) ?_
            refine lv_iadd hx hb dX12_unlike_135 ?_
            refine lv_istore (lv' := [(9, .int (z9 + (0 : Int32))), (11, .int y2), (7, .long ((z7 * (6364136223846793005 : Int64)) + (1442695040888963407 : Int64))), (1, .int y1), (2, .int y2), (5, .int y5), (6, .int y6), (10, .int z10)]) hx hb dX12_unlike_136 hl (by decide) rfl (fun ls hl => ?_)
            refine lv_iinc (v := (z10 + 1)) (lv' := [(10, .int (z10 + 1)), (9, .int (z9 + (0 : Int32))), (11, .int y2), (7, .long ((z7 * (6364136223846793005 : Int64)) + (1442695040888963407 : Int64))), (1, .int y1), (2, .int y2), (5, .int y5), (6, .int y6)]) hx hb dX12_unlike_138 hl (k := 7) rfl rfl (by decide) rfl (fun ls hl => ?_)
            refine lv_goto (tgt := 73) hx hb dX12_unlike_141 (by decide) ?_
            exact ih ((z7 * (6364136223846793005 : Int64)) + (1442695040888963407 : Int64)) (z9 + (0 : Int32)) (z10 + 1) h _ _ _ hP hD hS (lv_sub hl [4, 5, 6, 7, 3, 1, 0] rfl)
          · skip
            have h := f_t c15 h
            refine lv_iconst (v := 1) hx hb dX12_unlike_130 (by decide) ?_
            refine lv_goto (tgt := 135) hx hb dX12_unlike_131 (by decide) ?_
            refine lv_iadd hx hb dX12_unlike_135 ?_
            refine lv_istore (lv' := [(9, .int (z9 + (1 : Int32))), (11, .int y2), (7, .long ((z7 * (6364136223846793005 : Int64)) + (1442695040888963407 : Int64))), (1, .int y1), (2, .int y2), (5, .int y5), (6, .int y6), (10, .int z10)]) hx hb dX12_unlike_136 hl (by decide) rfl (fun ls hl => ?_)
            refine lv_iinc (v := (z10 + 1)) (lv' := [(10, .int (z10 + 1)), (9, .int (z9 + (1 : Int32))), (11, .int y2), (7, .long ((z7 * (6364136223846793005 : Int64)) + (1442695040888963407 : Int64))), (1, .int y1), (2, .int y2), (5, .int y5), (6, .int y6)]) hx hb dX12_unlike_138 hl (k := 7) rfl rfl (by decide) rfl (fun ls hl => ?_)
            refine lv_goto (tgt := 73) hx hb dX12_unlike_141 (by decide) ?_
            exact ih ((z7 * (6364136223846793005 : Int64)) + (1442695040888963407 : Int64)) (z9 + (1 : Int32)) (z10 + 1) h _ _ _ hP hD hS (lv_sub hl [4, 5, 6, 7, 3, 1, 0] rfl)
      · skip
        have c13 := (lg_cmp_eq _ _).mp c13
        have h := f_t c13 h
        refine lv_iload_n hx hb dX12_unlike_106 rfl (lv_at hl 1 rfl) ?_
        refine lv_goto (tgt := 111) hx hb dX12_unlike_107 (by decide) ?_
        refine lv_istore (lv' := [(11, .int y1), (7, .long ((z7 * (6364136223846793005 : Int64)) + (1442695040888963407 : Int64))), (1, .int y1), (2, .int y2), (5, .int y5), (6, .int y6), (9, .int z9), (10, .int z10)]) hx hb dX12_unlike_111 hl (by decide) rfl (fun ls hl => ?_)
        refine lv_iload hx hb dX12_unlike_113 (lv_at hl 6 rfl) ?_
        refine lv_iload hx hb dX12_unlike_115 (lv_at hl 5 rfl) ?_
        refine lv_if_eq (tgt := 130) hx hb dX12_unlike_117 (by decide) (fun c16 => ?_) (fun c16 => ?_)
        · skip
          have h := f_t c16 h
          refine lv_iconst (v := 1) hx hb dX12_unlike_130 (by decide) ?_
          refine lv_goto (tgt := 135) hx hb dX12_unlike_131 (by decide) ?_
          refine lv_iadd hx hb dX12_unlike_135 ?_
          refine lv_istore (lv' := [(9, .int (z9 + (1 : Int32))), (11, .int y1), (7, .long ((z7 * (6364136223846793005 : Int64)) + (1442695040888963407 : Int64))), (1, .int y1), (2, .int y2), (5, .int y5), (6, .int y6), (10, .int z10)]) hx hb dX12_unlike_136 hl (by decide) rfl (fun ls hl => ?_)
          refine lv_iinc (v := (z10 + 1)) (lv' := [(10, .int (z10 + 1)), (9, .int (z9 + (1 : Int32))), (11, .int y1), (7, .long ((z7 * (6364136223846793005 : Int64)) + (1442695040888963407 : Int64))), (1, .int y1), (2, .int y2), (5, .int y5), (6, .int y6)]) hx hb dX12_unlike_138 hl (k := 7) rfl rfl (by decide) rfl (fun ls hl => ?_)
          refine lv_goto (tgt := 73) hx hb dX12_unlike_141 (by decide) ?_
          exact ih ((z7 * (6364136223846793005 : Int64)) + (1442695040888963407 : Int64)) (z9 + (1 : Int32)) (z10 + 1) h _ _ _ hP hD hS (lv_sub hl [4, 5, 6, 7, 3, 1, 0] rfl)
        · skip
          have h := f_f c16 h
          refine lv_iload hx hb dX12_unlike_120 (lv_at hl 0 rfl) ?_
          refine lv_iload_n hx hb dX12_unlike_122 rfl (lv_at hl 2 rfl) ?_
          refine lv_iload_n hx hb dX12_unlike_123 rfl (lv_at hl 3 rfl) ?_
          refine va_mmin hx hb (hml.trans hl.1.symm) hown (hts _ wd_1719) (hts _ wd_400) (hts _ wd_12) (hts _ wd_401) (Nat.le_of_ble_eq_true rfl) (Nat.le_of_ble_eq_true rfl) (Nat.zero_le _) (Nat.zero_le _) dX12_unlike_124 ?_
          refine lv_icmp_ne (tgt := 134) hx hb dX12_unlike_127 (by decide) (fun c17 => ?_) (fun c17 => ?_)
          · skip
            have h := f_f c17 h
            refine lv_iconst (v := 0) hx hb dX12_unlike_134 (by decide) ?_
            refine lv_iadd hx hb dX12_unlike_135 ?_
            refine lv_istore (lv' := [(9, .int (z9 + (0 : Int32))), (11, .int y1), (7, .long ((z7 * (6364136223846793005 : Int64)) + (1442695040888963407 : Int64))), (1, .int y1), (2, .int y2), (5, .int y5), (6, .int y6), (10, .int z10)]) hx hb dX12_unlike_136 hl (by decide) rfl (fun ls hl => ?_)
            refine lv_iinc (v := (z10 + 1)) (lv' := [(10, .int (z10 + 1)), (9, .int (z9 + (0 : Int32))), (11, .int y1), (7, .long ((z7 * (6364136223846793005 : Int64)) + (1442695040888963407 : Int64))), (1, .int y1), (2, .int y2), (5, .int y5), (6, .int y6)]) hx hb dX12_unlike_138 hl (k := 7) rfl rfl (by decide) rfl (fun ls hl => ?_)
            refine lv_goto (tgt := 73) hx hb dX12_unlike_141 (by decide) ?_
            exact ih ((z7 * (6364136223846793005 : Int64)) + (1442695040888963407 : Int64)) (z9 + (0 : Int32)) (z10 + 1) h _ _ _ hP hD hS (lv_sub hl [4, 5, 6, 7, 3, 1, 0] rfl)
          · skip
            have h := f_t c17 h
            refine lv_iconst (v := 1) hx hb dX12_unlike_130 (by decide) ?_
            refine lv_goto (tgt := 135) hx hb dX12_unlike_131 (by decide) ?_
            refine lv_iadd hx hb dX12_unlike_135 ?_
            refine lv_istore (lv' := [(9, .int (z9 + (1 : Int32))), (11, .int y1), (7, .long ((z7 * (6364136223846793005 : Int64)) + (1442695040888963407 : Int64))), (1, .int y1), (2, .int y2), (5, .int y5), (6, .int y6), (10, .int z10)]) hx hb dX12_unlike_136 hl (by decide) rfl (fun ls hl => ?_)
            refine lv_iinc (v := (z10 + 1)) (lv' := [(10, .int (z10 + 1)), (9, .int (z9 + (1 : Int32))), (11, .int y1), (7, .long ((z7 * (6364136223846793005 : Int64)) + (1442695040888963407 : Int64))), (1, .int y1), (2, .int y2), (5, .int y5), (6, .int y6)]) hx hb dX12_unlike_138 hl (k := 7) rfl rfl (by decide) rfl (fun ls hl => ?_)
            refine lv_goto (tgt := 73) hx hb dX12_unlike_141 (by decide) ?_
            exact ih ((z7 * (6364136223846793005 : Int64)) + (1442695040888963407 : Int64)) (z9 + (1 : Int32)) (z10 + 1) h _ _ _ hP hD hS (lv_sub hl [4, 5, 6, 7, 3, 1, 0] rfl)
set_option maxRecDepth 100000 in
set_option maxHeartbeats 8000000 in
theorem c_X12_unlike (l : Launch) (D : va_G) (G : hG) (Z : hZ) (Y : va_W) (σ0 : hSt) (F : Nat) (x1 : Int32) (x2 : Int32) (x3 : Int64) (x5 : Int32) (res : (Int32 × hSt)) (h : f_X12_unlike F Z σ0 x1 x2 x3 x5 = some res) : CT l yX12_unlike cX12_unlike 12 (some .int) rm_X12_unlike D G 0 0 [.ref (G.2.1 200), .int x1, .int x2, .long x3, .int x5] (mW G Z Y σ0) (mW G Z Y res.2) (some (.int res.1)) := by
  unfold f_X12_unlike at h
  refine CT.mk (cc := cX12_unlike) (maxL := 12) (ret := (some .int)) (own := RX12) (plainFor_of_name (by decide)) rfl (Nat.le_of_ble_eq_true rfl) ?_
  intro p e s m args below meth c A ls C0 hnm hA hP hD hl
  obtain ⟨hx, hb, hr, hml, hown, hts, hlocks, hK, hE⟩ := id C0
  have hS : va_S A s.heap s.heap [] := va_S.rf
  have hl : lv_has ls 12 [(0, .ref (G.2.1 200)), (1, .int x1), (2, .int x2), (3, .long x3), (5, .int x5)] := hl
  refine lv_aload_n hx hb dX12_unlike_0 rfl (lv_at hl 0 rfl) ?_
  refine lv_iconst (v := 0) hx hb dX12_unlike_1 (by decide) ?_
  refine va_put (D := D) (ci := 12) (v := .int (0 : Int32)) (ty := .int) (C := RX12) (T := TX12) (N := 59) hx hb hts inU_X12 tyX12 tyX12_ok nmX12 hown hK hP hD hS _ (mg_200 G Z Y σ0) rfl 0 (by decide) (hts _ wd_1248) (fun _ h9 => h9) rfl (by decide +kernel) rfl rfl (Nat.le_of_ble_eq_true rfl) dX12_unlike_2 (fun H locs hP hD hS => ?_)
  have hP := wrP (mp_200_0 G Z Y σ0 (0 : Int32)) hP
  have hD := wrD (mp_200_0 G Z Y σ0 (0 : Int32)) hD
  refine lv_aload_n hx hb dX12_unlike_5 rfl (lv_at hl 0 rfl) ?_
  refine lv_iload_n hx hb dX12_unlike_6 rfl (lv_at hl 1 rfl) ?_
  obtain ⟨q1, hq1, h⟩ := f_b h
  refine cl_V (w := (mW G Z Y (sI σ0 200 0 (0 : Int32)))) (w' := (mW G Z Y (sI σ0 200 0 (0 : Int32)))) (rv := some (.int q1)) (bytes := cX12_isNet) (maxL := 2) (ret := (some .boolean)) (C := RX12) (As := [.int x1]) (rest := []) (stk := [.int q1]) ⟨hx, hb, hml, hown, hts⟩ hK hE hA hP hD hS (c_X12_isNet l D G Z Y (sI σ0 200 0 (0 : Int32)) x1 q1 hq1) (cwV 1 hts (gwV wd_1819 wd_1821 wp_98 wd_11 wd_1822) rfl rfl rfl hd_X12_isNet ⟨Nat.le_of_ble_eq_true rfl, Nat.le_of_ble_eq_true rfl⟩) (mg_200 G Z Y (sI σ0 200 0 (0 : Int32))) rfl rfl rfl hl.1 rfl (Nat.le_of_ble_eq_true rfl) dX12_unlike_7 ⟨Nat.zero_le _, Nat.zero_le _⟩ rfl (fun H locs hP hD hS => ?_)
  refine lv_if_eq (tgt := 54) hx hb dX12_unlike_10 (by decide) (fun c2 => ?_) (fun c2 => ?_)
  · skip
    have h := f_t c2 h
    refine lv_iconst (v := (-1)) hx hb dX12_unlike_54 (by decide) ?_
    obtain rfl := Option.some.inj h
    exact W.iret (v := (-1 : Int32)) hx hb hr (q_end hK hP hD hS) hS.2.2 dX12_unlike_55
  · skip
    have h := f_f c2 h
    refine lv_aload_n hx hb dX12_unlike_13 rfl (lv_at hl 0 rfl) ?_
    refine lv_iload_n hx hb dX12_unlike_14 rfl (lv_at hl 2 rfl) ?_
    obtain ⟨q3, hq3, h⟩ := f_b h
    refine cl_V (w := (mW G Z Y (sI σ0 200 0 (0 : Int32)))) (w' := (mW G Z Y (sI σ0 200 0 (0 : Int32)))) (rv := some (.int q3)) (bytes := cX12_isNet) (maxL := 2) (ret := (some .boolean)) (C := RX12) (As := [.int x2]) (rest := []) (stk := [.int q3]) ⟨hx, hb, hml, hown, hts⟩ hK hE hA hP hD hS (c_X12_isNet l D G Z Y (sI σ0 200 0 (0 : Int32)) x2 q3 hq3) (cwV 1 hts (gwV wd_1819 wd_1821 wp_98 wd_11 wd_1822) rfl rfl rfl hd_X12_isNet ⟨Nat.le_of_ble_eq_true rfl, Nat.le_of_ble_eq_true rfl⟩) (mg_200 G Z Y (sI σ0 200 0 (0 : Int32))) rfl rfl rfl hl.1 rfl (Nat.le_of_ble_eq_true rfl) dX12_unlike_15 ⟨Nat.zero_le _, Nat.zero_le _⟩ rfl (fun H locs hP hD hS => ?_)
    refine lv_if_eq (tgt := 54) hx hb dX12_unlike_18 (by decide) (fun c4 => ?_) (fun c4 => ?_)
    · skip
      have h := f_t c4 h
      refine lv_iconst (v := (-1)) hx hb dX12_unlike_54 (by decide) ?_
      obtain rfl := Option.some.inj h
      exact W.iret (v := (-1 : Int32)) hx hb hr (q_end hK hP hD hS) hS.2.2 dX12_unlike_55
    · skip
      have h := f_f c4 h
      refine lv_iload_n hx hb dX12_unlike_21 rfl (lv_at hl 1 rfl) ?_
      refine lv_iload_n hx hb dX12_unlike_22 rfl (lv_at hl 2 rfl) ?_
      refine lv_icmp_eq (tgt := 54) hx hb dX12_unlike_23 (by decide) (fun c5 => ?_) (fun c5 => ?_)
      · skip
        have h := f_t c5 h
        refine lv_iconst (v := (-1)) hx hb dX12_unlike_54 (by decide) ?_
        obtain rfl := Option.some.inj h
        exact W.iret (v := (-1 : Int32)) hx hb hr (q_end hK hP hD hS) hS.2.2 dX12_unlike_55
      · skip
        have h := f_f c5 h
        refine lv_aload_n hx hb dX12_unlike_26 rfl (lv_at hl 0 rfl) ?_
        refine va_get (D := D) (ci := 12) (v := .ref (G.2.1 222)) (C := RX12) (T := TX12) (N := 59) hx hb hts inU_X12 hown hK hP _ (mg_200 G Z Y (sI σ0 200 0 (0 : Int32))) rfl 54 (by decide) (hts _ wd_1301) (fun _ h9 => h9) rfl dX12_unlike_27 ?_
        refine lv_iload_n hx hb dX12_unlike_30 rfl (lv_at hl 1 rfl) ?_
        obtain ⟨c6, h⟩ := f_n h
        refine va_ialdE (v := (σ0.1 222 ((x1 : Int32).toNatClampNeg))) hx hb hK hP _ 0 (mg_222 G Z Y (sI σ0 200 0 (0 : Int32))) rfl c6 dX12_unlike_31 rfl ?_
        refine lv_aload_n hx hb dX12_unlike_32 rfl (lv_at hl 0 rfl) ?_
        refine va_get (D := D) (ci := 12) (v := .ref (G.2.1 222)) (C := RX12) (T := TX12) (N := 59) hx hb hts inU_X12 hown hK hP _ (mg_200 G Z Y (sI σ0 200 0 (0 : Int32))) rfl 54 (by decide) (hts _ wd_1301) (fun _ h9 => h9) rfl dX12_unlike_33 ?_
        refine lv_iload_n hx hb dX12_unlike_36 rfl (lv_at hl 2 rfl) ?_
        obtain ⟨c7, h⟩ := f_n h
        refine va_ialdE (v := (σ0.1 222 ((x2 : Int32).toNatClampNeg))) hx hb hK hP _ 0 (mg_222 G Z Y (sI σ0 200 0 (0 : Int32))) rfl c7 dX12_unlike_37 rfl ?_
        refine lv_icmp_ne (tgt := 54) hx hb dX12_unlike_38 (by decide) (fun c8 => ?_) (fun c8 => ?_)
        · skip
          have h := f_f c8 h
          refine lv_iconst (v := (-1)) hx hb dX12_unlike_54 (by decide) ?_
          obtain rfl := Option.some.inj h
          exact W.iret (v := (-1 : Int32)) hx hb hr (q_end hK hP hD hS) hS.2.2 dX12_unlike_55
        · skip
          have h := f_t c8 h
          refine lv_iload hx hb dX12_unlike_41 (lv_at hl 4 rfl) ?_
          refine lv_i2l (v := (x5 : Int32).toInt64) hx hb dX12_unlike_43 rfl ?_
          refine lv_lconst (v := 1) hx hb dX12_unlike_44 (by decide) ?_
          refine lv_ldc2 (v := 30) hx hb hown (hts _ wd_1843) dX12_unlike_45 ?_
          obtain ⟨q9, hq9, h⟩ := f_b h
          refine cl_S (w := (mW G Z Y (sI σ0 200 0 (0 : Int32)))) (w' := (mW G Z Y (sI σ0 200 0 (0 : Int32)))) (rv := some (.int q9)) (bytes := cX12_isIn) (maxL := 6) (ret := (some .boolean)) (As := [.long (x5 : Int32).toInt64, .long (1 : Int64), .long (30 : Int64)]) (rest := []) (stk := [.int q9]) ⟨hx, hb, hml, hown, hts⟩ hK hE hA hP hD hS (c_X12_isIn l D G (mW G Z Y (sI σ0 200 0 (0 : Int32))) ((x5 : Int32).toInt64) (1 : Int64) (30 : Int64) q9 hq9) (mkS hts wd_1498 wd_1499 wd_11 wd_1500 rfl rfl hd_X12_isIn ⟨Nat.le_of_ble_eq_true rfl, Nat.le_of_ble_eq_true rfl⟩) rfl hl.1 rfl (Nat.le_of_ble_eq_true rfl) dX12_unlike_48 ⟨Nat.zero_le _, Nat.zero_le _⟩ rfl (fun H locs hP hD hS => ?_)
          refine lv_if_ne (tgt := 56) hx hb dX12_unlike_51 (by decide) (fun c10 => ?_) (fun c10 => ?_)
          · skip
            have h := f_f c10 h
            refine lv_aload_n hx hb dX12_unlike_56 rfl (lv_at hl 0 rfl) ?_
            refine lv_iload_n hx hb dX12_unlike_57 rfl (lv_at hl 1 rfl) ?_
            refine lv_iload_n hx hb dX12_unlike_58 rfl (lv_at hl 2 rfl) ?_
            obtain ⟨q11, hq11, h⟩ := f_b h
            refine cl_V (w := (mW G Z Y (sI σ0 200 0 (0 : Int32)))) (w' := (mW G Z Y q11.2)) (rv := some (.int q11.1)) (bytes := cX12_areAlike) (maxL := 3) (ret := (some .boolean)) (C := RX12) (As := [.int x1, .int x2]) (rest := []) (stk := [.int q11.1]) ⟨hx, hb, hml, hown, hts⟩ hK hE hA hP hD hS (c_X12_areAlike l D G Z Y (sI σ0 200 0 (0 : Int32)) F x1 x2 q11 hq11) (cwV 2 hts (gwV wd_1823 wd_1825 wp_99 wd_11 wd_1826) rfl rfl rfl hd_X12_areAlike ⟨Nat.le_of_ble_eq_true rfl, Nat.le_of_ble_eq_true rfl⟩) (mg_200 G Z Y (sI σ0 200 0 (0 : Int32))) rfl rfl rfl hl.1 rfl (Nat.le_of_ble_eq_true rfl) dX12_unlike_59 ⟨Nat.zero_le _, Nat.zero_le _⟩ rfl (fun H locs hP hD hS => ?_)
            refine lv_istore (lv' := [(6, .int q11.1), (0, .ref (G.2.1 200)), (1, .int x1), (2, .int x2), (3, .long x3), (5, .int x5)]) hx hb dX12_unlike_62 hl (by decide) rfl (fun ls hl => ?_)
            refine lv_lload_n hx hb dX12_unlike_64 rfl (lv_at hl 4 rfl) ?_
            refine lv_lstore (lv' := [(7, .long x3), (6, .int q11.1), (0, .ref (G.2.1 200)), (1, .int x1), (2, .int x2), (3, .long x3), (5, .int x5)]) hx hb dX12_unlike_65 hl (by decide) rfl (fun ls hl => ?_)
            refine lv_iconst (v := 0) hx hb dX12_unlike_67 (by decide) ?_
            refine lv_istore (lv' := [(9, .int (0 : Int32)), (7, .long x3), (6, .int q11.1), (0, .ref (G.2.1 200)), (1, .int x1), (2, .int x2), (3, .long x3), (5, .int x5)]) hx hb dX12_unlike_68 hl (by decide) rfl (fun ls hl => ?_)
            refine lv_iconst (v := 0) hx hb dX12_unlike_70 (by decide) ?_
            refine lv_istore (lv' := [(10, .int (0 : Int32)), (9, .int (0 : Int32)), (7, .long x3), (6, .int q11.1), (0, .ref (G.2.1 200)), (1, .int x1), (2, .int x2), (3, .long x3), (5, .int x5)]) hx hb dX12_unlike_71 hl (by decide) rfl (fun ls hl => ?_)
            refine W_X12_unlike_L73 l D G Z Y σ0 F x1 x2 x3 x5 q11.2 x1 x2 x5 q11.1 res C0 hA F x3 (0 : Int32) (0 : Int32) h _ _ _ hP hD hS (lv_sub hl [5, 6, 8, 3, 2, 1, 0] rfl)
          · skip
            have h := f_t c10 h
            refine lv_iconst (v := (-1)) hx hb dX12_unlike_54 (by decide) ?_
            obtain rfl := Option.some.inj h
            exact W.iret (v := (-1 : Int32)) hx hb hr (q_end hK hP hD hS) hS.2.2 dX12_unlike_55
abbrev rm_X12_agrees : Room := { frames := 0, cells := 0, slots := 0, locals := 0 }
set_option maxRecDepth 100000 in
set_option maxHeartbeats 8000000 in
theorem c_X12_agrees (l : Launch) (D : va_G) (G : hG) (w : va_W) (x0 : Int64) (x2 : Int32) (x3 : Int32) (x4 : Int32) (x5 : Int32) (res : Int32) (h : f_X12_agrees x0 x2 x3 x4 x5 = some res) : CT l yX12_agrees cX12_agrees 6 (some .int) rm_X12_agrees D G 0 0 [.long x0, .int x2, .int x3, .int x4, .int x5] w w (some (.int res)) := by
  unfold f_X12_agrees at h
  refine CT.mk (cc := cX12_agrees) (maxL := 6) (ret := (some .int)) (own := RX12) (plainFor_of_name (by decide)) rfl (Nat.le_of_ble_eq_true rfl) ?_
  intro p e s m args below meth c A ls C0 hnm hA hP hD hl
  obtain ⟨hx, hb, hr, hml, hown, hts, hlocks, hK, hE⟩ := id C0
  have hS : va_S A s.heap s.heap [] := va_S.rf
  have hl : lv_has ls 6 [(0, .long x0), (2, .int x2), (3, .int x3), (4, .int x4), (5, .int x5)] := hl
  refine lv_lload_n hx hb dX12_agrees_0 rfl (lv_at hl 0 rfl) ?_
  refine lv_iload_n hx hb dX12_agrees_1 rfl (lv_at hl 1 rfl) ?_
  refine lv_iconst (v := 3) hx hb dX12_agrees_2 (by decide) ?_
  refine lv_imul hx hb dX12_agrees_3 ?_
  refine lv_iload_n hx hb dX12_agrees_4 rfl (lv_at hl 2 rfl) ?_
  refine lv_iadd hx hb dX12_agrees_5 ?_
  refine lv_iconst (v := 2) hx hb dX12_agrees_6 (by decide) ?_
  refine lv_imul hx hb dX12_agrees_7 ?_
  refine lv_iload hx hb dX12_agrees_8 (lv_at hl 3 rfl) ?_
  refine lv_iadd hx hb dX12_agrees_10 ?_
  refine lv_iconst (v := 2) hx hb dX12_agrees_11 (by decide) ?_
  refine lv_imul hx hb dX12_agrees_12 ?_
  refine lv_iload hx hb dX12_agrees_13 (lv_at hl 4 rfl) ?_
  refine lv_iadd hx hb dX12_agrees_15 ?_
  refine lv_lshr (v := (x0 >>> ((((((((x2 * (3 : Int32)) + x3) * (2 : Int32)) + x4) * (2 : Int32)) + x5) : Int32).toInt64 &&& 63))) hx hb dX12_agrees_16 rfl ?_
  refine lv_lconst (v := 1) hx hb dX12_agrees_17 (by decide) ?_
  refine lv_land hx hb dX12_agrees_18 ?_
  refine lv_l2i (v := (((x0 >>> ((((((((x2 * (3 : Int32)) + x3) * (2 : Int32)) + x4) * (2 : Int32)) + x5) : Int32).toInt64 &&& 63)) &&& (1 : Int64)) : Int64).toInt32) hx hb dX12_agrees_19 rfl ?_
  obtain rfl := Option.some.inj h
  exact W.iret (v := (((x0 >>> ((((((((x2 * (3 : Int32)) + x3) * (2 : Int32)) + x4) * (2 : Int32)) + x5) : Int32).toInt64 &&& 63)) &&& (1 : Int64)) : Int64).toInt32) hx hb hr (q_end hK hP hD hS) hS.2.2 dX12_agrees_20
abbrev rm_X12_rooms : Room := { frames := 1, cells := 0, slots := 0, locals := 30 }
set_option maxRecDepth 100000 in
set_option maxHeartbeats 8000000 in
theorem W_X12_rooms_L93 {p : Program} {e : Env} {s : State} {m : MethodId} {args : Array Value} {below : List Frame} {meth : Method} {c : Code} {A : Nat → Prop} (l : Launch) (D : va_G) (G : hG) (Z : hZ) (Y : va_W) (σ0 : hSt) (F : Nat) (x1 : Int64) (x3 : Int32) (σ1 : hSt) (y1 : Int64) (y3 : Int32) (y4 : Int32) (y5 : Int32) (y6 : Int32) (y7 : Int32) (y9 : Int32) (res : (Int32 × hSt)) (C0 : Cx p s m args meth c cX12_rooms (some .int) RX12 11 D G A) (hA : ∀ q : Nat, s.heap.size ≤ q → A q) (k142 : Int32 → Option (Int32 × hSt)) (hk142 : ∀ (z8 : Int32), k142 z8 = some res → ∀ (H : Heap) (locs : List Loc) (ls : Array Slot), va_P D vwCl (mW G Z Y σ1) H → va_D A (mW G Z Y σ1) → va_S A s.heap H locs → lv_has ls 11 [(1, .long y1), (3, .int y3), (4, .int y4), (5, .int y5), (6, .int y6), (7, .int y7), (8, .int z8), (9, .int y9)] → W p l e rm_X12_rooms s m args below meth c H locs 0 0 (MQ below (Qg (some (.int res.1)) D (tysG G) (mW G Z Y res.2) A) args s 0 0 A) (F0 m 142 ls [])) : ∀ (n : Nat) (z8 : Int32) (z10 : Int32), f_X12_rooms_L93 y1 y3 y4 y5 y6 y7 y9 k142 n z8 z10 = some res → ∀ (H : Heap) (locs : List Loc) (ls : Array Slot), va_P D vwCl (mW G Z Y σ1) H → va_D A (mW G Z Y σ1) → va_S A s.heap H locs → lv_has ls 11 [(1, .long y1), (3, .int y3), (4, .int y4), (5, .int y5), (6, .int y6), (7, .int y7), (8, .int z8), (9, .int y9), (10, .int z10)] → W p l e rm_X12_rooms s m args below meth c H locs 0 0 (MQ below (Qg (some (.int res.1)) D (tysG G) (mW G Z Y res.2) A) args s 0 0 A) (F0 m 93 ls []) := by
  obtain ⟨hx, hb, hr, hml, hown, hts, hlocks, hK, hE⟩ := id C0
  intro n
  induction n with
  | zero =>
    intro z8 z10 h
    cases h
  | succ n ih =>
    intro z8 z10 h H locs ls hP hD hS hl
    rw [f_X12_rooms_L93] at h
    refine lv_iload hx hb dX12_rooms_93 (lv_at hl 8 rfl) ?_
    refine lv_iconst (v := 3) hx hb dX12_rooms_95 (by decide) ?_
    refine lv_icmp_ge (tgt := 142) hx hb dX12_rooms_96 (by decide) (fun c11 => ?_) (fun c11 => ?_)
    · skip
      have h := f_t c11 h
      exact hk142 z8 h _ _ _ hP hD hS (lv_sub hl [0, 1, 2, 3, 4, 5, 6, 7] rfl)
    · skip
      have h := f_f c11 h
      refine lv_iload hx hb dX12_rooms_99 (lv_at hl 6 rfl) ?_
      refine lv_lload_n hx hb dX12_rooms_101 rfl (lv_at hl 0 rfl) ?_
      refine lv_iload hx hb dX12_rooms_102 (lv_at hl 7 rfl) ?_
      refine lv_iload hx hb dX12_rooms_104 (lv_at hl 8 rfl) ?_
      refine lv_iload hx hb dX12_rooms_106 (lv_at hl 3 rfl) ?_
      refine lv_iload hx hb dX12_rooms_108 (lv_at hl 7 rfl) ?_
      refine lv_ishr hx hb dX12_rooms_110 ?_
      refine lv_iconst (v := 1) hx hb dX12_rooms_111 (by decide) ?_
      refine lv_iand hx hb dX12_rooms_112 ?_
      refine lv_iload hx hb dX12_rooms_113 (lv_at hl 5 rfl) ?_
      refine lv_iconst (v := 3) hx hb dX12_rooms_115 (by decide) ?_
      refine lv_iload hx hb dX12_rooms_116 (lv_at hl 4 rfl) ?_
      refine lv_iload hx hb dX12_rooms_118 (lv_at hl 7 rfl) ?_
      refine lv_ishr hx hb dX12_rooms_120 ?_
      refine lv_iconst (v := 1) hx hb dX12_rooms_121 (by decide) ?_
      refine lv_iand hx hb dX12_rooms_122 ?_
      refine lv_imul hx hb dX12_rooms_123 ?_
      refine lv_iload hx hb dX12_rooms_124 (lv_at hl 8 rfl) ?_
      refine lv_iadd hx hb dX12_rooms_126 ?_
      refine lv_ishr hx hb dX12_rooms_127 ?_
      refine lv_iconst (v := 1) hx hb dX12_rooms_128 (by decide) ?_
      refine lv_iand hx hb dX12_rooms_129 ?_
      obtain ⟨q12, hq12, h⟩ := f_b h
      refine cl_S (w := (mW G Z Y σ1)) (w' := (mW G Z Y σ1)) (rv := some (.int q12)) (bytes := cX12_agrees) (maxL := 6) (ret := (some .int)) (As := [.long y1, .int y9, .int z10, .int ((y5 >>> (y9 &&& 31)) &&& (1 : Int32)), .int ((y7 >>> ((((3 : Int32) * ((y6 >>> (y9 &&& 31)) &&& (1 : Int32))) + z10) &&& 31)) &&& (1 : Int32))]) (rest := [.int z8]) (stk := [.int q12, .int z8]) ⟨hx, hb, hml, hown, hts⟩ hK hE hA hP hD hS (c_X12_agrees l D G (mW G Z Y σ1) y1 y9 z10 ((y5 >>> (y9 &&& 31)) &&& (1 : Int32)) ((y7 >>> ((((3 : Int32) * ((y6 >>> (y9 &&& 31)) &&& (1 : Int32))) + z10) &&& 31)) &&& (1 : Int32)) q12 hq12) (mkS hts wd_1849 wd_1850 wd_11 wd_1851 rfl rfl hd_X12_agrees ⟨Nat.le_of_ble_eq_true rfl, Nat.le_of_ble_eq_true rfl⟩) rfl hl.1 rfl (Nat.le_of_ble_eq_true rfl) dX12_rooms_130 ⟨Nat.zero_le _, Nat.zero_le _⟩ rfl (fun H locs hP hD hS => ?_)
      refine lv_iadd hx hb dX12_rooms_133 ?_
      refine lv_istore (lv' := [(8, .int (z8 + q12)), (1, .long y1), (3, .int y3), (4, .int y4), (5, .int y5), (6, .int y6), (7, .int y7), (9, .int y9), (10, .int z10)]) hx hb dX12_rooms_134 hl (by decide) rfl (fun ls hl => ?_)
      refine lv_iinc (v := (z10 + 1)) (lv' := [(10, .int (z10 + 1)), (8, .int (z8 + q12)), (1, .long y1), (3, .int y3), (4, .int y4), (5, .int y5), (6, .int y6), (7, .int y7), (9, .int y9)]) hx hb dX12_rooms_136 hl (k := 8) rfl rfl (by decide) rfl (fun ls hl => ?_)
      refine lv_goto (tgt := 93) hx hb dX12_rooms_139 (by decide) ?_
      exact ih (z8 + q12) (z10 + 1) h _ _ _ hP hD hS (lv_sub hl [2, 3, 4, 5, 6, 7, 1, 8, 0] rfl)
set_option maxRecDepth 100000 in
set_option maxHeartbeats 8000000 in
theorem W_X12_rooms_L84 {p : Program} {e : Env} {s : State} {m : MethodId} {args : Array Value} {below : List Frame} {meth : Method} {c : Code} {A : Nat → Prop} (l : Launch) (D : va_G) (G : hG) (Z : hZ) (Y : va_W) (σ0 : hSt) (F : Nat) (x1 : Int64) (x3 : Int32) (σ1 : hSt) (y1 : Int64) (y3 : Int32) (y4 : Int32) (y5 : Int32) (y6 : Int32) (y7 : Int32) (res : (Int32 × hSt)) (C0 : Cx p s m args meth c cX12_rooms (some .int) RX12 11 D G A) (hA : ∀ q : Nat, s.heap.size ≤ q → A q) (k148 : Int32 → Option (Int32 × hSt)) (hk148 : ∀ (z8 : Int32), k148 z8 = some res → ∀ (H : Heap) (locs : List Loc) (ls : Array Slot), va_P D vwCl (mW G Z Y σ1) H → va_D A (mW G Z Y σ1) → va_S A s.heap H locs → lv_has ls 11 [(1, .long y1), (3, .int y3), (4, .int y4), (5, .int y5), (6, .int y6), (7, .int y7), (8, .int z8)] → W p l e rm_X12_rooms s m args below meth c H locs 0 0 (MQ below (Qg (some (.int res.1)) D (tysG G) (mW G Z Y res.2) A) args s 0 0 A) (F0 m 148 ls [])) : ∀ (n : Nat) (z8 : Int32) (z9 : Int32), f_X12_rooms_L84 F y1 y3 y4 y5 y6 y7 k148 n z8 z9 = some res → ∀ (H : Heap) (locs : List Loc) (ls : Array Slot), va_P D vwCl (mW G Z Y σ1) H → va_D A (mW G Z Y σ1) → va_S A s.heap H locs → lv_has ls 11 [(1, .long y1), (3, .int y3), (4, .int y4), (5, .int y5), (6, .int y6), (7, .int y7), (8, .int z8), (9, .int z9)] → W p l e rm_X12_rooms s m args below meth c H locs 0 0 (MQ below (Qg (some (.int res.1)) D (tysG G) (mW G Z Y res.2) A) args s 0 0 A) (F0 m 84 ls []) := by
  obtain ⟨hx, hb, hr, hml, hown, hts, hlocks, hK, hE⟩ := id C0
  intro n
  induction n with
  | zero =>
    intro z8 z9 h
    cases h
  | succ n ih =>
    intro z8 z9 h H locs ls hP hD hS hl
    rw [f_X12_rooms_L84] at h
    refine lv_iload hx hb dX12_rooms_84 (lv_at hl 7 rfl) ?_
    refine lv_iconst (v := 3) hx hb dX12_rooms_86 (by decide) ?_
    refine lv_icmp_ge (tgt := 148) hx hb dX12_rooms_87 (by decide) (fun c10 => ?_) (fun c10 => ?_)
    · skip
      have h := f_t c10 h
      exact hk148 z8 h _ _ _ hP hD hS (lv_sub hl [0, 1, 2, 3, 4, 5, 6] rfl)
    · skip
      have h := f_f c10 h
      refine lv_iconst (v := 0) hx hb dX12_rooms_90 (by decide) ?_
      refine lv_istore (lv' := [(10, .int (0 : Int32)), (1, .long y1), (3, .int y3), (4, .int y4), (5, .int y5), (6, .int y6), (7, .int y7), (8, .int z8), (9, .int z9)]) hx hb dX12_rooms_91 hl (by decide) rfl (fun ls hl => ?_)
      refine W_X12_rooms_L93 l D G Z Y σ0 F x1 x3 σ1 y1 y3 y4 y5 y6 y7 z9 res C0 hA _ ?_ F z8 (0 : Int32) h _ _ _ hP hD hS (lv_sub hl [1, 2, 3, 4, 5, 6, 7, 8, 0] rfl)
      · intro z8 h H locs ls hP hD hS hl
        refine lv_iinc (v := (z9 + 1)) (lv' := [(9, .int (z9 + 1)), (1, .long y1), (3, .int y3), (4, .int y4), (5, .int y5), (6, .int y6), (7, .int y7), (8, .int z8)]) hx hb dX12_rooms_142 hl (k := 7) rfl rfl (by decide) rfl (fun ls hl => ?_)
        refine lv_goto (tgt := 84) hx hb dX12_rooms_145 (by decide) ?_
        exact ih z8 (z9 + 1) h _ _ _ hP hD hS (lv_sub hl [1, 2, 3, 4, 5, 6, 7, 0] rfl)
set_option maxRecDepth 100000 in
set_option maxHeartbeats 8000000 in
theorem W_X12_rooms_L62 {p : Program} {e : Env} {s : State} {m : MethodId} {args : Array Value} {below : List Frame} {meth : Method} {c : Code} {A : Nat → Prop} (l : Launch) (D : va_G) (G : hG) (Z : hZ) (Y : va_W) (σ0 : hSt) (F : Nat) (x1 : Int64) (x3 : Int32) (σ1 : hSt) (y1 : Int64) (y3 : Int32) (y5 : Int32) (y6 : Int32) (res : (Int32 × hSt)) (C0 : Cx p s m args meth c cX12_rooms (some .int) RX12 11 D G A) (hA : ∀ q : Nat, s.heap.size ≤ q → A q) (k163 : Int32 → Option (Int32 × hSt)) (hk163 : ∀ (z4 : Int32), k163 z4 = some res → ∀ (H : Heap) (locs : List Loc) (ls : Array Slot), va_P D vwCl (mW G Z Y σ1) H → va_D A (mW G Z Y σ1) → va_S A s.heap H locs → lv_has ls 11 [(1, .long y1), (3, .int y3), (4, .int z4), (5, .int y5), (6, .int y6)] → W p l e rm_X12_rooms s m args below meth c H locs 0 0 (MQ below (Qg (some (.int res.1)) D (tysG G) (mW G Z Y res.2) A) args s 0 0 A) (F0 m 163 ls [])) : ∀ (n : Nat) (z4 : Int32) (z7 : Int32), f_X12_rooms_L62 F y1 y3 y5 y6 k163 n z4 z7 = some res → ∀ (H : Heap) (locs : List Loc) (ls : Array Slot), va_P D vwCl (mW G Z Y σ1) H → va_D A (mW G Z Y σ1) → va_S A s.heap H locs → lv_has ls 11 [(1, .long y1), (3, .int y3), (4, .int z4), (5, .int y5), (6, .int y6), (7, .int z7)] → W p l e rm_X12_rooms s m args below meth c H locs 0 0 (MQ below (Qg (some (.int res.1)) D (tysG G) (mW G Z Y res.2) A) args s 0 0 A) (F0 m 62 ls []) := by
  obtain ⟨hx, hb, hr, hml, hown, hts, hlocks, hK, hE⟩ := id C0
  intro n
  induction n with
  | zero =>
    intro z4 z7 h
    cases h
  | succ n ih =>
    intro z4 z7 h H locs ls hP hD hS hl
    rw [f_X12_rooms_L62] at h
    refine lv_iload hx hb dX12_rooms_62 (lv_at hl 5 rfl) ?_
    refine lv_iload_n hx hb dX12_rooms_64 rfl (lv_at hl 1 rfl) ?_
    refine lv_if_ne (tgt := 73) hx hb dX12_rooms_65 (by decide) (fun c8 => ?_) (fun c8 => ?_)
    · skip
      have h := f_f c8 h
      refine lv_bipush (v := 64) hx hb dX12_rooms_73 (by decide) ?_
      refine lv_icmp_ge (tgt := 163) hx hb dX12_rooms_75 (by decide) (fun c9 => ?_) (fun c9 => ?_)
      · skip
        have h := f_t c9 h
        exact hk163 z4 h _ _ _ hP hD hS (lv_sub hl [0, 1, 2, 3, 4] rfl)
      · skip
        have h := f_f c9 h
        refine lv_iconst (v := 0) hx hb dX12_rooms_78 (by decide) ?_
        refine lv_istore (lv' := [(8, .int (0 : Int32)), (1, .long y1), (3, .int y3), (4, .int z4), (5, .int y5), (6, .int y6), (7, .int z7)]) hx hb dX12_rooms_79 hl (by decide) rfl (fun ls hl => ?_)
        refine lv_iconst (v := 0) hx hb dX12_rooms_81 (by decide) ?_
        refine lv_istore (lv' := [(9, .int (0 : Int32)), (8, .int (0 : Int32)), (1, .long y1), (3, .int y3), (4, .int z4), (5, .int y5), (6, .int y6), (7, .int z7)]) hx hb dX12_rooms_82 hl (by decide) rfl (fun ls hl => ?_)
        refine W_X12_rooms_L84 l D G Z Y σ0 F x1 x3 σ1 y1 y3 z4 y5 y6 z7 res C0 hA _ ?_ F (0 : Int32) (0 : Int32) h _ _ _ hP hD hS (lv_sub hl [2, 3, 4, 5, 6, 7, 1, 0] rfl)
        · intro z8 h H locs ls hP hD hS hl
          refine lv_iload hx hb dX12_rooms_148 (lv_at hl 2 rfl) ?_
          refine lv_iload hx hb dX12_rooms_150 (lv_at hl 6 rfl) ?_
          refine va_mmax hx hb (hml.trans hl.1.symm) hown (hts _ wd_1476) (hts _ wd_328) (hts _ wd_12) (hts _ wd_329) (Nat.le_of_ble_eq_true rfl) (Nat.le_of_ble_eq_true rfl) (Nat.zero_le _) (Nat.zero_le _) dX12_rooms_152 ?_
          refine lv_istore (lv' := [(4, .int (if z4 < z8 then z8 else z4)), (1, .long y1), (3, .int y3), (5, .int y5), (6, .int y6), (7, .int z7), (8, .int z8)]) hx hb dX12_rooms_155 hl (by decide) rfl (fun ls hl => ?_)
          refine lv_iinc (v := (z7 + 1)) (lv' := [(7, .int (z7 + 1)), (4, .int (if z4 < z8 then z8 else z4)), (1, .long y1), (3, .int y3), (5, .int y5), (6, .int y6), (8, .int z8)]) hx hb dX12_rooms_157 hl (k := 5) rfl rfl (by decide) rfl (fun ls hl => ?_)
          refine lv_goto (tgt := 62) hx hb dX12_rooms_160 (by decide) ?_
          exact ih (if z4 < z8 then z8 else z4) (z7 + 1) h _ _ _ hP hD hS (lv_sub hl [2, 3, 1, 4, 5, 0] rfl)
    · skip
      have h := f_t c8 h
      refine lv_bipush (v := 8) hx hb dX12_rooms_68 (by decide) ?_
      refine lv_goto (tgt := 75) hx hb dX12_rooms_70 (by decide) ?_
      refine lv_icmp_ge (tgt := 163) hx hb dX12_rooms_75 (by decide) (fun c13 => ?_) (fun c13 => ?_)
      · skip
        have h := f_t c13 h
        exact hk163 z4 h _ _ _ hP hD hS (lv_sub hl [0, 1, 2, 3, 4] rfl)
      · skip
        have h := f_f c13 h
        refine lv_iconst (v := 0) hx hb dX12_rooms_78 (by decide) ?_
        refine lv_istore (lv' := [(8, .int (0 : Int32)), (1, .long y1), (3, .int y3), (4, .int z4), (5, .int y5), (6, .int y6), (7, .int z7)]) hx hb dX12_rooms_79 hl (by decide) rfl (fun ls hl => ?_)
        refine lv_iconst (v := 0) hx hb dX12_rooms_81 (by decide) ?_
        refine lv_istore (lv' := [(9, .int (0 : Int32)), (8, .int (0 : Int32)), (1, .long y1), (3, .int y3), (4, .int z4), (5, .int y5), (6, .int y6), (7, .int z7)]) hx hb dX12_rooms_82 hl (by decide) rfl (fun ls hl => ?_)
        refine W_X12_rooms_L84 l D G Z Y σ0 F x1 x3 σ1 y1 y3 z4 y5 y6 z7 res C0 hA _ ?_ F (0 : Int32) (0 : Int32) h _ _ _ hP hD hS (lv_sub hl [2, 3, 4, 5, 6, 7, 1, 0] rfl)
        · intro z8 h H locs ls hP hD hS hl
          refine lv_iload hx hb dX12_rooms_148 (lv_at hl 2 rfl) ?_
          refine lv_iload hx hb dX12_rooms_150 (lv_at hl 6 rfl) ?_
          refine va_mmax hx hb (hml.trans hl.1.symm) hown (hts _ wd_1476) (hts _ wd_328) (hts _ wd_12) (hts _ wd_329) (Nat.le_of_ble_eq_true rfl) (Nat.le_of_ble_eq_true rfl) (Nat.zero_le _) (Nat.zero_le _) dX12_rooms_152 ?_
          refine lv_istore (lv' := [(4, .int (if z4 < z8 then z8 else z4)), (1, .long y1), (3, .int y3), (5, .int y5), (6, .int y6), (7, .int z7), (8, .int z8)]) hx hb dX12_rooms_155 hl (by decide) rfl (fun ls hl => ?_)
          refine lv_iinc (v := (z7 + 1)) (lv' := [(7, .int (z7 + 1)), (4, .int (if z4 < z8 then z8 else z4)), (1, .long y1), (3, .int y3), (5, .int y5), (6, .int y6), (8, .int z8)]) hx hb dX12_rooms_157 hl (k := 5) rfl rfl (by decide) rfl (fun ls hl => ?_)
          refine lv_goto (tgt := 62) hx hb dX12_rooms_160 (by decide) ?_
          exact ih (if z4 < z8 then z8 else z4) (z7 + 1) h _ _ _ hP hD hS (lv_sub hl [2, 3, 1, 4, 5, 0] rfl)
set_option maxRecDepth 100000 in
set_option maxHeartbeats 8000000 in
theorem W_X12_rooms_L44 {p : Program} {e : Env} {s : State} {m : MethodId} {args : Array Value} {below : List Frame} {meth : Method} {c : Code} {A : Nat → Prop} (l : Launch) (D : va_G) (G : hG) (Z : hZ) (Y : va_W) (σ0 : hSt) (F : Nat) (x1 : Int64) (x3 : Int32) (σ1 : hSt) (y1 : Int64) (y3 : Int32) (y5 : Int32) (res : (Int32 × hSt)) (C0 : Cx p s m args meth c cX12_rooms (some .int) RX12 11 D G A) (hA : ∀ q : Nat, s.heap.size ≤ q → A q) (k169 : Int32 → Option (Int32 × hSt)) (hk169 : ∀ (z4 : Int32), k169 z4 = some res → ∀ (H : Heap) (locs : List Loc) (ls : Array Slot), va_P D vwCl (mW G Z Y σ1) H → va_D A (mW G Z Y σ1) → va_S A s.heap H locs → lv_has ls 11 [(1, .long y1), (3, .int y3), (4, .int z4), (5, .int y5)] → W p l e rm_X12_rooms s m args below meth c H locs 0 0 (MQ below (Qg (some (.int res.1)) D (tysG G) (mW G Z Y res.2) A) args s 0 0 A) (F0 m 169 ls [])) : ∀ (n : Nat) (z4 : Int32) (z6 : Int32), f_X12_rooms_L44 F y1 y3 y5 k169 n z4 z6 = some res → ∀ (H : Heap) (locs : List Loc) (ls : Array Slot), va_P D vwCl (mW G Z Y σ1) H → va_D A (mW G Z Y σ1) → va_S A s.heap H locs → lv_has ls 11 [(1, .long y1), (3, .int y3), (4, .int z4), (5, .int y5), (6, .int z6)] → W p l e rm_X12_rooms s m args below meth c H locs 0 0 (MQ below (Qg (some (.int res.1)) D (tysG G) (mW G Z Y res.2) A) args s 0 0 A) (F0 m 44 ls []) := by
  obtain ⟨hx, hb, hr, hml, hown, hts, hlocks, hK, hE⟩ := id C0
  intro n
  induction n with
  | zero =>
    intro z4 z6 h
    cases h
  | succ n ih =>
    intro z4 z6 h H locs ls hP hD hS hl
    rw [f_X12_rooms_L44] at h
    refine lv_iload hx hb dX12_rooms_44 (lv_at hl 4 rfl) ?_
    refine lv_iload_n hx hb dX12_rooms_46 rfl (lv_at hl 1 rfl) ?_
    refine lv_if_ne (tgt := 54) hx hb dX12_rooms_47 (by decide) (fun c6 => ?_) (fun c6 => ?_)
    · skip
      have h := f_f c6 h
      refine lv_bipush (v := 8) hx hb dX12_rooms_54 (by decide) ?_
      refine lv_icmp_ge (tgt := 169) hx hb dX12_rooms_56 (by decide) (fun c7 => ?_) (fun c7 => ?_)
      · skip
        have h := f_t c7 h
        exact hk169 z4 h _ _ _ hP hD hS (lv_sub hl [0, 1, 2, 3] rfl)
      · skip
        have h := f_f c7 h
        refine lv_iconst (v := 0) hx hb dX12_rooms_59 (by decide) ?_
        refine lv_istore (lv' := [(7, .int (0 : Int32)), (1, .long y1), (3, .int y3), (4, .int z4), (5, .int y5), (6, .int z6)]) hx hb dX12_rooms_60 hl (by decide) rfl (fun ls hl => ?_)
        refine W_X12_rooms_L62 l D G Z Y σ0 F x1 x3 σ1 y1 y3 y5 z6 res C0 hA _ ?_ F z4 (0 : Int32) h _ _ _ hP hD hS (lv_sub hl [1, 2, 3, 4, 5, 0] rfl)
        · intro z4 h H locs ls hP hD hS hl
          refine lv_iinc (v := (z6 + 1)) (lv' := [(6, .int (z6 + 1)), (1, .long y1), (3, .int y3), (4, .int z4), (5, .int y5)]) hx hb dX12_rooms_163 hl (k := 4) rfl rfl (by decide) rfl (fun ls hl => ?_)
          refine lv_goto (tgt := 44) hx hb dX12_rooms_166 (by decide) ?_
          exact ih z4 (z6 + 1) h _ _ _ hP hD hS (lv_sub hl [1, 2, 3, 4, 0] rfl)
    · skip
      have h := f_t c6 h
      refine lv_iconst (v := 1) hx hb dX12_rooms_50 (by decide) ?_
      refine lv_goto (tgt := 56) hx hb dX12_rooms_51 (by decide) ?_
      refine lv_icmp_ge (tgt := 169) hx hb dX12_rooms_56 (by decide) (fun c14 => ?_) (fun c14 => ?_)
      · skip
        have h := f_t c14 h
        exact hk169 z4 h _ _ _ hP hD hS (lv_sub hl [0, 1, 2, 3] rfl)
      · skip
        have h := f_f c14 h
        refine lv_iconst (v := 0) hx hb dX12_rooms_59 (by decide) ?_
        refine lv_istore (lv' := [(7, .int (0 : Int32)), (1, .long y1), (3, .int y3), (4, .int z4), (5, .int y5), (6, .int z6)]) hx hb dX12_rooms_60 hl (by decide) rfl (fun ls hl => ?_)
        refine W_X12_rooms_L62 l D G Z Y σ0 F x1 x3 σ1 y1 y3 y5 z6 res C0 hA _ ?_ F z4 (0 : Int32) h _ _ _ hP hD hS (lv_sub hl [1, 2, 3, 4, 5, 0] rfl)
        · intro z4 h H locs ls hP hD hS hl
          refine lv_iinc (v := (z6 + 1)) (lv' := [(6, .int (z6 + 1)), (1, .long y1), (3, .int y3), (4, .int z4), (5, .int y5)]) hx hb dX12_rooms_163 hl (k := 4) rfl rfl (by decide) rfl (fun ls hl => ?_)
          refine lv_goto (tgt := 44) hx hb dX12_rooms_166 (by decide) ?_
          exact ih z4 (z6 + 1) h _ _ _ hP hD hS (lv_sub hl [1, 2, 3, 4, 0] rfl)
set_option maxRecDepth 100000 in
set_option maxHeartbeats 8000000 in
theorem W_X12_rooms_L34 {p : Program} {e : Env} {s : State} {m : MethodId} {args : Array Value} {below : List Frame} {meth : Method} {c : Code} {A : Nat → Prop} (l : Launch) (D : va_G) (G : hG) (Z : hZ) (Y : va_W) (σ0 : hSt) (F : Nat) (x1 : Int64) (x3 : Int32) (σ1 : hSt) (y1 : Int64) (y3 : Int32) (res : (Int32 × hSt)) (C0 : Cx p s m args meth c cX12_rooms (some .int) RX12 11 D G A) (hA : ∀ q : Nat, s.heap.size ≤ q → A q) : ∀ (n : Nat) (z4 : Int32) (z5 : Int32), f_X12_rooms_L34 F σ1 y1 y3 n z4 z5 = some res → ∀ (H : Heap) (locs : List Loc) (ls : Array Slot), va_P D vwCl (mW G Z Y σ1) H → va_D A (mW G Z Y σ1) → va_S A s.heap H locs → lv_has ls 11 [(1, .long y1), (3, .int y3), (4, .int z4), (5, .int z5)] → W p l e rm_X12_rooms s m args below meth c H locs 0 0 (MQ below (Qg (some (.int res.1)) D (tysG G) (mW G Z Y res.2) A) args s 0 0 A) (F0 m 34 ls []) := by
  obtain ⟨hx, hb, hr, hml, hown, hts, hlocks, hK, hE⟩ := id C0
  intro n
  induction n with
  | zero =>
    intro z4 z5 h
    cases h
  | succ n ih =>
    intro z4 z5 h H locs ls hP hD hS hl
    rw [f_X12_rooms_L34] at h
    refine lv_iload hx hb dX12_rooms_34 (lv_at hl 3 rfl) ?_
    refine lv_bipush (v := 8) hx hb dX12_rooms_36 (by decide) ?_
    refine lv_icmp_ge (tgt := 175) hx hb dX12_rooms_38 (by decide) (fun c5 => ?_) (fun c5 => ?_)
    · skip
      have h := f_t c5 h
      refine lv_iload hx hb dX12_rooms_175 (lv_at hl 2 rfl) ?_
      obtain rfl := Option.some.inj h
      exact W.iret (v := z4) hx hb hr (q_end hK hP hD hS) hS.2.2 dX12_rooms_177
    · skip
      have h := f_f c5 h
      refine lv_iconst (v := 0) hx hb dX12_rooms_41 (by decide) ?_
      refine lv_istore (lv' := [(6, .int (0 : Int32)), (1, .long y1), (3, .int y3), (4, .int z4), (5, .int z5)]) hx hb dX12_rooms_42 hl (by decide) rfl (fun ls hl => ?_)
      refine W_X12_rooms_L44 l D G Z Y σ0 F x1 x3 σ1 y1 y3 z5 res C0 hA _ ?_ F z4 (0 : Int32) h _ _ _ hP hD hS (lv_sub hl [1, 2, 3, 4, 0] rfl)
      · intro z4 h H locs ls hP hD hS hl
        refine lv_iinc (v := (z5 + 1)) (lv' := [(5, .int (z5 + 1)), (1, .long y1), (3, .int y3), (4, .int z4)]) hx hb dX12_rooms_169 hl (k := 3) rfl rfl (by decide) rfl (fun ls hl => ?_)
        refine lv_goto (tgt := 34) hx hb dX12_rooms_172 (by decide) ?_
        exact ih z4 (z5 + 1) h _ _ _ hP hD hS (lv_sub hl [1, 2, 3, 0] rfl)
set_option maxRecDepth 100000 in
set_option maxHeartbeats 8000000 in
theorem c_X12_rooms (l : Launch) (D : va_G) (G : hG) (Z : hZ) (Y : va_W) (σ0 : hSt) (F : Nat) (x1 : Int64) (x3 : Int32) (res : (Int32 × hSt)) (h : f_X12_rooms F Z σ0 x1 x3 = some res) : CT l yX12_rooms cX12_rooms 11 (some .int) rm_X12_rooms D G 0 0 [.ref (G.2.1 200), .long x1, .int x3] (mW G Z Y σ0) (mW G Z Y res.2) (some (.int res.1)) := by
  unfold f_X12_rooms at h
  refine CT.mk (cc := cX12_rooms) (maxL := 11) (ret := (some .int)) (own := RX12) (plainFor_of_name (by decide)) rfl (Nat.le_of_ble_eq_true rfl) ?_
  intro p e s m args below meth c A ls C0 hnm hA hP hD hl
  obtain ⟨hx, hb, hr, hml, hown, hts, hlocks, hK, hE⟩ := id C0
  have hS : va_S A s.heap s.heap [] := va_S.rf
  have hl : lv_has ls 11 [(0, .ref (G.2.1 200)), (1, .long x1), (3, .int x3)] := hl
  refine lv_aload_n hx hb dX12_rooms_0 rfl (lv_at hl 0 rfl) ?_
  refine lv_iconst (v := 0) hx hb dX12_rooms_1 (by decide) ?_
  refine va_put (D := D) (ci := 12) (v := .int (0 : Int32)) (ty := .int) (C := RX12) (T := TX12) (N := 59) hx hb hts inU_X12 tyX12 tyX12_ok nmX12 hown hK hP hD hS _ (mg_200 G Z Y σ0) rfl 0 (by decide) (hts _ wd_1248) (fun _ h9 => h9) rfl (by decide +kernel) rfl rfl (Nat.le_of_ble_eq_true rfl) dX12_rooms_2 (fun H locs hP hD hS => ?_)
  have hP := wrP (mp_200_0 G Z Y σ0 (0 : Int32)) hP
  have hD := wrD (mp_200_0 G Z Y σ0 (0 : Int32)) hD
  refine lv_lload_n hx hb dX12_rooms_5 rfl (lv_at hl 1 rfl) ?_
  refine lv_lconst (v := 0) hx hb dX12_rooms_6 (by decide) ?_
  refine lv_ldc2 (v := 68719476735) hx hb hown (hts _ wd_1848) dX12_rooms_7 ?_
  obtain ⟨q1, hq1, h⟩ := f_b h
  refine cl_S (w := (mW G Z Y (sI σ0 200 0 (0 : Int32)))) (w' := (mW G Z Y (sI σ0 200 0 (0 : Int32)))) (rv := some (.int q1)) (bytes := cX12_isIn) (maxL := 6) (ret := (some .boolean)) (As := [.long x1, .long (0 : Int64), .long (68719476735 : Int64)]) (rest := []) (stk := [.int q1]) ⟨hx, hb, hml, hown, hts⟩ hK hE hA hP hD hS (c_X12_isIn l D G (mW G Z Y (sI σ0 200 0 (0 : Int32))) x1 (0 : Int64) (68719476735 : Int64) q1 hq1) (mkS hts wd_1498 wd_1499 wd_11 wd_1500 rfl rfl hd_X12_isIn ⟨Nat.le_of_ble_eq_true rfl, Nat.le_of_ble_eq_true rfl⟩) rfl hl.1 rfl (Nat.le_of_ble_eq_true rfl) dX12_rooms_10 ⟨Nat.zero_le _, Nat.zero_le _⟩ rfl (fun H locs hP hD hS => ?_)
  refine lv_if_eq (tgt := 26) hx hb dX12_rooms_13 (by decide) (fun c2 => ?_) (fun c2 => ?_)
  · skip
    have h := f_t c2 h
    refine lv_iconst (v := (-1)) hx hb dX12_rooms_26 (by decide) ?_
    obtain rfl := Option.some.inj h
    exact W.iret (v := (-1 : Int32)) hx hb hr (q_end hK hP hD hS) hS.2.2 dX12_rooms_27
  · skip
    have h := f_f c2 h
    refine lv_iload_n hx hb dX12_rooms_16 rfl (lv_at hl 2 rfl) ?_
    refine lv_i2l (v := (x3 : Int32).toInt64) hx hb dX12_rooms_17 rfl ?_
    refine lv_lconst (v := 0) hx hb dX12_rooms_18 (by decide) ?_
    refine lv_lconst (v := 1) hx hb dX12_rooms_19 (by decide) ?_
    obtain ⟨q3, hq3, h⟩ := f_b h
    refine cl_S (w := (mW G Z Y (sI σ0 200 0 (0 : Int32)))) (w' := (mW G Z Y (sI σ0 200 0 (0 : Int32)))) (rv := some (.int q3)) (bytes := cX12_isIn) (maxL := 6) (ret := (some .boolean)) (As := [.long (x3 : Int32).toInt64, .long (0 : Int64), .long (1 : Int64)]) (rest := []) (stk := [.int q3]) ⟨hx, hb, hml, hown, hts⟩ hK hE hA hP hD hS (c_X12_isIn l D G (mW G Z Y (sI σ0 200 0 (0 : Int32))) ((x3 : Int32).toInt64) (0 : Int64) (1 : Int64) q3 hq3) (mkS hts wd_1498 wd_1499 wd_11 wd_1500 rfl rfl hd_X12_isIn ⟨Nat.le_of_ble_eq_true rfl, Nat.le_of_ble_eq_true rfl⟩) rfl hl.1 rfl (Nat.le_of_ble_eq_true rfl) dX12_rooms_20 ⟨Nat.zero_le _, Nat.zero_le _⟩ rfl (fun H locs hP hD hS => ?_)
    refine lv_if_ne (tgt := 28) hx hb dX12_rooms_23 (by decide) (fun c4 => ?_) (fun c4 => ?_)
    · skip
      have h := f_f c4 h
      refine lv_iconst (v := 0) hx hb dX12_rooms_28 (by decide) ?_
      refine lv_istore (lv' := [(4, .int (0 : Int32)), (0, .ref (G.2.1 200)), (1, .long x1), (3, .int x3)]) hx hb dX12_rooms_29 hl (by decide) rfl (fun ls hl => ?_)
      refine lv_iconst (v := 0) hx hb dX12_rooms_31 (by decide) ?_
      refine lv_istore (lv' := [(5, .int (0 : Int32)), (4, .int (0 : Int32)), (0, .ref (G.2.1 200)), (1, .long x1), (3, .int x3)]) hx hb dX12_rooms_32 hl (by decide) rfl (fun ls hl => ?_)
      refine W_X12_rooms_L34 l D G Z Y σ0 F x1 x3 (sI σ0 200 0 (0 : Int32)) x1 x3 res C0 hA F (0 : Int32) (0 : Int32) h _ _ _ hP hD hS (lv_sub hl [3, 4, 1, 0] rfl)
    · skip
      have h := f_t c4 h
      refine lv_iconst (v := (-1)) hx hb dX12_rooms_26 (by decide) ?_
      obtain rfl := Option.some.inj h
      exact W.iret (v := (-1 : Int32)) hx hb hr (q_end hK hP hD hS) hS.2.2 dX12_rooms_27
abbrev rm_X12_cell : Room := { frames := 0, cells := 0, slots := 0, locals := 0 }
set_option maxRecDepth 100000 in
set_option maxHeartbeats 8000000 in
theorem c_X12_cell (l : Launch) (D : va_G) (G : hG) (w : va_W) (x0 : Int32) (x1 : Int32) (res : Int32) (h : f_X12_cell x0 x1 = some res) : CT l yX12_cell cX12_cell 2 (some .int) rm_X12_cell D G 0 0 [.int x0, .int x1] w w (some (.int res)) := by
  unfold f_X12_cell at h
  refine CT.mk (cc := cX12_cell) (maxL := 2) (ret := (some .int)) (own := RX12) (plainFor_of_name (by decide)) rfl (Nat.le_of_ble_eq_true rfl) ?_
  intro p e s m args below meth c A ls C0 hnm hA hP hD hl
  obtain ⟨hx, hb, hr, hml, hown, hts, hlocks, hK, hE⟩ := id C0
  have hS : va_S A s.heap s.heap [] := va_S.rf
  have hl : lv_has ls 2 [(0, .int x0), (1, .int x1)] := hl
  refine lv_iload_n hx hb dX12_cell_0 rfl (lv_at hl 0 rfl) ?_
  refine lv_iload_n hx hb dX12_cell_1 rfl (lv_at hl 1 rfl) ?_
  refine lv_ishr hx hb dX12_cell_2 ?_
  refine lv_iconst (v := 1) hx hb dX12_cell_3 (by decide) ?_
  refine lv_iand hx hb dX12_cell_4 ?_
  obtain rfl := Option.some.inj h
  exact W.iret (v := ((x0 >>> (x1 &&& 31)) &&& (1 : Int32))) hx hb hr (q_end hK hP hD hS) hS.2.2 dX12_cell_5
abbrev rm_X12_caughtBy : Room := { frames := 1, cells := 0, slots := 0, locals := 21 }
set_option maxRecDepth 100000 in
set_option maxHeartbeats 8000000 in
theorem W_X12_caughtBy_L14 {p : Program} {e : Env} {s : State} {m : MethodId} {args : Array Value} {below : List Frame} {meth : Method} {c : Code} {A : Nat → Prop} (l : Launch) (D : va_G) (G : hG) (w : va_W) (F : Nat) (x0 : Int32) (x1 : Int32) (y0 : Int32) (y1 : Int32) (y3 : Int32) (res : Int32) (C0 : Cx p s m args meth c cX12_caughtBy (some .int) RX12 5 D G A) (hA : ∀ q : Nat, s.heap.size ≤ q → A q) (k59 : Int32 → Option Int32) (hk59 : ∀ (z2 : Int32), k59 z2 = some res → ∀ (H : Heap) (locs : List Loc) (ls : Array Slot), va_P D vwCl w H → va_D A w → va_S A s.heap H locs → lv_has ls 5 [(0, .int y0), (1, .int y1), (2, .int z2), (3, .int y3)] → W p l e rm_X12_caughtBy s m args below meth c H locs 0 0 (MQ below (Qg (some (.int res)) D (tysG G) w A) args s 0 0 A) (F0 m 59 ls [])) : ∀ (n : Nat) (z2 : Int32) (z4 : Int32), f_X12_caughtBy_L14 y0 y1 y3 k59 n z2 z4 = some res → ∀ (H : Heap) (locs : List Loc) (ls : Array Slot), va_P D vwCl w H → va_D A w → va_S A s.heap H locs → lv_has ls 5 [(0, .int y0), (1, .int y1), (2, .int z2), (3, .int y3), (4, .int z4)] → W p l e rm_X12_caughtBy s m args below meth c H locs 0 0 (MQ below (Qg (some (.int res)) D (tysG G) w A) args s 0 0 A) (F0 m 14 ls []) := by
  obtain ⟨hx, hb, hr, hml, hown, hts, hlocks, hK, hE⟩ := id C0
  intro n
  induction n with
  | zero =>
    intro z2 z4 h
    cases h
  | succ n ih =>
    intro z2 z4 h H locs ls hP hD hS hl
    rw [f_X12_caughtBy_L14] at h
    refine lv_iload hx hb dX12_caughtBy_14 (lv_at hl 4 rfl) ?_
    refine lv_iconst (v := 1) hx hb dX12_caughtBy_16 (by decide) ?_
    refine lv_iload_n hx hb dX12_caughtBy_17 rfl (lv_at hl 0 rfl) ?_
    refine lv_ishl hx hb dX12_caughtBy_18 ?_
    refine lv_icmp_ge (tgt := 59) hx hb dX12_caughtBy_19 (by decide) (fun c2 => ?_) (fun c2 => ?_)
    · skip
      have h := f_t c2 h
      exact hk59 z2 h _ _ _ hP hD hS (lv_sub hl [0, 1, 2, 3] rfl)
    · skip
      have h := f_f c2 h
      refine lv_iload_n hx hb dX12_caughtBy_22 rfl (lv_at hl 2 rfl) ?_
      refine lv_iload_n hx hb dX12_caughtBy_23 rfl (lv_at hl 1 rfl) ?_
      refine lv_iload_n hx hb dX12_caughtBy_24 rfl (lv_at hl 3 rfl) ?_
      refine lv_iload hx hb dX12_caughtBy_25 (lv_at hl 4 rfl) ?_
      refine lv_ixor hx hb dX12_caughtBy_27 ?_
      obtain ⟨q3, hq3, h⟩ := f_b h
      refine cl_S (w := w) (w' := w) (rv := some (.int q3)) (bytes := cX12_cell) (maxL := 2) (ret := (some .int)) (As := [.int y1, .int (y3 ^^^ z4)]) (rest := [.int z2]) (stk := [.int q3, .int z2]) ⟨hx, hb, hml, hown, hts⟩ hK hE hA hP hD hS (c_X12_cell l D G w y1 (y3 ^^^ z4) q3 hq3) (mkS hts wd_1863 wd_1864 wd_11 wd_1865 rfl rfl hd_X12_cell ⟨Nat.le_of_ble_eq_true rfl, Nat.le_of_ble_eq_true rfl⟩) rfl hl.1 rfl (Nat.le_of_ble_eq_true rfl) dX12_caughtBy_28 ⟨Nat.zero_le _, Nat.zero_le _⟩ rfl (fun H locs hP hD hS => ?_)
      refine lv_iload_n hx hb dX12_caughtBy_31 rfl (lv_at hl 1 rfl) ?_
      refine lv_iload_n hx hb dX12_caughtBy_32 rfl (lv_at hl 3 rfl) ?_
      obtain ⟨q4, hq4, h⟩ := f_b h
      refine cl_S (w := w) (w' := w) (rv := some (.int q4)) (bytes := cX12_cell) (maxL := 2) (ret := (some .int)) (As := [.int y1, .int y3]) (rest := [.int q3, .int z2]) (stk := [.int q4, .int q3, .int z2]) ⟨hx, hb, hml, hown, hts⟩ hK hE hA hP hD hS (c_X12_cell l D G w y1 y3 q4 hq4) (mkS hts wd_1863 wd_1864 wd_11 wd_1865 rfl rfl hd_X12_cell ⟨Nat.le_of_ble_eq_true rfl, Nat.le_of_ble_eq_true rfl⟩) rfl hl.1 rfl (Nat.le_of_ble_eq_true rfl) dX12_caughtBy_33 ⟨Nat.zero_le _, Nat.zero_le _⟩ rfl (fun H locs hP hD hS => ?_)
      refine lv_iload_n hx hb dX12_caughtBy_36 rfl (lv_at hl 1 rfl) ?_
      refine lv_iload hx hb dX12_caughtBy_37 (lv_at hl 4 rfl) ?_
      obtain ⟨q5, hq5, h⟩ := f_b h
      refine cl_S (w := w) (w' := w) (rv := some (.int q5)) (bytes := cX12_cell) (maxL := 2) (ret := (some .int)) (As := [.int y1, .int z4]) (rest := [.int q4, .int q3, .int z2]) (stk := [.int q5, .int q4, .int q3, .int z2]) ⟨hx, hb, hml, hown, hts⟩ hK hE hA hP hD hS (c_X12_cell l D G w y1 z4 q5 hq5) (mkS hts wd_1863 wd_1864 wd_11 wd_1865 rfl rfl hd_X12_cell ⟨Nat.le_of_ble_eq_true rfl, Nat.le_of_ble_eq_true rfl⟩) rfl hl.1 rfl (Nat.le_of_ble_eq_true rfl) dX12_caughtBy_39 ⟨Nat.zero_le _, Nat.zero_le _⟩ rfl (fun H locs hP hD hS => ?_)
      refine lv_ixor hx hb dX12_caughtBy_42 ?_
      refine lv_icmp_eq (tgt := 50) hx hb dX12_caughtBy_43 (by decide) (fun c6 => ?_) (fun c6 => ?_)
      · skip
        have h := f_t c6 h
        refine lv_iconst (v := 0) hx hb dX12_caughtBy_50 (by decide) ?_
        refine lv_iadd hx hb dX12_caughtBy_51 ?_
        refine lv_istore_n (lv' := [(2, .int (z2 + (0 : Int32))), (0, .int y0), (1, .int y1), (3, .int y3), (4, .int z4)]) hx hb dX12_caughtBy_52 rfl hl (by decide) rfl (fun ls hl => ?_)
        refine lv_iinc (v := (z4 + 1)) (lv' := [(4, .int (z4 + 1)), (2, .int (z2 + (0 : Int32))), (0, .int y0), (1, .int y1), (3, .int y3)]) hx hb dX12_caughtBy_53 hl (k := 4) rfl rfl (by decide) rfl (fun ls hl => ?_)
        refine lv_goto (tgt := 14) hx hb dX12_caughtBy_56 (by decide) ?_
        exact ih (z2 + (0 : Int32)) (z4 + 1) h _ _ _ hP hD hS (lv_sub hl [2, 3, 1, 4, 0] rfl)
      · skip
        have h := f_f c6 h
        refine lv_iconst (v := 1) hx hb dX12_caughtBy_46 (by decide) ?_
        refine lv_goto (tgt := 51) hx hb dX12_caughtBy_47 (by decide) ?_
        refine lv_iadd hx hb dX12_caughtBy_51 ?_
        refine lv_istore_n (lv' := [(2, .int (z2 + (1 : Int32))), (0, .int y0), (1, .int y1), (3, .int y3), (4, .int z4)]) hx hb dX12_caughtBy_52 rfl hl (by decide) rfl (fun ls hl => ?_)
        refine lv_iinc (v := (z4 + 1)) (lv' := [(4, .int (z4 + 1)), (2, .int (z2 + (1 : Int32))), (0, .int y0), (1, .int y1), (3, .int y3)]) hx hb dX12_caughtBy_53 hl (k := 4) rfl rfl (by decide) rfl (fun ls hl => ?_)
        refine lv_goto (tgt := 14) hx hb dX12_caughtBy_56 (by decide) ?_
        exact ih (z2 + (1 : Int32)) (z4 + 1) h _ _ _ hP hD hS (lv_sub hl [2, 3, 1, 4, 0] rfl)
set_option maxRecDepth 100000 in
set_option maxHeartbeats 8000000 in
theorem W_X12_caughtBy_L4 {p : Program} {e : Env} {s : State} {m : MethodId} {args : Array Value} {below : List Frame} {meth : Method} {c : Code} {A : Nat → Prop} (l : Launch) (D : va_G) (G : hG) (w : va_W) (F : Nat) (x0 : Int32) (x1 : Int32) (y0 : Int32) (y1 : Int32) (res : Int32) (C0 : Cx p s m args meth c cX12_caughtBy (some .int) RX12 5 D G A) (hA : ∀ q : Nat, s.heap.size ≤ q → A q) : ∀ (n : Nat) (z2 : Int32) (z3 : Int32), f_X12_caughtBy_L4 F y0 y1 n z2 z3 = some res → ∀ (H : Heap) (locs : List Loc) (ls : Array Slot), va_P D vwCl w H → va_D A w → va_S A s.heap H locs → lv_has ls 5 [(0, .int y0), (1, .int y1), (2, .int z2), (3, .int z3)] → W p l e rm_X12_caughtBy s m args below meth c H locs 0 0 (MQ below (Qg (some (.int res)) D (tysG G) w A) args s 0 0 A) (F0 m 4 ls []) := by
  obtain ⟨hx, hb, hr, hml, hown, hts, hlocks, hK, hE⟩ := id C0
  intro n
  induction n with
  | zero =>
    intro z2 z3 h
    cases h
  | succ n ih =>
    intro z2 z3 h H locs ls hP hD hS hl
    rw [f_X12_caughtBy_L4] at h
    refine lv_iload_n hx hb dX12_caughtBy_4 rfl (lv_at hl 3 rfl) ?_
    refine lv_iconst (v := 1) hx hb dX12_caughtBy_5 (by decide) ?_
    refine lv_iload_n hx hb dX12_caughtBy_6 rfl (lv_at hl 0 rfl) ?_
    refine lv_ishl hx hb dX12_caughtBy_7 ?_
    refine lv_icmp_ge (tgt := 65) hx hb dX12_caughtBy_8 (by decide) (fun c1 => ?_) (fun c1 => ?_)
    · skip
      have h := f_t c1 h
      refine lv_iload_n hx hb dX12_caughtBy_65 rfl (lv_at hl 2 rfl) ?_
      obtain rfl := Option.some.inj h
      exact W.iret (v := z2) hx hb hr (q_end hK hP hD hS) hS.2.2 dX12_caughtBy_66
    · skip
      have h := f_f c1 h
      refine lv_iconst (v := 0) hx hb dX12_caughtBy_11 (by decide) ?_
      refine lv_istore (lv' := [(4, .int (0 : Int32)), (0, .int y0), (1, .int y1), (2, .int z2), (3, .int z3)]) hx hb dX12_caughtBy_12 hl (by decide) rfl (fun ls hl => ?_)
      refine W_X12_caughtBy_L14 l D G w F x0 x1 y0 y1 z3 res C0 hA _ ?_ F z2 (0 : Int32) h _ _ _ hP hD hS (lv_sub hl [1, 2, 3, 4, 0] rfl)
      · intro z2 h H locs ls hP hD hS hl
        refine lv_iinc (v := (z3 + 1)) (lv' := [(3, .int (z3 + 1)), (0, .int y0), (1, .int y1), (2, .int z2)]) hx hb dX12_caughtBy_59 hl (k := 3) rfl rfl (by decide) rfl (fun ls hl => ?_)
        refine lv_goto (tgt := 4) hx hb dX12_caughtBy_62 (by decide) ?_
        exact ih z2 (z3 + 1) h _ _ _ hP hD hS (lv_sub hl [1, 2, 3, 0] rfl)
set_option maxRecDepth 100000 in
set_option maxHeartbeats 8000000 in
theorem c_X12_caughtBy (l : Launch) (D : va_G) (G : hG) (w : va_W) (F : Nat) (x0 : Int32) (x1 : Int32) (res : Int32) (h : f_X12_caughtBy F x0 x1 = some res) : CT l yX12_caughtBy cX12_caughtBy 5 (some .int) rm_X12_caughtBy D G 0 0 [.int x0, .int x1] w w (some (.int res)) := by
  unfold f_X12_caughtBy at h
  refine CT.mk (cc := cX12_caughtBy) (maxL := 5) (ret := (some .int)) (own := RX12) (plainFor_of_name (by decide)) rfl (Nat.le_of_ble_eq_true rfl) ?_
  intro p e s m args below meth c A ls C0 hnm hA hP hD hl
  obtain ⟨hx, hb, hr, hml, hown, hts, hlocks, hK, hE⟩ := id C0
  have hS : va_S A s.heap s.heap [] := va_S.rf
  have hl : lv_has ls 5 [(0, .int x0), (1, .int x1)] := hl
  refine lv_iconst (v := 0) hx hb dX12_caughtBy_0 (by decide) ?_
  refine lv_istore_n (lv' := [(2, .int (0 : Int32)), (0, .int x0), (1, .int x1)]) hx hb dX12_caughtBy_1 rfl hl (by decide) rfl (fun ls hl => ?_)
  refine lv_iconst (v := 0) hx hb dX12_caughtBy_2 (by decide) ?_
  refine lv_istore_n (lv' := [(3, .int (0 : Int32)), (2, .int (0 : Int32)), (0, .int x0), (1, .int x1)]) hx hb dX12_caughtBy_3 rfl hl (by decide) rfl (fun ls hl => ?_)
  refine W_X12_caughtBy_L4 l D G w F x0 x1 x0 x1 res C0 hA F (0 : Int32) (0 : Int32) h _ _ _ hP hD hS (lv_sub hl [2, 3, 1, 0] rfl)
abbrev rm_X12_isBook : Room := { frames := 1, cells := 0, slots := 0, locals := 25 }
set_option maxRecDepth 100000 in
set_option maxHeartbeats 8000000 in
theorem c_X12_isBook (l : Launch) (D : va_G) (G : hG) (w : va_W) (x0 : Int32) (x1 : Int32) (res : Int32) (h : f_X12_isBook x0 x1 = some res) : CT l yX12_isBook cX12_isBook 2 (some .boolean) rm_X12_isBook D G 0 0 [.int x0, .int x1] w w (some (.int res)) := by
  unfold f_X12_isBook at h
  refine CT.mk (cc := cX12_isBook) (maxL := 2) (ret := (some .boolean)) (own := RX12) (plainFor_of_name (by decide)) rfl (Nat.le_of_ble_eq_true rfl) ?_
  intro p e s m args below meth c A ls C0 hnm hA hP hD hl
  obtain ⟨hx, hb, hr, hml, hown, hts, hlocks, hK, hE⟩ := id C0
  have hS : va_S A s.heap s.heap [] := va_S.rf
  have hl : lv_has ls 2 [(0, .int x0), (1, .int x1)] := hl
  refine lv_iload_n hx hb dX12_isBook_0 rfl (lv_at hl 0 rfl) ?_
  refine lv_i2l (v := (x0 : Int32).toInt64) hx hb dX12_isBook_1 rfl ?_
  refine lv_lconst (v := 1) hx hb dX12_isBook_2 (by decide) ?_
  refine lv_ldc2 (v := 4) hx hb hown (hts _ wd_1859) dX12_isBook_3 ?_
  obtain ⟨q1, hq1, h⟩ := f_b h
  refine cl_S (w := w) (w' := w) (rv := some (.int q1)) (bytes := cX12_isIn) (maxL := 6) (ret := (some .boolean)) (As := [.long (x0 : Int32).toInt64, .long (1 : Int64), .long (4 : Int64)]) (rest := []) (stk := [.int q1]) ⟨hx, hb, hml, hown, hts⟩ hK hE hA hP hD hS (c_X12_isIn l D G w ((x0 : Int32).toInt64) (1 : Int64) (4 : Int64) q1 hq1) (mkS hts wd_1498 wd_1499 wd_11 wd_1500 rfl rfl hd_X12_isIn ⟨Nat.le_of_ble_eq_true rfl, Nat.le_of_ble_eq_true rfl⟩) rfl hl.1 rfl (Nat.le_of_ble_eq_true rfl) dX12_isBook_6 ⟨Nat.zero_le _, Nat.zero_le _⟩ rfl (fun H locs hP hD hS => ?_)
  refine lv_if_eq (tgt := 32) hx hb dX12_isBook_9 (by decide) (fun c2 => ?_) (fun c2 => ?_)
  · skip
    have h := f_t c2 h
    refine lv_iconst (v := 0) hx hb dX12_isBook_32 (by decide) ?_
    obtain rfl := Option.some.inj h
    exact W.zret (v := (0 : Int32)) hx hb hr rfl (q_end hK hP hD hS) hS.2.2 dX12_isBook_33
  · skip
    have h := f_f c2 h
    refine lv_iload_n hx hb dX12_isBook_12 rfl (lv_at hl 1 rfl) ?_
    refine lv_i2l (v := (x1 : Int32).toInt64) hx hb dX12_isBook_13 rfl ?_
    refine lv_lconst (v := 0) hx hb dX12_isBook_14 (by decide) ?_
    refine lv_lconst (v := 1) hx hb dX12_isBook_15 (by decide) ?_
    refine lv_iconst (v := 1) hx hb dX12_isBook_16 (by decide) ?_
    refine lv_iload_n hx hb dX12_isBook_17 rfl (lv_at hl 0 rfl) ?_
    refine lv_ishl hx hb dX12_isBook_18 ?_
    refine lv_lshl (v := ((1 : Int64) <<< ((((1 : Int32) <<< (x0 &&& 31)) : Int32).toInt64 &&& 63))) hx hb dX12_isBook_19 rfl ?_
    refine lv_lconst (v := 1) hx hb dX12_isBook_20 (by decide) ?_
    refine lv_lsub hx hb dX12_isBook_21 ?_
    obtain ⟨q3, hq3, h⟩ := f_b h
    refine cl_S (w := w) (w' := w) (rv := some (.int q3)) (bytes := cX12_isIn) (maxL := 6) (ret := (some .boolean)) (As := [.long (x1 : Int32).toInt64, .long (0 : Int64), .long (((1 : Int64) <<< ((((1 : Int32) <<< (x0 &&& 31)) : Int32).toInt64 &&& 63)) - (1 : Int64))]) (rest := []) (stk := [.int q3]) ⟨hx, hb, hml, hown, hts⟩ hK hE hA hP hD hS (c_X12_isIn l D G w ((x1 : Int32).toInt64) (0 : Int64) (((1 : Int64) <<< ((((1 : Int32) <<< (x0 &&& 31)) : Int32).toInt64 &&& 63)) - (1 : Int64)) q3 hq3) (mkS hts wd_1498 wd_1499 wd_11 wd_1500 rfl rfl hd_X12_isIn ⟨Nat.le_of_ble_eq_true rfl, Nat.le_of_ble_eq_true rfl⟩) rfl hl.1 rfl (Nat.le_of_ble_eq_true rfl) dX12_isBook_22 ⟨Nat.zero_le _, Nat.zero_le _⟩ rfl (fun H locs hP hD hS => ?_)
    refine lv_if_eq (tgt := 32) hx hb dX12_isBook_25 (by decide) (fun c4 => ?_) (fun c4 => ?_)
    · skip
      have h := f_t c4 h
      refine lv_iconst (v := 0) hx hb dX12_isBook_32 (by decide) ?_
      obtain rfl := Option.some.inj h
      exact W.zret (v := (0 : Int32)) hx hb hr rfl (q_end hK hP hD hS) hS.2.2 dX12_isBook_33
    · skip
      have h := f_f c4 h
      refine lv_iconst (v := 1) hx hb dX12_isBook_28 (by decide) ?_
      refine lv_goto (tgt := 33) hx hb dX12_isBook_29 (by decide) ?_
      obtain rfl := Option.some.inj h
      exact W.zret (v := (1 : Int32)) hx hb hr rfl (q_end hK hP hD hS) hS.2.2 dX12_isBook_33
abbrev rm_X12_book : Room := { frames := 2, cells := 0, slots := 0, locals := 46 }
set_option maxRecDepth 100000 in
set_option maxHeartbeats 8000000 in
theorem W_X12_book_L82 {p : Program} {e : Env} {s : State} {m : MethodId} {args : Array Value} {below : List Frame} {meth : Method} {c : Code} {A : Nat → Prop} (l : Launch) (D : va_G) (G : hG) (Z : hZ) (Y : va_W) (σ0 : hSt) (F : Nat) (x1 : Int32) (x2 : Int32) (x3 : Int32) (σ1 : hSt) (y1 : Int32) (y2 : Int32) (y3 : Int32) (y4 : Int32) (y5 : Int32) (y6 : Int32) (res : (Int32 × hSt)) (C0 : Cx p s m args meth c cX12_book (some .int) RX12 9 D G A) (hA : ∀ q : Nat, s.heap.size ≤ q → A q) (k114 : Int32 → Option (Int32 × hSt)) (hk114 : ∀ (z7 : Int32), k114 z7 = some res → ∀ (H : Heap) (locs : List Loc) (ls : Array Slot), va_P D vwCl (mW G Z Y σ1) H → va_D A (mW G Z Y σ1) → va_S A s.heap H locs → lv_has ls 9 [(1, .int y1), (2, .int y2), (3, .int y3), (4, .int y4), (5, .int y5), (6, .int y6), (7, .int z7)] → W p l e rm_X12_book s m args below meth c H locs 0 0 (MQ below (Qg (some (.int res.1)) D (tysG G) (mW G Z Y res.2) A) args s 0 0 A) (F0 m 114 ls [])) : ∀ (n : Nat) (z7 : Int32) (z8 : Int32), f_X12_book_L82 y1 y2 y3 y4 y5 y6 k114 n z7 z8 = some res → ∀ (H : Heap) (locs : List Loc) (ls : Array Slot), va_P D vwCl (mW G Z Y σ1) H → va_D A (mW G Z Y σ1) → va_S A s.heap H locs → lv_has ls 9 [(1, .int y1), (2, .int y2), (3, .int y3), (4, .int y4), (5, .int y5), (6, .int y6), (7, .int z7), (8, .int z8)] → W p l e rm_X12_book s m args below meth c H locs 0 0 (MQ below (Qg (some (.int res.1)) D (tysG G) (mW G Z Y res.2) A) args s 0 0 A) (F0 m 82 ls []) := by
  obtain ⟨hx, hb, hr, hml, hown, hts, hlocks, hK, hE⟩ := id C0
  intro n
  induction n with
  | zero =>
    intro z7 z8 h
    cases h
  | succ n ih =>
    intro z7 z8 h H locs ls hP hD hS hl
    rw [f_X12_book_L82] at h
    refine lv_iload hx hb dX12_book_82 (lv_at hl 7 rfl) ?_
    refine lv_iconst (v := 1) hx hb dX12_book_84 (by decide) ?_
    refine lv_iload_n hx hb dX12_book_85 rfl (lv_at hl 0 rfl) ?_
    refine lv_ishl hx hb dX12_book_86 ?_
    refine lv_icmp_ge (tgt := 114) hx hb dX12_book_87 (by decide) (fun c8 => ?_) (fun c8 => ?_)
    · skip
      have h := f_t c8 h
      exact hk114 z7 h _ _ _ hP hD hS (lv_sub hl [0, 1, 2, 3, 4, 5, 6] rfl)
    · skip
      have h := f_f c8 h
      refine lv_iload hx hb dX12_book_90 (lv_at hl 6 rfl) ?_
      refine lv_iload hx hb dX12_book_92 (lv_at hl 7 rfl) ?_
      refine lv_iload hx hb dX12_book_94 (lv_at hl 5 rfl) ?_
      refine lv_iand hx hb dX12_book_96 ?_
      obtain ⟨q9, hq9, h⟩ := f_b h
      refine cl_S (w := (mW G Z Y σ1)) (w' := (mW G Z Y σ1)) (rv := some (.int q9)) (bytes := cJ6_bitCount_0f7a4) (maxL := 1) (ret := (some .int)) (As := [.int (z8 &&& y6)]) (rest := [.int z7]) (stk := [.int q9, .int z7]) ⟨hx, hb, hml, hown, hts⟩ hK hE hA hP hD hS (c_J6_bitCount_0f7a4 l D G (mW G Z Y σ1) (z8 &&& y6) q9 hq9) (mkS hts wd_1866 wd_1137 wd_31 wd_1138 rfl rfl hd_J6_bitCount_0f7a4 ⟨Nat.le_of_ble_eq_true rfl, Nat.le_of_ble_eq_true rfl⟩) rfl hl.1 rfl (Nat.le_of_ble_eq_true rfl) dX12_book_97 ⟨Nat.zero_le _, Nat.zero_le _⟩ rfl (fun H locs hP hD hS => ?_)
      refine lv_iconst (v := 1) hx hb dX12_book_100 (by decide) ?_
      refine lv_iand hx hb dX12_book_101 ?_
      refine lv_iload hx hb dX12_book_102 (lv_at hl 7 rfl) ?_
      refine lv_ishl hx hb dX12_book_104 ?_
      refine lv_ior hx hb dX12_book_105 ?_
      refine lv_istore (lv' := [(7, .int (z7 ||| ((q9 &&& (1 : Int32)) <<< (z8 &&& 31)))), (1, .int y1), (2, .int y2), (3, .int y3), (4, .int y4), (5, .int y5), (6, .int y6), (8, .int z8)]) hx hb dX12_book_106 hl (by decide) rfl (fun ls hl => ?_)
      refine lv_iinc (v := (z8 + 1)) (lv' := [(8, .int (z8 + 1)), (7, .int (z7 ||| ((q9 &&& (1 : Int32)) <<< (z8 &&& 31)))), (1, .int y1), (2, .int y2), (3, .int y3), (4, .int y4), (5, .int y5), (6, .int y6)]) hx hb dX12_book_108 hl (k := 7) rfl rfl (by decide) rfl (fun ls hl => ?_)
      refine lv_goto (tgt := 82) hx hb dX12_book_111 (by decide) ?_
      exact ih (z7 ||| ((q9 &&& (1 : Int32)) <<< (z8 &&& 31))) (z8 + 1) h _ _ _ hP hD hS (lv_sub hl [2, 3, 4, 5, 6, 7, 1, 0] rfl)
set_option maxRecDepth 100000 in
set_option maxHeartbeats 8000000 in
theorem W_X12_book_L68 {p : Program} {e : Env} {s : State} {m : MethodId} {args : Array Value} {below : List Frame} {meth : Method} {c : Code} {A : Nat → Prop} (l : Launch) (D : va_G) (G : hG) (Z : hZ) (Y : va_W) (σ0 : hSt) (F : Nat) (x1 : Int32) (x2 : Int32) (x3 : Int32) (σ1 : hSt) (y1 : Int32) (y2 : Int32) (y3 : Int32) (res : (Int32 × hSt)) (C0 : Cx p s m args meth c cX12_book (some .int) RX12 9 D G A) (hA : ∀ q : Nat, s.heap.size ≤ q → A q) : ∀ (n : Nat) (z4 : Int32) (z5 : Int32) (z6 : Int32), f_X12_book_L68 F σ1 y1 y2 y3 n z4 z5 z6 = some res → ∀ (H : Heap) (locs : List Loc) (ls : Array Slot), va_P D vwCl (mW G Z Y σ1) H → va_D A (mW G Z Y σ1) → va_S A s.heap H locs → lv_has ls 9 [(1, .int y1), (2, .int y2), (3, .int y3), (4, .int z4), (5, .int z5), (6, .int z6)] → W p l e rm_X12_book s m args below meth c H locs 0 0 (MQ below (Qg (some (.int res.1)) D (tysG G) (mW G Z Y res.2) A) args s 0 0 A) (F0 m 68 ls []) := by
  obtain ⟨hx, hb, hr, hml, hown, hts, hlocks, hK, hE⟩ := id C0
  intro n
  induction n with
  | zero =>
    intro z4 z5 z6 h
    cases h
  | succ n ih =>
    intro z4 z5 z6 h H locs ls hP hD hS hl
    rw [f_X12_book_L68] at h
    refine lv_iload hx hb dX12_book_68 (lv_at hl 5 rfl) ?_
    refine lv_iconst (v := 1) hx hb dX12_book_70 (by decide) ?_
    refine lv_iload_n hx hb dX12_book_71 rfl (lv_at hl 0 rfl) ?_
    refine lv_ishl hx hb dX12_book_72 ?_
    refine lv_icmp_ge (tgt := 167) hx hb dX12_book_73 (by decide) (fun c6 => ?_) (fun c6 => ?_)
    · skip
      have h := f_t c6 h
      refine lv_iload_n hx hb dX12_book_167 rfl (lv_at hl 2 rfl) ?_
      refine lv_iconst (v := 2) hx hb dX12_book_168 (by decide) ?_
      refine lv_icmp_ne (tgt := 177) hx hb dX12_book_169 (by decide) (fun c7 => ?_) (fun c7 => ?_)
      · skip
        have h := f_f c7 h
        refine lv_iload hx hb dX12_book_177 (lv_at hl 3 rfl) ?_
        obtain rfl := Option.some.inj h
        exact W.iret (v := z4) hx hb hr (q_end hK hP hD hS) hS.2.2 dX12_book_179
      · skip
        have h := f_t c7 h
        refine lv_iload hx hb dX12_book_172 (lv_at hl 4 rfl) ?_
        refine lv_goto (tgt := 179) hx hb dX12_book_174 (by decide) ?_
        obtain rfl := Option.some.inj h
        exact W.iret (v := z5) hx hb hr (q_end hK hP hD hS) hS.2.2 dX12_book_179
    · skip
      have h := f_f c6 h
      refine lv_iconst (v := 0) hx hb dX12_book_76 (by decide) ?_
      refine lv_istore (lv' := [(7, .int (0 : Int32)), (1, .int y1), (2, .int y2), (3, .int y3), (4, .int z4), (5, .int z5), (6, .int z6)]) hx hb dX12_book_77 hl (by decide) rfl (fun ls hl => ?_)
      refine lv_iconst (v := 0) hx hb dX12_book_79 (by decide) ?_
      refine lv_istore (lv' := [(8, .int (0 : Int32)), (7, .int (0 : Int32)), (1, .int y1), (2, .int y2), (3, .int y3), (4, .int z4), (5, .int z5), (6, .int z6)]) hx hb dX12_book_80 hl (by decide) rfl (fun ls hl => ?_)
      refine W_X12_book_L82 l D G Z Y σ0 F x1 x2 x3 σ1 y1 y2 y3 z4 z5 z6 res C0 hA _ ?_ F (0 : Int32) (0 : Int32) h _ _ _ hP hD hS (lv_sub hl [2, 3, 4, 5, 6, 7, 1, 0] rfl)
      · intro z7 h H locs ls hP hD hS hl
        refine lv_iload hx hb dX12_book_114 (lv_at hl 6 rfl) ?_
        refine lv_iload_n hx hb dX12_book_116 rfl (lv_at hl 1 rfl) ?_
        refine lv_ixor hx hb dX12_book_117 ?_
        obtain ⟨q10, hq10, h⟩ := f_b h
        refine cl_S (w := (mW G Z Y σ1)) (w' := (mW G Z Y σ1)) (rv := some (.int q10)) (bytes := cJ6_bitCount_0f7a4) (maxL := 1) (ret := (some .int)) (As := [.int (z7 ^^^ y2)]) (rest := []) (stk := [.int q10]) ⟨hx, hb, hml, hown, hts⟩ hK hE hA hP hD hS (c_J6_bitCount_0f7a4 l D G (mW G Z Y σ1) (z7 ^^^ y2) q10 hq10) (mkS hts wd_1866 wd_1137 wd_31 wd_1138 rfl rfl hd_J6_bitCount_0f7a4 ⟨Nat.le_of_ble_eq_true rfl, Nat.le_of_ble_eq_true rfl⟩) rfl hl.1 rfl (Nat.le_of_ble_eq_true rfl) dX12_book_118 ⟨Nat.zero_le _, Nat.zero_le _⟩ rfl (fun H locs hP hD hS => ?_)
        refine lv_istore (lv' := [(8, .int q10), (1, .int y1), (2, .int y2), (3, .int y3), (4, .int z4), (5, .int z5), (6, .int z6), (7, .int z7)]) hx hb dX12_book_121 hl (by decide) rfl (fun ls hl => ?_)
        refine lv_iload hx hb dX12_book_123 (lv_at hl 4 rfl) ?_
        refine lv_iconst (v := (-1)) hx hb dX12_book_125 (by decide) ?_
        refine lv_icmp_eq (tgt := 153) hx hb dX12_book_126 (by decide) (fun c11 => ?_) (fun c11 => ?_)
        · skip
          have h := f_t c11 h
          refine lv_iload hx hb dX12_book_153 (lv_at hl 7 rfl) ?_
          refine lv_istore (lv' := [(4, .int z7), (8, .int q10), (1, .int y1), (2, .int y2), (3, .int y3), (5, .int z5), (6, .int z6), (7, .int z7)]) hx hb dX12_book_155 hl (by decide) rfl (fun ls hl => ?_)
          refine lv_iload hx hb dX12_book_157 (lv_at hl 1 rfl) ?_
          refine lv_istore (lv' := [(5, .int q10), (4, .int z7), (8, .int q10), (1, .int y1), (2, .int y2), (3, .int y3), (6, .int z6), (7, .int z7)]) hx hb dX12_book_159 hl (by decide) rfl (fun ls hl => ?_)
          refine lv_iinc (v := (z6 + 1)) (lv' := [(6, .int (z6 + 1)), (5, .int q10), (4, .int z7), (8, .int q10), (1, .int y1), (2, .int y2), (3, .int y3), (7, .int z7)]) hx hb dX12_book_161 hl (k := 6) rfl rfl (by decide) rfl (fun ls hl => ?_)
          refine lv_goto (tgt := 68) hx hb dX12_book_164 (by decide) ?_
          exact ih z7 q10 (z6 + 1) h _ _ _ hP hD hS (lv_sub hl [4, 5, 6, 2, 1, 0] rfl)
        · skip
          have h := f_f c11 h
          refine lv_iload hx hb dX12_book_129 (lv_at hl 0 rfl) ?_
          refine lv_iload hx hb dX12_book_131 (lv_at hl 5 rfl) ?_
          refine lv_icmp_gt (tgt := 161) hx hb dX12_book_133 (by decide) (fun c12 => ?_) (fun c12 => ?_)
          · skip
            have h := f_t c12 h
            refine lv_iinc (v := (z6 + 1)) (lv' := [(6, .int (z6 + 1)), (8, .int q10), (1, .int y1), (2, .int y2), (3, .int y3), (4, .int z4), (5, .int z5), (7, .int z7)]) hx hb dX12_book_161 hl (k := 6) rfl rfl (by decide) rfl (fun ls hl => ?_)
            refine lv_goto (tgt := 68) hx hb dX12_book_164 (by decide) ?_
            exact ih z4 z5 (z6 + 1) h _ _ _ hP hD hS (lv_sub hl [2, 3, 4, 5, 6, 0] rfl)
          · skip
            have h := f_f c12 h
            refine lv_iload hx hb dX12_book_136 (lv_at hl 0 rfl) ?_
            refine lv_iload hx hb dX12_book_138 (lv_at hl 5 rfl) ?_
            refine lv_icmp_ne (tgt := 153) hx hb dX12_book_140 (by decide) (fun c13 => ?_) (fun c13 => ?_)
            · skip
              have h := f_f c13 h
              refine lv_iload hx hb dX12_book_153 (lv_at hl 7 rfl) ?_
              refine lv_istore (lv' := [(4, .int z7), (8, .int q10), (1, .int y1), (2, .int y2), (3, .int y3), (5, .int z5), (6, .int z6), (7, .int z7)]) hx hb dX12_book_155 hl (by decide) rfl (fun ls hl => ?_)
              refine lv_iload hx hb dX12_book_157 (lv_at hl 1 rfl) ?_
              refine lv_istore (lv' := [(5, .int q10), (4, .int z7), (8, .int q10), (1, .int y1), (2, .int y2), (3, .int y3), (6, .int z6), (7, .int z7)]) hx hb dX12_book_159 hl (by decide) rfl (fun ls hl => ?_)
              refine lv_iinc (v := (z6 + 1)) (lv' := [(6, .int (z6 + 1)), (5, .int q10), (4, .int z7), (8, .int q10), (1, .int y1), (2, .int y2), (3, .int y3), (7, .int z7)]) hx hb dX12_book_161 hl (k := 6) rfl rfl (by decide) rfl (fun ls hl => ?_)
              refine lv_goto (tgt := 68) hx hb dX12_book_164 (by decide) ?_
              exact ih z7 q10 (z6 + 1) h _ _ _ hP hD hS (lv_sub hl [4, 5, 6, 2, 1, 0] rfl)
            · skip
              have h := f_t c13 h
              refine lv_iload hx hb dX12_book_143 (lv_at hl 7 rfl) ?_
              refine lv_iload hx hb dX12_book_145 (lv_at hl 4 rfl) ?_
              refine lv_icmp_lt (tgt := 153) hx hb dX12_book_147 (by decide) (fun c14 => ?_) (fun c14 => ?_)
              · skip
                have h := f_t c14 h
                refine lv_iload hx hb dX12_book_153 (lv_at hl 7 rfl) ?_
                refine lv_istore (lv' := [(4, .int z7), (8, .int q10), (1, .int y1), (2, .int y2), (3, .int y3), (5, .int z5), (6, .int z6), (7, .int z7)]) hx hb dX12_book_155 hl (by decide) rfl (fun ls hl => ?_)
                refine lv_iload hx hb dX12_book_157 (lv_at hl 1 rfl) ?_
                refine lv_istore (lv' := [(5, .int q10), (4, .int z7), (8, .int q10), (1, .int y1), (2, .int y2), (3, .int y3), (6, .int z6), (7, .int z7)]) hx hb dX12_book_159 hl (by decide) rfl (fun ls hl => ?_)
                refine lv_iinc (v := (z6 + 1)) (lv' := [(6, .int (z6 + 1)), (5, .int q10), (4, .int z7), (8, .int q10), (1, .int y1), (2, .int y2), (3, .int y3), (7, .int z7)]) hx hb dX12_book_161 hl (k := 6) rfl rfl (by decide) rfl (fun ls hl => ?_)
                refine lv_goto (tgt := 68) hx hb dX12_book_164 (by decide) ?_
                exact ih z7 q10 (z6 + 1) h _ _ _ hP hD hS (lv_sub hl [4, 5, 6, 2, 1, 0] rfl)
              · skip
                have h := f_f c14 h
                refine lv_goto (tgt := 161) hx hb dX12_book_150 (by decide) ?_
                refine lv_iinc (v := (z6 + 1)) (lv' := [(6, .int (z6 + 1)), (8, .int q10), (1, .int y1), (2, .int y2), (3, .int y3), (4, .int z4), (5, .int z5), (7, .int z7)]) hx hb dX12_book_161 hl (k := 6) rfl rfl (by decide) rfl (fun ls hl => ?_)
                refine lv_goto (tgt := 68) hx hb dX12_book_164 (by decide) ?_
                exact ih z4 z5 (z6 + 1) h _ _ _ hP hD hS (lv_sub hl [2, 3, 4, 5, 6, 0] rfl)
set_option maxRecDepth 100000 in
set_option maxHeartbeats 8000000 in
theorem c_X12_book (l : Launch) (D : va_G) (G : hG) (Z : hZ) (Y : va_W) (σ0 : hSt) (F : Nat) (x1 : Int32) (x2 : Int32) (x3 : Int32) (res : (Int32 × hSt)) (h : f_X12_book F Z σ0 x1 x2 x3 = some res) : CT l yX12_book cX12_book 9 (some .int) rm_X12_book D G 0 0 [.ref (G.2.1 200), .int x1, .int x2, .int x3] (mW G Z Y σ0) (mW G Z Y res.2) (some (.int res.1)) := by
  unfold f_X12_book at h
  refine CT.mk (cc := cX12_book) (maxL := 9) (ret := (some .int)) (own := RX12) (plainFor_of_name (by decide)) rfl (Nat.le_of_ble_eq_true rfl) ?_
  intro p e s m args below meth c A ls C0 hnm hA hP hD hl
  obtain ⟨hx, hb, hr, hml, hown, hts, hlocks, hK, hE⟩ := id C0
  have hS : va_S A s.heap s.heap [] := va_S.rf
  have hl : lv_has ls 9 [(0, .ref (G.2.1 200)), (1, .int x1), (2, .int x2), (3, .int x3)] := hl
  refine lv_aload_n hx hb dX12_book_0 rfl (lv_at hl 0 rfl) ?_
  refine lv_iconst (v := 0) hx hb dX12_book_1 (by decide) ?_
  refine va_put (D := D) (ci := 12) (v := .int (0 : Int32)) (ty := .int) (C := RX12) (T := TX12) (N := 59) hx hb hts inU_X12 tyX12 tyX12_ok nmX12 hown hK hP hD hS _ (mg_200 G Z Y σ0) rfl 0 (by decide) (hts _ wd_1248) (fun _ h9 => h9) rfl (by decide +kernel) rfl rfl (Nat.le_of_ble_eq_true rfl) dX12_book_2 (fun H locs hP hD hS => ?_)
  have hP := wrP (mp_200_0 G Z Y σ0 (0 : Int32)) hP
  have hD := wrD (mp_200_0 G Z Y σ0 (0 : Int32)) hD
  refine lv_iload_n hx hb dX12_book_5 rfl (lv_at hl 1 rfl) ?_
  refine lv_iload_n hx hb dX12_book_6 rfl (lv_at hl 2 rfl) ?_
  obtain ⟨q1, hq1, h⟩ := f_b h
  refine cl_S (w := (mW G Z Y (sI σ0 200 0 (0 : Int32)))) (w' := (mW G Z Y (sI σ0 200 0 (0 : Int32)))) (rv := some (.int q1)) (bytes := cX12_isBook) (maxL := 2) (ret := (some .boolean)) (As := [.int x1, .int x2]) (rest := []) (stk := [.int q1]) ⟨hx, hb, hml, hown, hts⟩ hK hE hA hP hD hS (c_X12_isBook l D G (mW G Z Y (sI σ0 200 0 (0 : Int32))) x1 x2 q1 hq1) (mkS hts wd_1856 wd_1857 wd_11 wd_1858 rfl rfl hd_X12_isBook ⟨Nat.le_of_ble_eq_true rfl, Nat.le_of_ble_eq_true rfl⟩) rfl hl.1 rfl (Nat.le_of_ble_eq_true rfl) dX12_book_7 ⟨Nat.zero_le _, Nat.zero_le _⟩ rfl (fun H locs hP hD hS => ?_)
  refine lv_if_eq (tgt := 25) hx hb dX12_book_10 (by decide) (fun c2 => ?_) (fun c2 => ?_)
  · skip
    have h := f_t c2 h
    refine lv_iconst (v := (-1)) hx hb dX12_book_25 (by decide) ?_
    obtain rfl := Option.some.inj h
    exact W.iret (v := (-1 : Int32)) hx hb hr (q_end hK hP hD hS) hS.2.2 dX12_book_26
  · skip
    have h := f_f c2 h
    refine lv_iload_n hx hb dX12_book_13 rfl (lv_at hl 3 rfl) ?_
    refine lv_i2l (v := (x3 : Int32).toInt64) hx hb dX12_book_14 rfl ?_
    refine lv_lconst (v := 0) hx hb dX12_book_15 (by decide) ?_
    refine lv_ldc2 (v := 3) hx hb hown (hts _ wd_1549) dX12_book_16 ?_
    obtain ⟨q3, hq3, h⟩ := f_b h
    refine cl_S (w := (mW G Z Y (sI σ0 200 0 (0 : Int32)))) (w' := (mW G Z Y (sI σ0 200 0 (0 : Int32)))) (rv := some (.int q3)) (bytes := cX12_isIn) (maxL := 6) (ret := (some .boolean)) (As := [.long (x3 : Int32).toInt64, .long (0 : Int64), .long (3 : Int64)]) (rest := []) (stk := [.int q3]) ⟨hx, hb, hml, hown, hts⟩ hK hE hA hP hD hS (c_X12_isIn l D G (mW G Z Y (sI σ0 200 0 (0 : Int32))) ((x3 : Int32).toInt64) (0 : Int64) (3 : Int64) q3 hq3) (mkS hts wd_1498 wd_1499 wd_11 wd_1500 rfl rfl hd_X12_isIn ⟨Nat.le_of_ble_eq_true rfl, Nat.le_of_ble_eq_true rfl⟩) rfl hl.1 rfl (Nat.le_of_ble_eq_true rfl) dX12_book_19 ⟨Nat.zero_le _, Nat.zero_le _⟩ rfl (fun H locs hP hD hS => ?_)
    refine lv_if_ne (tgt := 27) hx hb dX12_book_22 (by decide) (fun c4 => ?_) (fun c4 => ?_)
    · skip
      have h := f_f c4 h
      refine lv_iload_n hx hb dX12_book_27 rfl (lv_at hl 3 rfl) ?_
      refine lv_iconst (v := 2) hx hb dX12_book_28 (by decide) ?_
      refine lv_icmp_ge (tgt := 59) hx hb dX12_book_29 (by decide) (fun c5 => ?_) (fun c5 => ?_)
      · skip
        have h := f_t c5 h
        refine lv_iconst (v := (-1)) hx hb dX12_book_59 (by decide) ?_
        refine lv_istore (lv' := [(4, .int (-1 : Int32)), (0, .ref (G.2.1 200)), (1, .int x1), (2, .int x2), (3, .int x3)]) hx hb dX12_book_60 hl (by decide) rfl (fun ls hl => ?_)
        refine lv_iconst (v := (-1)) hx hb dX12_book_62 (by decide) ?_
        refine lv_istore (lv' := [(5, .int (-1 : Int32)), (4, .int (-1 : Int32)), (0, .ref (G.2.1 200)), (1, .int x1), (2, .int x2), (3, .int x3)]) hx hb dX12_book_63 hl (by decide) rfl (fun ls hl => ?_)
        refine lv_iconst (v := 0) hx hb dX12_book_65 (by decide) ?_
        refine lv_istore (lv' := [(6, .int (0 : Int32)), (5, .int (-1 : Int32)), (4, .int (-1 : Int32)), (0, .ref (G.2.1 200)), (1, .int x1), (2, .int x2), (3, .int x3)]) hx hb dX12_book_66 hl (by decide) rfl (fun ls hl => ?_)
        refine W_X12_book_L68 l D G Z Y σ0 F x1 x2 x3 (sI σ0 200 0 (0 : Int32)) x1 x2 x3 res C0 hA F (-1 : Int32) (-1 : Int32) (0 : Int32) h _ _ _ hP hD hS (lv_sub hl [4, 5, 6, 2, 1, 0] rfl)
      · skip
        have h := f_f c5 h
        refine lv_iload_n hx hb dX12_book_32 rfl (lv_at hl 3 rfl) ?_
        refine lv_iconst (v := 1) hx hb dX12_book_33 (by decide) ?_
        refine lv_icmp_ne (tgt := 45) hx hb dX12_book_34 (by decide) (fun c15 => ?_) (fun c15 => ?_)
        · skip
          have h := f_f c15 h
          refine lv_iload_n hx hb dX12_book_45 rfl (lv_at hl 1 rfl) ?_
          refine lv_iload_n hx hb dX12_book_46 rfl (lv_at hl 2 rfl) ?_
          obtain ⟨q16, hq16, h⟩ := f_b h
          refine cl_S (w := (mW G Z Y (sI σ0 200 0 (0 : Int32)))) (w' := (mW G Z Y (sI σ0 200 0 (0 : Int32)))) (rv := some (.int q16)) (bytes := cX12_caughtBy) (maxL := 5) (ret := (some .int)) (As := [.int x1, .int x2]) (rest := []) (stk := [.int q16]) ⟨hx, hb, hml, hown, hts⟩ hK hE hA hP hD hS (c_X12_caughtBy l D G (mW G Z Y (sI σ0 200 0 (0 : Int32))) F x1 x2 q16 hq16) (mkS hts wd_1860 wd_1861 wd_11 wd_1862 rfl rfl hd_X12_caughtBy ⟨Nat.le_of_ble_eq_true rfl, Nat.le_of_ble_eq_true rfl⟩) rfl hl.1 rfl (Nat.le_of_ble_eq_true rfl) dX12_book_47 ⟨Nat.zero_le _, Nat.zero_le _⟩ rfl (fun H locs hP hD hS => ?_)
          refine lv_if_ne (tgt := 57) hx hb dX12_book_50 (by decide) (fun c17 => ?_) (fun c17 => ?_)
          · skip
            have h := f_f c17 h
            refine lv_iconst (v := 0) hx hb dX12_book_57 (by decide) ?_
            obtain rfl := Option.some.inj h
            exact W.iret (v := (0 : Int32)) hx hb hr (q_end hK hP hD hS) hS.2.2 dX12_book_58
          · skip
            have h := f_t c17 h
            refine lv_iconst (v := 1) hx hb dX12_book_53 (by decide) ?_
            refine lv_goto (tgt := 58) hx hb dX12_book_54 (by decide) ?_
            obtain rfl := Option.some.inj h
            exact W.iret (v := (1 : Int32)) hx hb hr (q_end hK hP hD hS) hS.2.2 dX12_book_58
        · skip
          have h := f_t c15 h
          refine lv_iload_n hx hb dX12_book_37 rfl (lv_at hl 1 rfl) ?_
          refine lv_iload_n hx hb dX12_book_38 rfl (lv_at hl 2 rfl) ?_
          obtain ⟨q18, hq18, h⟩ := f_b h
          refine cl_S (w := (mW G Z Y (sI σ0 200 0 (0 : Int32)))) (w' := (mW G Z Y (sI σ0 200 0 (0 : Int32)))) (rv := some (.int q18)) (bytes := cX12_caughtBy) (maxL := 5) (ret := (some .int)) (As := [.int x1, .int x2]) (rest := []) (stk := [.int q18]) ⟨hx, hb, hml, hown, hts⟩ hK hE hA hP hD hS (c_X12_caughtBy l D G (mW G Z Y (sI σ0 200 0 (0 : Int32))) F x1 x2 q18 hq18) (mkS hts wd_1860 wd_1861 wd_11 wd_1862 rfl rfl hd_X12_caughtBy ⟨Nat.le_of_ble_eq_true rfl, Nat.le_of_ble_eq_true rfl⟩) rfl hl.1 rfl (Nat.le_of_ble_eq_true rfl) dX12_book_39 ⟨Nat.zero_le _, Nat.zero_le _⟩ rfl (fun H locs hP hD hS => ?_)
          refine lv_goto (tgt := 58) hx hb dX12_book_42 (by decide) ?_
          obtain rfl := Option.some.inj h
          exact W.iret (v := q18) hx hb hr (q_end hK hP hD hS) hS.2.2 dX12_book_58
    · skip
      have h := f_t c4 h
      refine lv_iconst (v := (-1)) hx hb dX12_book_25 (by decide) ?_
      obtain rfl := Option.some.inj h
      exact W.iret (v := (-1 : Int32)) hx hb hr (q_end hK hP hD hS) hS.2.2 dX12_book_26
abbrev rm_X12_mended : Room := { frames := 2, cells := 0, slots := 0, locals := 46 }
set_option maxRecDepth 100000 in
set_option maxHeartbeats 8000000 in
theorem W_X12_mended_L36 {p : Program} {e : Env} {s : State} {m : MethodId} {args : Array Value} {below : List Frame} {meth : Method} {c : Code} {A : Nat → Prop} (l : Launch) (D : va_G) (G : hG) (Z : hZ) (Y : va_W) (σ0 : hSt) (F : Nat) (x1 : Int32) (x2 : Int32) (x3 : Int32) (σ1 : hSt) (y1 : Int32) (y2 : Int32) (y3 : Int32) (res : (Int32 × hSt)) (C0 : Cx p s m args meth c cX12_mended (some .int) RX12 6 D G A) (hA : ∀ q : Nat, s.heap.size ≤ q → A q) (k70 : Int32 → Option (Int32 × hSt)) (hk70 : ∀ (z4 : Int32), k70 z4 = some res → ∀ (H : Heap) (locs : List Loc) (ls : Array Slot), va_P D vwCl (mW G Z Y σ1) H → va_D A (mW G Z Y σ1) → va_S A s.heap H locs → lv_has ls 6 [(1, .int y1), (4, .int z4)] → W p l e rm_X12_mended s m args below meth c H locs 0 0 (MQ below (Qg (some (.int res.1)) D (tysG G) (mW G Z Y res.2) A) args s 0 0 A) (F0 m 70 ls [])) : ∀ (n : Nat) (z4 : Int32) (z5 : Int32), f_X12_mended_L36 y1 y2 y3 k70 n z4 z5 = some res → ∀ (H : Heap) (locs : List Loc) (ls : Array Slot), va_P D vwCl (mW G Z Y σ1) H → va_D A (mW G Z Y σ1) → va_S A s.heap H locs → lv_has ls 6 [(1, .int y1), (2, .int y2), (3, .int y3), (4, .int z4), (5, .int z5)] → W p l e rm_X12_mended s m args below meth c H locs 0 0 (MQ below (Qg (some (.int res.1)) D (tysG G) (mW G Z Y res.2) A) args s 0 0 A) (F0 m 36 ls []) := by
  obtain ⟨hx, hb, hr, hml, hown, hts, hlocks, hK, hE⟩ := id C0
  intro n
  induction n with
  | zero =>
    intro z4 z5 h
    cases h
  | succ n ih =>
    intro z4 z5 h H locs ls hP hD hS hl
    rw [f_X12_mended_L36] at h
    refine lv_iload hx hb dX12_mended_36 (lv_at hl 4 rfl) ?_
    refine lv_iconst (v := 1) hx hb dX12_mended_38 (by decide) ?_
    refine lv_iload_n hx hb dX12_mended_39 rfl (lv_at hl 0 rfl) ?_
    refine lv_ishl hx hb dX12_mended_40 ?_
    refine lv_icmp_ge (tgt := 70) hx hb dX12_mended_41 (by decide) (fun c5 => ?_) (fun c5 => ?_)
    · skip
      have h := f_t c5 h
      exact hk70 z4 h _ _ _ hP hD hS (lv_sub hl [0, 3] rfl)
    · skip
      have h := f_f c5 h
      refine lv_iload hx hb dX12_mended_44 (lv_at hl 3 rfl) ?_
      refine lv_iload_n hx hb dX12_mended_46 rfl (lv_at hl 1 rfl) ?_
      refine lv_iload_n hx hb dX12_mended_47 rfl (lv_at hl 2 rfl) ?_
      refine lv_iload hx hb dX12_mended_48 (lv_at hl 4 rfl) ?_
      refine lv_ixor hx hb dX12_mended_50 ?_
      obtain ⟨q6, hq6, h⟩ := f_b h
      refine cl_S (w := (mW G Z Y σ1)) (w' := (mW G Z Y σ1)) (rv := some (.int q6)) (bytes := cX12_cell) (maxL := 2) (ret := (some .int)) (As := [.int y2, .int (y3 ^^^ z5)]) (rest := [.int z4]) (stk := [.int q6, .int z4]) ⟨hx, hb, hml, hown, hts⟩ hK hE hA hP hD hS (c_X12_cell l D G (mW G Z Y σ1) y2 (y3 ^^^ z5) q6 hq6) (mkS hts wd_1863 wd_1864 wd_11 wd_1865 rfl rfl hd_X12_cell ⟨Nat.le_of_ble_eq_true rfl, Nat.le_of_ble_eq_true rfl⟩) rfl hl.1 rfl (Nat.le_of_ble_eq_true rfl) dX12_mended_51 ⟨Nat.zero_le _, Nat.zero_le _⟩ rfl (fun H locs hP hD hS => ?_)
      refine lv_iload_n hx hb dX12_mended_54 rfl (lv_at hl 1 rfl) ?_
      refine lv_iload hx hb dX12_mended_55 (lv_at hl 4 rfl) ?_
      obtain ⟨q7, hq7, h⟩ := f_b h
      refine cl_S (w := (mW G Z Y σ1)) (w' := (mW G Z Y σ1)) (rv := some (.int q7)) (bytes := cX12_cell) (maxL := 2) (ret := (some .int)) (As := [.int y2, .int z5]) (rest := [.int q6, .int z4]) (stk := [.int q7, .int q6, .int z4]) ⟨hx, hb, hml, hown, hts⟩ hK hE hA hP hD hS (c_X12_cell l D G (mW G Z Y σ1) y2 z5 q7 hq7) (mkS hts wd_1863 wd_1864 wd_11 wd_1865 rfl rfl hd_X12_cell ⟨Nat.le_of_ble_eq_true rfl, Nat.le_of_ble_eq_true rfl⟩) rfl hl.1 rfl (Nat.le_of_ble_eq_true rfl) dX12_mended_57 ⟨Nat.zero_le _, Nat.zero_le _⟩ rfl (fun H locs hP hD hS => ?_)
      refine lv_ixor hx hb dX12_mended_60 ?_
      refine lv_iadd hx hb dX12_mended_61 ?_
      refine lv_istore (lv' := [(4, .int (z4 + (q6 ^^^ q7))), (1, .int y1), (2, .int y2), (3, .int y3), (5, .int z5)]) hx hb dX12_mended_62 hl (by decide) rfl (fun ls hl => ?_)
      refine lv_iinc (v := (z5 + 1)) (lv' := [(5, .int (z5 + 1)), (4, .int (z4 + (q6 ^^^ q7))), (1, .int y1), (2, .int y2), (3, .int y3)]) hx hb dX12_mended_64 hl (k := 4) rfl rfl (by decide) rfl (fun ls hl => ?_)
      refine lv_goto (tgt := 36) hx hb dX12_mended_67 (by decide) ?_
      exact ih (z4 + (q6 ^^^ q7)) (z5 + 1) h _ _ _ hP hD hS (lv_sub hl [2, 3, 4, 1, 0] rfl)
set_option maxRecDepth 100000 in
set_option maxHeartbeats 8000000 in
theorem c_X12_mended (l : Launch) (D : va_G) (G : hG) (Z : hZ) (Y : va_W) (σ0 : hSt) (F : Nat) (x1 : Int32) (x2 : Int32) (x3 : Int32) (res : (Int32 × hSt)) (h : f_X12_mended F Z σ0 x1 x2 x3 = some res) : CT l yX12_mended cX12_mended 6 (some .int) rm_X12_mended D G 0 0 [.ref (G.2.1 200), .int x1, .int x2, .int x3] (mW G Z Y σ0) (mW G Z Y res.2) (some (.int res.1)) := by
  unfold f_X12_mended at h
  refine CT.mk (cc := cX12_mended) (maxL := 6) (ret := (some .int)) (own := RX12) (plainFor_of_name (by decide)) rfl (Nat.le_of_ble_eq_true rfl) ?_
  intro p e s m args below meth c A ls C0 hnm hA hP hD hl
  obtain ⟨hx, hb, hr, hml, hown, hts, hlocks, hK, hE⟩ := id C0
  have hS : va_S A s.heap s.heap [] := va_S.rf
  have hl : lv_has ls 6 [(0, .ref (G.2.1 200)), (1, .int x1), (2, .int x2), (3, .int x3)] := hl
  refine lv_aload_n hx hb dX12_mended_0 rfl (lv_at hl 0 rfl) ?_
  refine lv_iconst (v := 0) hx hb dX12_mended_1 (by decide) ?_
  refine va_put (D := D) (ci := 12) (v := .int (0 : Int32)) (ty := .int) (C := RX12) (T := TX12) (N := 59) hx hb hts inU_X12 tyX12 tyX12_ok nmX12 hown hK hP hD hS _ (mg_200 G Z Y σ0) rfl 0 (by decide) (hts _ wd_1248) (fun _ h9 => h9) rfl (by decide +kernel) rfl rfl (Nat.le_of_ble_eq_true rfl) dX12_mended_2 (fun H locs hP hD hS => ?_)
  have hP := wrP (mp_200_0 G Z Y σ0 (0 : Int32)) hP
  have hD := wrD (mp_200_0 G Z Y σ0 (0 : Int32)) hD
  refine lv_iload_n hx hb dX12_mended_5 rfl (lv_at hl 1 rfl) ?_
  refine lv_iload_n hx hb dX12_mended_6 rfl (lv_at hl 2 rfl) ?_
  obtain ⟨q1, hq1, h⟩ := f_b h
  refine cl_S (w := (mW G Z Y (sI σ0 200 0 (0 : Int32)))) (w' := (mW G Z Y (sI σ0 200 0 (0 : Int32)))) (rv := some (.int q1)) (bytes := cX12_isBook) (maxL := 2) (ret := (some .boolean)) (As := [.int x1, .int x2]) (rest := []) (stk := [.int q1]) ⟨hx, hb, hml, hown, hts⟩ hK hE hA hP hD hS (c_X12_isBook l D G (mW G Z Y (sI σ0 200 0 (0 : Int32))) x1 x2 q1 hq1) (mkS hts wd_1856 wd_1857 wd_11 wd_1858 rfl rfl hd_X12_isBook ⟨Nat.le_of_ble_eq_true rfl, Nat.le_of_ble_eq_true rfl⟩) rfl hl.1 rfl (Nat.le_of_ble_eq_true rfl) dX12_mended_7 ⟨Nat.zero_le _, Nat.zero_le _⟩ rfl (fun H locs hP hD hS => ?_)
  refine lv_if_eq (tgt := 28) hx hb dX12_mended_10 (by decide) (fun c2 => ?_) (fun c2 => ?_)
  · skip
    have h := f_t c2 h
    refine lv_iconst (v := (-1)) hx hb dX12_mended_28 (by decide) ?_
    obtain rfl := Option.some.inj h
    exact W.iret (v := (-1 : Int32)) hx hb hr (q_end hK hP hD hS) hS.2.2 dX12_mended_29
  · skip
    have h := f_f c2 h
    refine lv_iload_n hx hb dX12_mended_13 rfl (lv_at hl 3 rfl) ?_
    refine lv_i2l (v := (x3 : Int32).toInt64) hx hb dX12_mended_14 rfl ?_
    refine lv_lconst (v := 0) hx hb dX12_mended_15 (by decide) ?_
    refine lv_iconst (v := 1) hx hb dX12_mended_16 (by decide) ?_
    refine lv_iload_n hx hb dX12_mended_17 rfl (lv_at hl 1 rfl) ?_
    refine lv_ishl hx hb dX12_mended_18 ?_
    refine lv_iconst (v := 1) hx hb dX12_mended_19 (by decide) ?_
    refine lv_isub hx hb dX12_mended_20 ?_
    refine lv_i2l (v := ((((1 : Int32) <<< (x1 &&& 31)) - (1 : Int32)) : Int32).toInt64) hx hb dX12_mended_21 rfl ?_
    obtain ⟨q3, hq3, h⟩ := f_b h
    refine cl_S (w := (mW G Z Y (sI σ0 200 0 (0 : Int32)))) (w' := (mW G Z Y (sI σ0 200 0 (0 : Int32)))) (rv := some (.int q3)) (bytes := cX12_isIn) (maxL := 6) (ret := (some .boolean)) (As := [.long (x3 : Int32).toInt64, .long (0 : Int64), .long ((((1 : Int32) <<< (x1 &&& 31)) - (1 : Int32)) : Int32).toInt64]) (rest := []) (stk := [.int q3]) ⟨hx, hb, hml, hown, hts⟩ hK hE hA hP hD hS (c_X12_isIn l D G (mW G Z Y (sI σ0 200 0 (0 : Int32))) ((x3 : Int32).toInt64) (0 : Int64) (((((1 : Int32) <<< (x1 &&& 31)) - (1 : Int32)) : Int32).toInt64) q3 hq3) (mkS hts wd_1498 wd_1499 wd_11 wd_1500 rfl rfl hd_X12_isIn ⟨Nat.le_of_ble_eq_true rfl, Nat.le_of_ble_eq_true rfl⟩) rfl hl.1 rfl (Nat.le_of_ble_eq_true rfl) dX12_mended_22 ⟨Nat.zero_le _, Nat.zero_le _⟩ rfl (fun H locs hP hD hS => ?_)
    refine lv_if_ne (tgt := 30) hx hb dX12_mended_25 (by decide) (fun c4 => ?_) (fun c4 => ?_)
    · skip
      have h := f_f c4 h
      refine lv_iconst (v := 0) hx hb dX12_mended_30 (by decide) ?_
      refine lv_istore (lv' := [(4, .int (0 : Int32)), (0, .ref (G.2.1 200)), (1, .int x1), (2, .int x2), (3, .int x3)]) hx hb dX12_mended_31 hl (by decide) rfl (fun ls hl => ?_)
      refine lv_iconst (v := 0) hx hb dX12_mended_33 (by decide) ?_
      refine lv_istore (lv' := [(5, .int (0 : Int32)), (4, .int (0 : Int32)), (0, .ref (G.2.1 200)), (1, .int x1), (2, .int x2), (3, .int x3)]) hx hb dX12_mended_34 hl (by decide) rfl (fun ls hl => ?_)
      refine W_X12_mended_L36 l D G Z Y σ0 F x1 x2 x3 (sI σ0 200 0 (0 : Int32)) x1 x2 x3 res C0 hA _ ?_ F (0 : Int32) (0 : Int32) h _ _ _ hP hD hS (lv_sub hl [3, 4, 5, 1, 0] rfl)
      · intro z4 h H locs ls hP hD hS hl
        refine lv_iconst (v := 2) hx hb dX12_mended_70 (by decide) ?_
        refine lv_iload hx hb dX12_mended_71 (lv_at hl 1 rfl) ?_
        refine lv_imul hx hb dX12_mended_73 ?_
        refine lv_iconst (v := 1) hx hb dX12_mended_74 (by decide) ?_
        refine lv_iload_n hx hb dX12_mended_75 rfl (lv_at hl 0 rfl) ?_
        refine lv_ishl hx hb dX12_mended_76 ?_
        refine lv_icmp_le (tgt := 84) hx hb dX12_mended_77 (by decide) (fun c8 => ?_) (fun c8 => ?_)
        · skip
          have h := f_t c8 h
          refine lv_iconst (v := 0) hx hb dX12_mended_84 (by decide) ?_
          obtain rfl := Option.some.inj h
          exact W.iret (v := (0 : Int32)) hx hb hr (q_end hK hP hD hS) hS.2.2 dX12_mended_85
        · skip
          have h := f_f c8 h
          refine lv_iconst (v := 1) hx hb dX12_mended_80 (by decide) ?_
          refine lv_goto (tgt := 85) hx hb dX12_mended_81 (by decide) ?_
          obtain rfl := Option.some.inj h
          exact W.iret (v := (1 : Int32)) hx hb hr (q_end hK hP hD hS) hS.2.2 dX12_mended_85
    · skip
      have h := f_t c4 h
      refine lv_iconst (v := (-1)) hx hb dX12_mended_28 (by decide) ?_
      obtain rfl := Option.some.inj h
      exact W.iret (v := (-1 : Int32)) hx hb hr (q_end hK hP hD hS) hS.2.2 dX12_mended_29
abbrev rm_X12_least : Room := { frames := 2, cells := 0, slots := 0, locals := 45 }
set_option maxRecDepth 100000 in
set_option maxHeartbeats 8000000 in
theorem W_X12_least_L34 {p : Program} {e : Env} {s : State} {m : MethodId} {args : Array Value} {below : List Frame} {meth : Method} {c : Code} {A : Nat → Prop} (l : Launch) (D : va_G) (G : hG) (Z : hZ) (Y : va_W) (σ0 : hSt) (F : Nat) (x1 : Int32) (x2 : Int32) (σ1 : hSt) (y1 : Int32) (y2 : Int32) (res : (Int32 × hSt)) (C0 : Cx p s m args meth c cX12_least (some .int) RX12 6 D G A) (hA : ∀ q : Nat, s.heap.size ≤ q → A q) (k81 : Int32 → Option (Int32 × hSt)) (hk81 : ∀ (z3 : Int32), k81 z3 = some res → ∀ (H : Heap) (locs : List Loc) (ls : Array Slot), va_P D vwCl (mW G Z Y σ1) H → va_D A (mW G Z Y σ1) → va_S A s.heap H locs → lv_has ls 6 [(1, .int y1), (2, .int y2), (3, .int z3)] → W p l e rm_X12_least s m args below meth c H locs 0 0 (MQ below (Qg (some (.int res.1)) D (tysG G) (mW G Z Y res.2) A) args s 0 0 A) (F0 m 81 ls [])) : ∀ (n : Nat) (z3 : Int32) (z4 : Int32), f_X12_least_L34 F y1 y2 k81 n z3 z4 = some res → ∀ (H : Heap) (locs : List Loc) (ls : Array Slot), va_P D vwCl (mW G Z Y σ1) H → va_D A (mW G Z Y σ1) → va_S A s.heap H locs → lv_has ls 6 [(1, .int y1), (2, .int y2), (3, .int z3), (4, .int z4)] → W p l e rm_X12_least s m args below meth c H locs 0 0 (MQ below (Qg (some (.int res.1)) D (tysG G) (mW G Z Y res.2) A) args s 0 0 A) (F0 m 34 ls []) := by
  obtain ⟨hx, hb, hr, hml, hown, hts, hlocks, hK, hE⟩ := id C0
  intro n
  induction n with
  | zero =>
    intro z3 z4 h
    cases h
  | succ n ih =>
    intro z3 z4 h H locs ls hP hD hS hl
    rw [f_X12_least_L34] at h
    refine lv_iload hx hb dX12_least_34 (lv_at hl 3 rfl) ?_
    refine lv_iconst (v := 1) hx hb dX12_least_36 (by decide) ?_
    refine lv_iconst (v := 1) hx hb dX12_least_37 (by decide) ?_
    refine lv_iload_n hx hb dX12_least_38 rfl (lv_at hl 0 rfl) ?_
    refine lv_ishl hx hb dX12_least_39 ?_
    refine lv_ishl hx hb dX12_least_40 ?_
    refine lv_icmp_ge (tgt := 81) hx hb dX12_least_41 (by decide) (fun c5 => ?_) (fun c5 => ?_)
    · skip
      have h := f_t c5 h
      exact hk81 z3 h _ _ _ hP hD hS (lv_sub hl [0, 1, 2] rfl)
    · skip
      have h := f_f c5 h
      refine lv_iload_n hx hb dX12_least_44 rfl (lv_at hl 0 rfl) ?_
      refine lv_iload hx hb dX12_least_45 (lv_at hl 3 rfl) ?_
      obtain ⟨q6, hq6, h⟩ := f_b h
      refine cl_S (w := (mW G Z Y σ1)) (w' := (mW G Z Y σ1)) (rv := some (.int q6)) (bytes := cX12_caughtBy) (maxL := 5) (ret := (some .int)) (As := [.int y1, .int z4]) (rest := []) (stk := [.int q6]) ⟨hx, hb, hml, hown, hts⟩ hK hE hA hP hD hS (c_X12_caughtBy l D G (mW G Z Y σ1) F y1 z4 q6 hq6) (mkS hts wd_1860 wd_1861 wd_11 wd_1862 rfl rfl hd_X12_caughtBy ⟨Nat.le_of_ble_eq_true rfl, Nat.le_of_ble_eq_true rfl⟩) rfl hl.1 rfl (Nat.le_of_ble_eq_true rfl) dX12_least_47 ⟨Nat.zero_le _, Nat.zero_le _⟩ rfl (fun H locs hP hD hS => ?_)
      refine lv_istore (lv' := [(5, .int q6), (1, .int y1), (2, .int y2), (3, .int z3), (4, .int z4)]) hx hb dX12_least_50 hl (by decide) rfl (fun ls hl => ?_)
      refine lv_iload hx hb dX12_least_52 (lv_at hl 0 rfl) ?_
      refine lv_if_le (tgt := 75) hx hb dX12_least_54 (by decide) (fun c7 => ?_) (fun c7 => ?_)
      · skip
        have h := f_t c7 h
        refine lv_iinc (v := (z4 + 1)) (lv' := [(4, .int (z4 + 1)), (5, .int q6), (1, .int y1), (2, .int y2), (3, .int z3)]) hx hb dX12_least_75 hl (k := 4) rfl rfl (by decide) rfl (fun ls hl => ?_)
        refine lv_goto (tgt := 34) hx hb dX12_least_78 (by decide) ?_
        exact ih z3 (z4 + 1) h _ _ _ hP hD hS (lv_sub hl [2, 3, 4, 0] rfl)
      · skip
        have h := f_f c7 h
        refine lv_iload_n hx hb dX12_least_57 rfl (lv_at hl 3 rfl) ?_
        refine lv_iconst (v := (-1)) hx hb dX12_least_58 (by decide) ?_
        refine lv_icmp_eq (tgt := 72) hx hb dX12_least_59 (by decide) (fun c8 => ?_) (fun c8 => ?_)
        · skip
          have h := f_t c8 h
          refine lv_iload hx hb dX12_least_72 (lv_at hl 4 rfl) ?_
          refine lv_istore_n (lv' := [(3, .int z4), (5, .int q6), (1, .int y1), (2, .int y2), (4, .int z4)]) hx hb dX12_least_74 rfl hl (by decide) rfl (fun ls hl => ?_)
          refine lv_iinc (v := (z4 + 1)) (lv' := [(4, .int (z4 + 1)), (3, .int z4), (5, .int q6), (1, .int y1), (2, .int y2)]) hx hb dX12_least_75 hl (k := 4) rfl rfl (by decide) rfl (fun ls hl => ?_)
          refine lv_goto (tgt := 34) hx hb dX12_least_78 (by decide) ?_
          exact ih z4 (z4 + 1) h _ _ _ hP hD hS (lv_sub hl [3, 4, 1, 0] rfl)
        · skip
          have h := f_f c8 h
          refine lv_iload hx hb dX12_least_62 (lv_at hl 0 rfl) ?_
          refine lv_iload_n hx hb dX12_least_64 rfl (lv_at hl 1 rfl) ?_
          refine lv_iload_n hx hb dX12_least_65 rfl (lv_at hl 3 rfl) ?_
          obtain ⟨q9, hq9, h⟩ := f_b h
          refine cl_S (w := (mW G Z Y σ1)) (w' := (mW G Z Y σ1)) (rv := some (.int q9)) (bytes := cX12_caughtBy) (maxL := 5) (ret := (some .int)) (As := [.int y1, .int z3]) (rest := [.int q6]) (stk := [.int q9, .int q6]) ⟨hx, hb, hml, hown, hts⟩ hK hE hA hP hD hS (c_X12_caughtBy l D G (mW G Z Y σ1) F y1 z3 q9 hq9) (mkS hts wd_1860 wd_1861 wd_11 wd_1862 rfl rfl hd_X12_caughtBy ⟨Nat.le_of_ble_eq_true rfl, Nat.le_of_ble_eq_true rfl⟩) rfl hl.1 rfl (Nat.le_of_ble_eq_true rfl) dX12_least_66 ⟨Nat.zero_le _, Nat.zero_le _⟩ rfl (fun H locs hP hD hS => ?_)
          refine lv_icmp_ge (tgt := 75) hx hb dX12_least_69 (by decide) (fun c10 => ?_) (fun c10 => ?_)
          · skip
            have h := f_t c10 h
            refine lv_iinc (v := (z4 + 1)) (lv' := [(4, .int (z4 + 1)), (5, .int q6), (1, .int y1), (2, .int y2), (3, .int z3)]) hx hb dX12_least_75 hl (k := 4) rfl rfl (by decide) rfl (fun ls hl => ?_)
            refine lv_goto (tgt := 34) hx hb dX12_least_78 (by decide) ?_
            exact ih z3 (z4 + 1) h _ _ _ hP hD hS (lv_sub hl [2, 3, 4, 0] rfl)
          · skip
            have h := f_f c10 h
            refine lv_iload hx hb dX12_least_72 (lv_at hl 4 rfl) ?_
            refine lv_istore_n (lv' := [(3, .int z4), (5, .int q6), (1, .int y1), (2, .int y2), (4, .int z4)]) hx hb dX12_least_74 rfl hl (by decide) rfl (fun ls hl => ?_)
            refine lv_iinc (v := (z4 + 1)) (lv' := [(4, .int (z4 + 1)), (3, .int z4), (5, .int q6), (1, .int y1), (2, .int y2)]) hx hb dX12_least_75 hl (k := 4) rfl rfl (by decide) rfl (fun ls hl => ?_)
            refine lv_goto (tgt := 34) hx hb dX12_least_78 (by decide) ?_
            exact ih z4 (z4 + 1) h _ _ _ hP hD hS (lv_sub hl [3, 4, 1, 0] rfl)
set_option maxRecDepth 100000 in
set_option maxHeartbeats 8000000 in
theorem c_X12_least (l : Launch) (D : va_G) (G : hG) (Z : hZ) (Y : va_W) (σ0 : hSt) (F : Nat) (x1 : Int32) (x2 : Int32) (res : (Int32 × hSt)) (h : f_X12_least F Z σ0 x1 x2 = some res) : CT l yX12_least cX12_least 6 (some .int) rm_X12_least D G 0 0 [.ref (G.2.1 200), .int x1, .int x2] (mW G Z Y σ0) (mW G Z Y res.2) (some (.int res.1)) := by
  unfold f_X12_least at h
  refine CT.mk (cc := cX12_least) (maxL := 6) (ret := (some .int)) (own := RX12) (plainFor_of_name (by decide)) rfl (Nat.le_of_ble_eq_true rfl) ?_
  intro p e s m args below meth c A ls C0 hnm hA hP hD hl
  obtain ⟨hx, hb, hr, hml, hown, hts, hlocks, hK, hE⟩ := id C0
  have hS : va_S A s.heap s.heap [] := va_S.rf
  have hl : lv_has ls 6 [(0, .ref (G.2.1 200)), (1, .int x1), (2, .int x2)] := hl
  refine lv_aload_n hx hb dX12_least_0 rfl (lv_at hl 0 rfl) ?_
  refine lv_iconst (v := 0) hx hb dX12_least_1 (by decide) ?_
  refine va_put (D := D) (ci := 12) (v := .int (0 : Int32)) (ty := .int) (C := RX12) (T := TX12) (N := 59) hx hb hts inU_X12 tyX12 tyX12_ok nmX12 hown hK hP hD hS _ (mg_200 G Z Y σ0) rfl 0 (by decide) (hts _ wd_1248) (fun _ h9 => h9) rfl (by decide +kernel) rfl rfl (Nat.le_of_ble_eq_true rfl) dX12_least_2 (fun H locs hP hD hS => ?_)
  have hP := wrP (mp_200_0 G Z Y σ0 (0 : Int32)) hP
  have hD := wrD (mp_200_0 G Z Y σ0 (0 : Int32)) hD
  refine lv_iload_n hx hb dX12_least_5 rfl (lv_at hl 1 rfl) ?_
  refine lv_i2l (v := (x1 : Int32).toInt64) hx hb dX12_least_6 rfl ?_
  refine lv_lconst (v := 1) hx hb dX12_least_7 (by decide) ?_
  refine lv_ldc2 (v := 3) hx hb hown (hts _ wd_1549) dX12_least_8 ?_
  obtain ⟨q1, hq1, h⟩ := f_b h
  refine cl_S (w := (mW G Z Y (sI σ0 200 0 (0 : Int32)))) (w' := (mW G Z Y (sI σ0 200 0 (0 : Int32)))) (rv := some (.int q1)) (bytes := cX12_isIn) (maxL := 6) (ret := (some .boolean)) (As := [.long (x1 : Int32).toInt64, .long (1 : Int64), .long (3 : Int64)]) (rest := []) (stk := [.int q1]) ⟨hx, hb, hml, hown, hts⟩ hK hE hA hP hD hS (c_X12_isIn l D G (mW G Z Y (sI σ0 200 0 (0 : Int32))) ((x1 : Int32).toInt64) (1 : Int64) (3 : Int64) q1 hq1) (mkS hts wd_1498 wd_1499 wd_11 wd_1500 rfl rfl hd_X12_isIn ⟨Nat.le_of_ble_eq_true rfl, Nat.le_of_ble_eq_true rfl⟩) rfl hl.1 rfl (Nat.le_of_ble_eq_true rfl) dX12_least_11 ⟨Nat.zero_le _, Nat.zero_le _⟩ rfl (fun H locs hP hD hS => ?_)
  refine lv_if_eq (tgt := 27) hx hb dX12_least_14 (by decide) (fun c2 => ?_) (fun c2 => ?_)
  · skip
    have h := f_t c2 h
    refine lv_iconst (v := (-1)) hx hb dX12_least_27 (by decide) ?_
    obtain rfl := Option.some.inj h
    exact W.iret (v := (-1 : Int32)) hx hb hr (q_end hK hP hD hS) hS.2.2 dX12_least_28
  · skip
    have h := f_f c2 h
    refine lv_iload_n hx hb dX12_least_17 rfl (lv_at hl 2 rfl) ?_
    refine lv_i2l (v := (x2 : Int32).toInt64) hx hb dX12_least_18 rfl ?_
    refine lv_lconst (v := 0) hx hb dX12_least_19 (by decide) ?_
    refine lv_lconst (v := 1) hx hb dX12_least_20 (by decide) ?_
    obtain ⟨q3, hq3, h⟩ := f_b h
    refine cl_S (w := (mW G Z Y (sI σ0 200 0 (0 : Int32)))) (w' := (mW G Z Y (sI σ0 200 0 (0 : Int32)))) (rv := some (.int q3)) (bytes := cX12_isIn) (maxL := 6) (ret := (some .boolean)) (As := [.long (x2 : Int32).toInt64, .long (0 : Int64), .long (1 : Int64)]) (rest := []) (stk := [.int q3]) ⟨hx, hb, hml, hown, hts⟩ hK hE hA hP hD hS (c_X12_isIn l D G (mW G Z Y (sI σ0 200 0 (0 : Int32))) ((x2 : Int32).toInt64) (0 : Int64) (1 : Int64) q3 hq3) (mkS hts wd_1498 wd_1499 wd_11 wd_1500 rfl rfl hd_X12_isIn ⟨Nat.le_of_ble_eq_true rfl, Nat.le_of_ble_eq_true rfl⟩) rfl hl.1 rfl (Nat.le_of_ble_eq_true rfl) dX12_least_21 ⟨Nat.zero_le _, Nat.zero_le _⟩ rfl (fun H locs hP hD hS => ?_)
    refine lv_if_ne (tgt := 29) hx hb dX12_least_24 (by decide) (fun c4 => ?_) (fun c4 => ?_)
    · skip
      have h := f_f c4 h
      refine lv_iconst (v := (-1)) hx hb dX12_least_29 (by decide) ?_
      refine lv_istore_n (lv' := [(3, .int (-1 : Int32)), (0, .ref (G.2.1 200)), (1, .int x1), (2, .int x2)]) hx hb dX12_least_30 rfl hl (by decide) rfl (fun ls hl => ?_)
      refine lv_iconst (v := 0) hx hb dX12_least_31 (by decide) ?_
      refine lv_istore (lv' := [(4, .int (0 : Int32)), (3, .int (-1 : Int32)), (0, .ref (G.2.1 200)), (1, .int x1), (2, .int x2)]) hx hb dX12_least_32 hl (by decide) rfl (fun ls hl => ?_)
      refine W_X12_least_L34 l D G Z Y σ0 F x1 x2 (sI σ0 200 0 (0 : Int32)) x1 x2 res C0 hA _ ?_ F (-1 : Int32) (0 : Int32) h _ _ _ hP hD hS (lv_sub hl [3, 4, 1, 0] rfl)
      · intro z3 h H locs ls hP hD hS hl
        refine lv_iload_n hx hb dX12_least_81 rfl (lv_at hl 2 rfl) ?_
        refine lv_iconst (v := (-1)) hx hb dX12_least_82 (by decide) ?_
        refine lv_icmp_ne (tgt := 90) hx hb dX12_least_83 (by decide) (fun c11 => ?_) (fun c11 => ?_)
        · skip
          have h := f_f c11 h
          refine lv_iload_n hx hb dX12_least_90 rfl (lv_at hl 1 rfl) ?_
          refine lv_if_ne (tgt := 102) hx hb dX12_least_91 (by decide) (fun c12 => ?_) (fun c12 => ?_)
          · skip
            have h := f_f c12 h
            refine lv_iload_n hx hb dX12_least_102 rfl (lv_at hl 2 rfl) ?_
            obtain rfl := Option.some.inj h
            exact W.iret (v := z3) hx hb hr (q_end hK hP hD hS) hS.2.2 dX12_least_103
          · skip
            have h := f_t c12 h
            refine lv_iload_n hx hb dX12_least_94 rfl (lv_at hl 0 rfl) ?_
            refine lv_iload_n hx hb dX12_least_95 rfl (lv_at hl 2 rfl) ?_
            obtain ⟨q13, hq13, h⟩ := f_b h
            refine cl_S (w := (mW G Z Y (sI σ0 200 0 (0 : Int32)))) (w' := (mW G Z Y (sI σ0 200 0 (0 : Int32)))) (rv := some (.int q13)) (bytes := cX12_caughtBy) (maxL := 5) (ret := (some .int)) (As := [.int x1, .int z3]) (rest := []) (stk := [.int q13]) ⟨hx, hb, hml, hown, hts⟩ hK hE hA hP hD hS (c_X12_caughtBy l D G (mW G Z Y (sI σ0 200 0 (0 : Int32))) F x1 z3 q13 hq13) (mkS hts wd_1860 wd_1861 wd_11 wd_1862 rfl rfl hd_X12_caughtBy ⟨Nat.le_of_ble_eq_true rfl, Nat.le_of_ble_eq_true rfl⟩) rfl hl.1 rfl (Nat.le_of_ble_eq_true rfl) dX12_least_96 ⟨Nat.zero_le _, Nat.zero_le _⟩ rfl (fun H locs hP hD hS => ?_)
            refine lv_goto (tgt := 103) hx hb dX12_least_99 (by decide) ?_
            obtain rfl := Option.some.inj h
            exact W.iret (v := q13) hx hb hr (q_end hK hP hD hS) hS.2.2 dX12_least_103
        · skip
          have h := f_t c11 h
          refine lv_iconst (v := (-1)) hx hb dX12_least_86 (by decide) ?_
          refine lv_goto (tgt := 103) hx hb dX12_least_87 (by decide) ?_
          obtain rfl := Option.some.inj h
          exact W.iret (v := (-1 : Int32)) hx hb hr (q_end hK hP hD hS) hS.2.2 dX12_least_103
    · skip
      have h := f_t c4 h
      refine lv_iconst (v := (-1)) hx hb dX12_least_27 (by decide) ?_
      obtain rfl := Option.some.inj h
      exact W.iret (v := (-1 : Int32)) hx hb hr (q_end hK hP hD hS) hS.2.2 dX12_least_28
abbrev rm_X12_count : Room := { frames := 0, cells := 0, slots := 0, locals := 0 }
set_option maxRecDepth 100000 in
set_option maxHeartbeats 8000000 in
theorem c_X12_count (l : Launch) (D : va_G) (G : hG) (Z : hZ) (Y : va_W) (σ0 : hSt) (x1 : Int32) (res : (Int32 × hSt)) (h : f_X12_count Z σ0 x1 = some res) : CT l yX12_count cX12_count 2 (some .int) rm_X12_count D G 0 0 [.ref (G.2.1 200), .int x1] (mW G Z Y σ0) (mW G Z Y res.2) (some (.int res.1)) := by
  unfold f_X12_count at h
  refine CT.mk (cc := cX12_count) (maxL := 2) (ret := (some .int)) (own := RX12) (plainFor_of_name (by decide)) rfl (Nat.le_of_ble_eq_true rfl) ?_
  intro p e s m args below meth c A ls C0 hnm hA hP hD hl
  obtain ⟨hx, hb, hr, hml, hown, hts, hlocks, hK, hE⟩ := id C0
  have hS : va_S A s.heap s.heap [] := va_S.rf
  have hl : lv_has ls 2 [(0, .ref (G.2.1 200)), (1, .int x1)] := hl
  refine lv_aload_n hx hb dX12_count_0 rfl (lv_at hl 0 rfl) ?_
  refine lv_iconst (v := 0) hx hb dX12_count_1 (by decide) ?_
  refine va_put (D := D) (ci := 12) (v := .int (0 : Int32)) (ty := .int) (C := RX12) (T := TX12) (N := 59) hx hb hts inU_X12 tyX12 tyX12_ok nmX12 hown hK hP hD hS _ (mg_200 G Z Y σ0) rfl 0 (by decide) (hts _ wd_1248) (fun _ h9 => h9) rfl (by decide +kernel) rfl rfl (Nat.le_of_ble_eq_true rfl) dX12_count_2 (fun H locs hP hD hS => ?_)
  have hP := wrP (mp_200_0 G Z Y σ0 (0 : Int32)) hP
  have hD := wrD (mp_200_0 G Z Y σ0 (0 : Int32)) hD
  refine lv_iload_n hx hb dX12_count_5 rfl (lv_at hl 1 rfl) ?_
  by_cases c1 : x1 = 0
  · have h := f_t c1 h
    refine lv_tableIn (off := 42) (tgt := 48) hx hb dX12_count_6 (by rw [c1]; decide) (by rw [c1]; decide) (by rw [c1]; rfl) (by decide) ?_
    refine lv_aload_n hx hb dX12_count_48 rfl (lv_at hl 0 rfl) ?_
    refine va_get (D := D) (ci := 12) (v := .int (σ0.1 200 15)) (C := RX12) (T := TX12) (N := 59) hx hb hts inU_X12 hown hK hP _ (mg_200 G Z Y (sI σ0 200 0 (0 : Int32))) rfl 15 (by decide) (hts _ wd_1263) (fun _ h9 => h9) rfl dX12_count_49 ?_
    obtain rfl := Option.some.inj h
    exact W.iret (v := (σ0.1 200 15)) hx hb hr (q_end hK hP hD hS) hS.2.2 dX12_count_52
  have h := f_f c1 h
  by_cases c2 : x1 = 1
  · have h := f_t c2 h
    refine lv_tableIn (off := 47) (tgt := 53) hx hb dX12_count_6 (by rw [c2]; decide) (by rw [c2]; decide) (by rw [c2]; rfl) (by decide) ?_
    refine lv_aload_n hx hb dX12_count_53 rfl (lv_at hl 0 rfl) ?_
    refine va_get (D := D) (ci := 12) (v := .int (σ0.1 200 25)) (C := RX12) (T := TX12) (N := 59) hx hb hts inU_X12 hown hK hP _ (mg_200 G Z Y (sI σ0 200 0 (0 : Int32))) rfl 25 (by decide) (hts _ wd_1273) (fun _ h9 => h9) rfl dX12_count_54 ?_
    obtain rfl := Option.some.inj h
    exact W.iret (v := (σ0.1 200 25)) hx hb hr (q_end hK hP hD hS) hS.2.2 dX12_count_57
  have h := f_f c2 h
  by_cases c3 : x1 = 2
  · have h := f_t c3 h
    refine lv_tableIn (off := 52) (tgt := 58) hx hb dX12_count_6 (by rw [c3]; decide) (by rw [c3]; decide) (by rw [c3]; rfl) (by decide) ?_
    refine lv_aload_n hx hb dX12_count_58 rfl (lv_at hl 0 rfl) ?_
    refine va_get (D := D) (ci := 12) (v := .int (σ0.1 200 26)) (C := RX12) (T := TX12) (N := 59) hx hb hts inU_X12 hown hK hP _ (mg_200 G Z Y (sI σ0 200 0 (0 : Int32))) rfl 26 (by decide) (hts _ wd_1274) (fun _ h9 => h9) rfl dX12_count_59 ?_
    obtain rfl := Option.some.inj h
    exact W.iret (v := (σ0.1 200 26)) hx hb hr (q_end hK hP hD hS) hS.2.2 dX12_count_62
  have h := f_f c3 h
  by_cases c4 : x1 = 3
  · have h := f_t c4 h
    refine lv_tableIn (off := 57) (tgt := 63) hx hb dX12_count_6 (by rw [c4]; decide) (by rw [c4]; decide) (by rw [c4]; rfl) (by decide) ?_
    refine lv_aload_n hx hb dX12_count_63 rfl (lv_at hl 0 rfl) ?_
    refine va_get (D := D) (ci := 12) (v := .int (σ0.1 200 36)) (C := RX12) (T := TX12) (N := 59) hx hb hts inU_X12 hown hK hP _ (mg_200 G Z Y (sI σ0 200 0 (0 : Int32))) rfl 36 (by decide) (hts _ wd_1284) (fun _ h9 => h9) rfl dX12_count_64 ?_
    obtain rfl := Option.some.inj h
    exact W.iret (v := (σ0.1 200 36)) hx hb hr (q_end hK hP hD hS) hS.2.2 dX12_count_67
  have h := f_f c4 h
  by_cases c5 : x1 = 4
  · have h := f_t c5 h
    refine lv_tableIn (off := 62) (tgt := 68) hx hb dX12_count_6 (by rw [c5]; decide) (by rw [c5]; decide) (by rw [c5]; rfl) (by decide) ?_
    refine lv_aload_n hx hb dX12_count_68 rfl (lv_at hl 0 rfl) ?_
    refine va_get (D := D) (ci := 12) (v := .int (σ0.1 200 58)) (C := RX12) (T := TX12) (N := 59) hx hb hts inU_X12 hown hK hP _ (mg_200 G Z Y (sI σ0 200 0 (0 : Int32))) rfl 58 (by decide) (hts _ wd_1305) (fun _ h9 => h9) rfl dX12_count_69 ?_
    obtain rfl := Option.some.inj h
    exact W.iret (v := (σ0.1 200 58)) hx hb hr (q_end hK hP hD hS) hS.2.2 dX12_count_72
  have h := f_f c5 h
  by_cases c6 : x1 = 5
  · have h := f_t c6 h
    refine lv_tableIn (off := 67) (tgt := 73) hx hb dX12_count_6 (by rw [c6]; decide) (by rw [c6]; decide) (by rw [c6]; rfl) (by decide) ?_
    refine lv_aload_n hx hb dX12_count_73 rfl (lv_at hl 0 rfl) ?_
    refine va_get (D := D) (ci := 12) (v := .int (σ0.1 200 20)) (C := RX12) (T := TX12) (N := 59) hx hb hts inU_X12 hown hK hP _ (mg_200 G Z Y (sI σ0 200 0 (0 : Int32))) rfl 20 (by decide) (hts _ wd_1268) (fun _ h9 => h9) rfl dX12_count_74 ?_
    obtain rfl := Option.some.inj h
    exact W.iret (v := (σ0.1 200 20)) hx hb hr (q_end hK hP hD hS) hS.2.2 dX12_count_77
  have h := f_f c6 h
  by_cases c7 : x1 = 6
  · have h := f_t c7 h
    refine lv_tableIn (off := 72) (tgt := 78) hx hb dX12_count_6 (by rw [c7]; decide) (by rw [c7]; decide) (by rw [c7]; rfl) (by decide) ?_
    refine lv_aload_n hx hb dX12_count_78 rfl (lv_at hl 0 rfl) ?_
    refine va_get (D := D) (ci := 12) (v := .int (σ0.1 200 3)) (C := RX12) (T := TX12) (N := 59) hx hb hts inU_X12 hown hK hP _ (mg_200 G Z Y (sI σ0 200 0 (0 : Int32))) rfl 3 (by decide) (hts _ wd_1251) (fun _ h9 => h9) rfl dX12_count_79 ?_
    obtain rfl := Option.some.inj h
    exact W.iret (v := (σ0.1 200 3)) hx hb hr (q_end hK hP hD hS) hS.2.2 dX12_count_82
  have h := f_f c7 h
  have hne0 := i32ne (z := 0) (by decide) c1
  have hne1 := i32ne (z := 1) (by decide) c2
  have hne2 := i32ne (z := 2) (by decide) c3
  have hne3 := i32ne (z := 3) (by decide) c4
  have hne4 := i32ne (z := 4) (by decide) c5
  have hne5 := i32ne (z := 5) (by decide) c6
  have hne6 := i32ne (z := 6) (by decide) c7
  refine lv_tableOut (tgt := 83) hx hb dX12_count_6 (by omega) (by decide) ?_
  refine lv_iconst (v := (-1)) hx hb dX12_count_83 (by decide) ?_
  obtain rfl := Option.some.inj h
  exact W.iret (v := (-1 : Int32)) hx hb hr (q_end hK hP hD hS) hS.2.2 dX12_count_84
