abbrev rm_X11_sayingAt : Room := { frames := 4, cells := 0, slots := 0, locals := 94 }
set_option maxRecDepth 100000 in
set_option maxHeartbeats 8000000 in
theorem c_X11_sayingAt (l : Launch) (D : va_G) (G : hG) (Z : hZ) (Y : va_W) (σ0 : hSt) (x1 : Int32) (res : (Option Nat)) (h : f_X11_sayingAt Z σ0 x1 = some res) : CT l yX11_sayingAt cX11_sayingAt 2 (some (.object "LiarHall$Saying")) rm_X11_sayingAt D G 0 0 [.ref (G.2.1 0), .int x1] (hW G Z Y σ0) (hW G Z Y σ0) (some (va_rf ((res).map G.2.1))) := by
  unfold f_X11_sayingAt at h
  refine CT.mk (cc := cX11_sayingAt) (maxL := 2) (ret := (some (.object "LiarHall$Saying"))) (own := RX11) (plainFor_of_name (by decide)) rfl (Nat.le_of_ble_eq_true rfl) ?_
  intro p e s m args below meth c A ls C0 hnm hA hP hD hl
  obtain ⟨hx, hb, hr, hml, hown, hts, hlocks, hK, hE⟩ := id C0
  have hS : va_S A s.heap s.heap [] := va_S.rf
  have hl : lv_has ls 2 [(0, .ref (G.2.1 0)), (1, .int x1)] := hl
  refine lv_iload_n hx hb dX11_sayingAt_0 rfl (lv_at hl 1 rfl) ?_
  refine lv_if_lt (tgt := 15) hx hb dX11_sayingAt_1 (by decide) (fun c1 => ?_) (fun c1 => ?_)
  · skip
    have h := f_t c1 h
    refine lv_null hx hb dX11_sayingAt_15 ?_
    refine lv_goto (tgt := 30) hx hb dX11_sayingAt_16 (by decide) ?_
    obtain rfl := Option.some.inj h
    exact W.aret (v := .null) hx hb hr (Or.inl ⟨_, rfl⟩) (Or.inl rfl) (q_end hK hP hD hS) hS.2.2 dX11_sayingAt_30
  · skip
    have h := f_f c1 h
    refine lv_iload_n hx hb dX11_sayingAt_4 rfl (lv_at hl 1 rfl) ?_
    refine lv_aload_n hx hb dX11_sayingAt_5 rfl (lv_at hl 0 rfl) ?_
    refine va_get (D := D) (ci := 11) (v := .ref (G.2.1 38)) (C := RX11) (T := TX11) (N := 16) hx hb hts inU_X11 hown hK hP _ (hg_0 G Z Y σ0) rfl 8 (by decide) (hts _ wd_243) (fun _ h9 => h9) rfl dX11_sayingAt_6 ?_
    obtain ⟨q2, hq2, h⟩ := f_b h
    refine cl_V (w := (hW G Z Y σ0)) (w' := (hW G Z Y σ0)) (rv := some (.int q2)) (bytes := cJx4a65c_size_8abf5) (maxL := 1) (ret := (some .int)) (C := RJx4a65c) (As := []) (rest := [.int x1]) (stk := [.int q2, .int x1]) ⟨hx, hb, hml, hown, hts⟩ hK hE hA hP hD hS (c_Jx4a65c_size_8abf5 l D G Z Y σ0 38 (rfl : isLi 38 = true) q2 hq2) (cwV 0 hts (gwV wd_523 wd_524 wd_525 wd_10 wd_526) rfl rfl rfl hd_Jx4a65c_size_8abf5 ⟨Nat.le_of_ble_eq_true rfl, Nat.le_of_ble_eq_true rfl⟩) (hg_38 G Z Y σ0) rfl rfl rfl hl.1 rfl (Nat.le_of_ble_eq_true rfl) dX11_sayingAt_9 ⟨Nat.zero_le _, Nat.zero_le _⟩ rfl (fun H locs hP hD hS => ?_)
    refine lv_icmp_lt (tgt := 19) hx hb dX11_sayingAt_12 (by decide) (fun c3 => ?_) (fun c3 => ?_)
    · skip
      have h := f_t c3 h
      refine lv_aload_n hx hb dX11_sayingAt_19 rfl (lv_at hl 0 rfl) ?_
      refine va_get (D := D) (ci := 11) (v := .ref (G.2.1 38)) (C := RX11) (T := TX11) (N := 16) hx hb hts inU_X11 hown hK hP _ (hg_0 G Z Y σ0) rfl 8 (by decide) (hts _ wd_243) (fun _ h9 => h9) rfl dX11_sayingAt_20 ?_
      refine lv_iload_n hx hb dX11_sayingAt_23 rfl (lv_at hl 1 rfl) ?_
      obtain ⟨q4, hq4, h⟩ := f_b h
      refine cl_V (w := (hW G Z Y σ0)) (w' := (hW G Z Y σ0)) (rv := some (va_rf ((q4).map G.2.1))) (bytes := cJx4a65c_get_915e3) (maxL := 2) (ret := (some (.object "java/lang/Object"))) (C := RJx4a65c) (As := [.int x1]) (rest := []) (stk := [va_rf ((q4).map G.2.1)]) ⟨hx, hb, hml, hown, hts⟩ hK hE hA hP hD hS (c_Jx4a65c_get_915e3 l D G Z Y σ0 38 (rfl : isLi 38 = true) x1 q4 hq4) (cwV 1 hts (gwV wd_661 wd_662 wd_663 wd_10 wd_664) rfl rfl rfl hd_Jx4a65c_get_915e3 ⟨Nat.le_of_ble_eq_true rfl, Nat.le_of_ble_eq_true rfl⟩) (hg_38 G Z Y σ0) rfl rfl rfl hl.1 rfl (Nat.le_of_ble_eq_true rfl) dX11_sayingAt_24 ⟨Nat.zero_le _, Nat.zero_le _⟩ rfl (fun H locs hP hD hS => ?_)
      obtain ⟨r5, ho, hr5, h⟩ := f_oc h
      rw [ho]
      obtain ⟨qq6, hq6⟩ := hg_Sa G Z Y σ0 hr5
      refine va_castS hx hb hown (hts _ wd_527) (hK.1 5 _ rfl).2 (va_recv (ci := 5) hK hP rfl hq6) dX11_sayingAt_27 ?_
      obtain rfl := Option.some.inj h
      exact W.aret (v := .ref (G.2.1 r5)) hx hb hr (Or.inl ⟨_, rfl⟩) (Or.inr ⟨_, rfl⟩) (q_end hK hP hD hS) hS.2.2 dX11_sayingAt_30
    · skip
      have h := f_f c3 h
      refine lv_null hx hb dX11_sayingAt_15 ?_
      refine lv_goto (tgt := 30) hx hb dX11_sayingAt_16 (by decide) ?_
      obtain rfl := Option.some.inj h
      exact W.aret (v := .null) hx hb hr (Or.inl ⟨_, rfl⟩) (Or.inl rfl) (q_end hK hP hD hS) hS.2.2 dX11_sayingAt_30
abbrev rm_X11_talkAt : Room := { frames := 4, cells := 0, slots := 0, locals := 94 }
set_option maxRecDepth 100000 in
set_option maxHeartbeats 8000000 in
theorem c_X11_talkAt (l : Launch) (D : va_G) (G : hG) (Z : hZ) (Y : va_W) (σ0 : hSt) (x1 : Int32) (res : (Option Nat)) (h : f_X11_talkAt Z σ0 x1 = some res) : CT l yX11_talkAt cX11_talkAt 2 (some (.object "LiarHall$Talk")) rm_X11_talkAt D G 0 0 [.ref (G.2.1 0), .int x1] (hW G Z Y σ0) (hW G Z Y σ0) (some (va_rf ((res).map G.2.1))) := by
  unfold f_X11_talkAt at h
  refine CT.mk (cc := cX11_talkAt) (maxL := 2) (ret := (some (.object "LiarHall$Talk"))) (own := RX11) (plainFor_of_name (by decide)) rfl (Nat.le_of_ble_eq_true rfl) ?_
  intro p e s m args below meth c A ls C0 hnm hA hP hD hl
  obtain ⟨hx, hb, hr, hml, hown, hts, hlocks, hK, hE⟩ := id C0
  have hS : va_S A s.heap s.heap [] := va_S.rf
  have hl : lv_has ls 2 [(0, .ref (G.2.1 0)), (1, .int x1)] := hl
  refine lv_iload_n hx hb dX11_talkAt_0 rfl (lv_at hl 1 rfl) ?_
  refine lv_if_lt (tgt := 15) hx hb dX11_talkAt_1 (by decide) (fun c1 => ?_) (fun c1 => ?_)
  · skip
    have h := f_t c1 h
    refine lv_null hx hb dX11_talkAt_15 ?_
    refine lv_goto (tgt := 30) hx hb dX11_talkAt_16 (by decide) ?_
    obtain rfl := Option.some.inj h
    exact W.aret (v := .null) hx hb hr (Or.inl ⟨_, rfl⟩) (Or.inl rfl) (q_end hK hP hD hS) hS.2.2 dX11_talkAt_30
  · skip
    have h := f_f c1 h
    refine lv_iload_n hx hb dX11_talkAt_4 rfl (lv_at hl 1 rfl) ?_
    refine lv_aload_n hx hb dX11_talkAt_5 rfl (lv_at hl 0 rfl) ?_
    refine va_get (D := D) (ci := 11) (v := .ref (G.2.1 41)) (C := RX11) (T := TX11) (N := 16) hx hb hts inU_X11 hown hK hP _ (hg_0 G Z Y σ0) rfl 11 (by decide) (hts _ wd_246) (fun _ h9 => h9) rfl dX11_talkAt_6 ?_
    obtain ⟨q2, hq2, h⟩ := f_b h
    refine cl_V (w := (hW G Z Y σ0)) (w' := (hW G Z Y σ0)) (rv := some (.int q2)) (bytes := cJx4a65c_size_8abf5) (maxL := 1) (ret := (some .int)) (C := RJx4a65c) (As := []) (rest := [.int x1]) (stk := [.int q2, .int x1]) ⟨hx, hb, hml, hown, hts⟩ hK hE hA hP hD hS (c_Jx4a65c_size_8abf5 l D G Z Y σ0 41 (rfl : isLi 41 = true) q2 hq2) (cwV 0 hts (gwV wd_523 wd_524 wd_525 wd_10 wd_526) rfl rfl rfl hd_Jx4a65c_size_8abf5 ⟨Nat.le_of_ble_eq_true rfl, Nat.le_of_ble_eq_true rfl⟩) (hg_41 G Z Y σ0) rfl rfl rfl hl.1 rfl (Nat.le_of_ble_eq_true rfl) dX11_talkAt_9 ⟨Nat.zero_le _, Nat.zero_le _⟩ rfl (fun H locs hP hD hS => ?_)
    refine lv_icmp_lt (tgt := 19) hx hb dX11_talkAt_12 (by decide) (fun c3 => ?_) (fun c3 => ?_)
    · skip
      have h := f_t c3 h
      refine lv_aload_n hx hb dX11_talkAt_19 rfl (lv_at hl 0 rfl) ?_
      refine va_get (D := D) (ci := 11) (v := .ref (G.2.1 41)) (C := RX11) (T := TX11) (N := 16) hx hb hts inU_X11 hown hK hP _ (hg_0 G Z Y σ0) rfl 11 (by decide) (hts _ wd_246) (fun _ h9 => h9) rfl dX11_talkAt_20 ?_
      refine lv_iload_n hx hb dX11_talkAt_23 rfl (lv_at hl 1 rfl) ?_
      obtain ⟨q4, hq4, h⟩ := f_b h
      refine cl_V (w := (hW G Z Y σ0)) (w' := (hW G Z Y σ0)) (rv := some (va_rf ((q4).map G.2.1))) (bytes := cJx4a65c_get_915e3) (maxL := 2) (ret := (some (.object "java/lang/Object"))) (C := RJx4a65c) (As := [.int x1]) (rest := []) (stk := [va_rf ((q4).map G.2.1)]) ⟨hx, hb, hml, hown, hts⟩ hK hE hA hP hD hS (c_Jx4a65c_get_915e3 l D G Z Y σ0 41 (rfl : isLi 41 = true) x1 q4 hq4) (cwV 1 hts (gwV wd_661 wd_662 wd_663 wd_10 wd_664) rfl rfl rfl hd_Jx4a65c_get_915e3 ⟨Nat.le_of_ble_eq_true rfl, Nat.le_of_ble_eq_true rfl⟩) (hg_41 G Z Y σ0) rfl rfl rfl hl.1 rfl (Nat.le_of_ble_eq_true rfl) dX11_talkAt_24 ⟨Nat.zero_le _, Nat.zero_le _⟩ rfl (fun H locs hP hD hS => ?_)
      obtain ⟨r5, ho, hr5, h⟩ := f_oc h
      rw [ho]
      obtain ⟨qq6, hq6⟩ := hg_Ta G Z Y σ0 hr5
      refine va_castS hx hb hown (hts _ wd_773) (hK.1 7 _ rfl).2 (va_recv (ci := 7) hK hP rfl hq6) dX11_talkAt_27 ?_
      obtain rfl := Option.some.inj h
      exact W.aret (v := .ref (G.2.1 r5)) hx hb hr (Or.inl ⟨_, rfl⟩) (Or.inr ⟨_, rfl⟩) (q_end hK hP hD hS) hS.2.2 dX11_talkAt_30
    · skip
      have h := f_f c3 h
      refine lv_null hx hb dX11_talkAt_15 ?_
      refine lv_goto (tgt := 30) hx hb dX11_talkAt_16 (by decide) ?_
      obtain rfl := Option.some.inj h
      exact W.aret (v := .null) hx hb hr (Or.inl ⟨_, rfl⟩) (Or.inl rfl) (q_end hK hP hD hS) hS.2.2 dX11_talkAt_30
abbrev rm_X11_netAt : Room := { frames := 4, cells := 0, slots := 0, locals := 94 }
set_option maxRecDepth 100000 in
set_option maxHeartbeats 8000000 in
theorem c_X11_netAt (l : Launch) (D : va_G) (G : hG) (Z : hZ) (Y : va_W) (σ0 : hSt) (x1 : Int32) (res : (Option Nat)) (h : f_X11_netAt Z σ0 x1 = some res) : CT l yX11_netAt cX11_netAt 2 (some (.object "LiarHall$Net")) rm_X11_netAt D G 0 0 [.ref (G.2.1 0), .int x1] (hW G Z Y σ0) (hW G Z Y σ0) (some (va_rf ((res).map G.2.1))) := by
  unfold f_X11_netAt at h
  refine CT.mk (cc := cX11_netAt) (maxL := 2) (ret := (some (.object "LiarHall$Net"))) (own := RX11) (plainFor_of_name (by decide)) rfl (Nat.le_of_ble_eq_true rfl) ?_
  intro p e s m args below meth c A ls C0 hnm hA hP hD hl
  obtain ⟨hx, hb, hr, hml, hown, hts, hlocks, hK, hE⟩ := id C0
  have hS : va_S A s.heap s.heap [] := va_S.rf
  have hl : lv_has ls 2 [(0, .ref (G.2.1 0)), (1, .int x1)] := hl
  refine lv_iload_n hx hb dX11_netAt_0 rfl (lv_at hl 1 rfl) ?_
  refine lv_if_lt (tgt := 15) hx hb dX11_netAt_1 (by decide) (fun c1 => ?_) (fun c1 => ?_)
  · skip
    have h := f_t c1 h
    refine lv_null hx hb dX11_netAt_15 ?_
    refine lv_goto (tgt := 30) hx hb dX11_netAt_16 (by decide) ?_
    obtain rfl := Option.some.inj h
    exact W.aret (v := .null) hx hb hr (Or.inl ⟨_, rfl⟩) (Or.inl rfl) (q_end hK hP hD hS) hS.2.2 dX11_netAt_30
  · skip
    have h := f_f c1 h
    refine lv_iload_n hx hb dX11_netAt_4 rfl (lv_at hl 1 rfl) ?_
    refine lv_aload_n hx hb dX11_netAt_5 rfl (lv_at hl 0 rfl) ?_
    refine va_get (D := D) (ci := 11) (v := .ref (G.2.1 42)) (C := RX11) (T := TX11) (N := 16) hx hb hts inU_X11 hown hK hP _ (hg_0 G Z Y σ0) rfl 12 (by decide) (hts _ wd_247) (fun _ h9 => h9) rfl dX11_netAt_6 ?_
    obtain ⟨q2, hq2, h⟩ := f_b h
    refine cl_V (w := (hW G Z Y σ0)) (w' := (hW G Z Y σ0)) (rv := some (.int q2)) (bytes := cJx4a65c_size_8abf5) (maxL := 1) (ret := (some .int)) (C := RJx4a65c) (As := []) (rest := [.int x1]) (stk := [.int q2, .int x1]) ⟨hx, hb, hml, hown, hts⟩ hK hE hA hP hD hS (c_Jx4a65c_size_8abf5 l D G Z Y σ0 42 (rfl : isLi 42 = true) q2 hq2) (cwV 0 hts (gwV wd_523 wd_524 wd_525 wd_10 wd_526) rfl rfl rfl hd_Jx4a65c_size_8abf5 ⟨Nat.le_of_ble_eq_true rfl, Nat.le_of_ble_eq_true rfl⟩) (hg_42 G Z Y σ0) rfl rfl rfl hl.1 rfl (Nat.le_of_ble_eq_true rfl) dX11_netAt_9 ⟨Nat.zero_le _, Nat.zero_le _⟩ rfl (fun H locs hP hD hS => ?_)
    refine lv_icmp_lt (tgt := 19) hx hb dX11_netAt_12 (by decide) (fun c3 => ?_) (fun c3 => ?_)
    · skip
      have h := f_t c3 h
      refine lv_aload_n hx hb dX11_netAt_19 rfl (lv_at hl 0 rfl) ?_
      refine va_get (D := D) (ci := 11) (v := .ref (G.2.1 42)) (C := RX11) (T := TX11) (N := 16) hx hb hts inU_X11 hown hK hP _ (hg_0 G Z Y σ0) rfl 12 (by decide) (hts _ wd_247) (fun _ h9 => h9) rfl dX11_netAt_20 ?_
      refine lv_iload_n hx hb dX11_netAt_23 rfl (lv_at hl 1 rfl) ?_
      obtain ⟨q4, hq4, h⟩ := f_b h
      refine cl_V (w := (hW G Z Y σ0)) (w' := (hW G Z Y σ0)) (rv := some (va_rf ((q4).map G.2.1))) (bytes := cJx4a65c_get_915e3) (maxL := 2) (ret := (some (.object "java/lang/Object"))) (C := RJx4a65c) (As := [.int x1]) (rest := []) (stk := [va_rf ((q4).map G.2.1)]) ⟨hx, hb, hml, hown, hts⟩ hK hE hA hP hD hS (c_Jx4a65c_get_915e3 l D G Z Y σ0 42 (rfl : isLi 42 = true) x1 q4 hq4) (cwV 1 hts (gwV wd_661 wd_662 wd_663 wd_10 wd_664) rfl rfl rfl hd_Jx4a65c_get_915e3 ⟨Nat.le_of_ble_eq_true rfl, Nat.le_of_ble_eq_true rfl⟩) (hg_42 G Z Y σ0) rfl rfl rfl hl.1 rfl (Nat.le_of_ble_eq_true rfl) dX11_netAt_24 ⟨Nat.zero_le _, Nat.zero_le _⟩ rfl (fun H locs hP hD hS => ?_)
      obtain ⟨r5, ho, hr5, h⟩ := f_oc h
      rw [ho]
      obtain ⟨qq6, hq6⟩ := hg_Ne G Z Y σ0 hr5
      refine va_castS hx hb hown (hts _ wd_1052) (hK.1 3 _ rfl).2 (va_recv (ci := 3) hK hP rfl hq6) dX11_netAt_27 ?_
      obtain rfl := Option.some.inj h
      exact W.aret (v := .ref (G.2.1 r5)) hx hb hr (Or.inl ⟨_, rfl⟩) (Or.inr ⟨_, rfl⟩) (q_end hK hP hD hS) hS.2.2 dX11_netAt_30
    · skip
      have h := f_f c3 h
      refine lv_null hx hb dX11_netAt_15 ?_
      refine lv_goto (tgt := 30) hx hb dX11_netAt_16 (by decide) ?_
      obtain rfl := Option.some.inj h
      exact W.aret (v := .null) hx hb hr (Or.inl ⟨_, rfl⟩) (Or.inl rfl) (q_end hK hP hD hS) hS.2.2 dX11_netAt_30
abbrev rm_X11_textAt : Room := { frames := 4, cells := 0, slots := 0, locals := 94 }
set_option maxRecDepth 100000 in
set_option maxHeartbeats 8000000 in
theorem c_X11_textAt (l : Launch) (D : va_G) (G : hG) (Z : hZ) (Y : va_W) (σ0 : hSt) (r0 : Nat) (hr0 : isLi r0 = true) (x1 : Int32) (res : (Option Nat)) (h : f_X11_textAt Z σ0 r0 x1 = some res) : CT l yX11_textAt cX11_textAt 2 (some (.object "LiarHall$Text")) rm_X11_textAt D G 0 0 [.ref (G.2.1 r0), .int x1] (hW G Z Y σ0) (hW G Z Y σ0) (some (va_rf ((res).map G.2.1))) := by
  unfold f_X11_textAt at h
  refine CT.mk (cc := cX11_textAt) (maxL := 2) (ret := (some (.object "LiarHall$Text"))) (own := RX11) (plainFor_of_name (by decide)) rfl (Nat.le_of_ble_eq_true rfl) ?_
  intro p e s m args below meth c A ls C0 hnm hA hP hD hl
  obtain ⟨hx, hb, hr, hml, hown, hts, hlocks, hK, hE⟩ := id C0
  have hS : va_S A s.heap s.heap [] := va_S.rf
  have hl : lv_has ls 2 [(0, .ref (G.2.1 r0)), (1, .int x1)] := hl
  refine lv_iload_n hx hb dX11_textAt_0 rfl (lv_at hl 1 rfl) ?_
  refine lv_if_lt (tgt := 12) hx hb dX11_textAt_1 (by decide) (fun c1 => ?_) (fun c1 => ?_)
  · skip
    have h := f_t c1 h
    refine lv_null hx hb dX11_textAt_12 ?_
    refine lv_goto (tgt := 24) hx hb dX11_textAt_13 (by decide) ?_
    obtain rfl := Option.some.inj h
    exact W.aret (v := .null) hx hb hr (Or.inl ⟨_, rfl⟩) (Or.inl rfl) (q_end hK hP hD hS) hS.2.2 dX11_textAt_24
  · skip
    have h := f_f c1 h
    refine lv_iload_n hx hb dX11_textAt_4 rfl (lv_at hl 1 rfl) ?_
    refine lv_aload_n hx hb dX11_textAt_5 rfl (lv_at hl 0 rfl) ?_
    obtain ⟨q2, hq2, h⟩ := f_b h
    refine cl_V (w := (hW G Z Y σ0)) (w' := (hW G Z Y σ0)) (rv := some (.int q2)) (bytes := cJx4a65c_size_8abf5) (maxL := 1) (ret := (some .int)) (C := RJx4a65c) (As := []) (rest := [.int x1]) (stk := [.int q2, .int x1]) ⟨hx, hb, hml, hown, hts⟩ hK hE hA hP hD hS (c_Jx4a65c_size_8abf5 l D G Z Y σ0 r0 hr0 q2 hq2) (cwV 0 hts (gwV wd_523 wd_524 wd_525 wd_10 wd_526) rfl rfl rfl hd_Jx4a65c_size_8abf5 ⟨Nat.le_of_ble_eq_true rfl, Nat.le_of_ble_eq_true rfl⟩) (hg_Li G Z Y σ0 hr0) rfl rfl rfl hl.1 rfl (Nat.le_of_ble_eq_true rfl) dX11_textAt_6 ⟨Nat.zero_le _, Nat.zero_le _⟩ rfl (fun H locs hP hD hS => ?_)
    refine lv_icmp_lt (tgt := 16) hx hb dX11_textAt_9 (by decide) (fun c3 => ?_) (fun c3 => ?_)
    · skip
      have h := f_t c3 h
      refine lv_aload_n hx hb dX11_textAt_16 rfl (lv_at hl 0 rfl) ?_
      refine lv_iload_n hx hb dX11_textAt_17 rfl (lv_at hl 1 rfl) ?_
      obtain ⟨q4, hq4, h⟩ := f_b h
      refine cl_V (w := (hW G Z Y σ0)) (w' := (hW G Z Y σ0)) (rv := some (va_rf ((q4).map G.2.1))) (bytes := cJx4a65c_get_915e3) (maxL := 2) (ret := (some (.object "java/lang/Object"))) (C := RJx4a65c) (As := [.int x1]) (rest := []) (stk := [va_rf ((q4).map G.2.1)]) ⟨hx, hb, hml, hown, hts⟩ hK hE hA hP hD hS (c_Jx4a65c_get_915e3 l D G Z Y σ0 r0 hr0 x1 q4 hq4) (cwV 1 hts (gwV wd_661 wd_662 wd_663 wd_10 wd_664) rfl rfl rfl hd_Jx4a65c_get_915e3 ⟨Nat.le_of_ble_eq_true rfl, Nat.le_of_ble_eq_true rfl⟩) (hg_Li G Z Y σ0 hr0) rfl rfl rfl hl.1 rfl (Nat.le_of_ble_eq_true rfl) dX11_textAt_18 ⟨Nat.zero_le _, Nat.zero_le _⟩ rfl (fun H locs hP hD hS => ?_)
      obtain ⟨r5, ho, hr5, h⟩ := f_oc h
      rw [ho]
      obtain ⟨qq6, hq6⟩ := hg_Te G Z Y σ0 hr5
      refine va_castS hx hb hown (hts _ wd_747) (hK.1 9 _ rfl).2 (va_recv (ci := 9) hK hP rfl hq6) dX11_textAt_21 ?_
      obtain rfl := Option.some.inj h
      exact W.aret (v := .ref (G.2.1 r5)) hx hb hr (Or.inl ⟨_, rfl⟩) (Or.inr ⟨_, rfl⟩) (q_end hK hP hD hS) hS.2.2 dX11_textAt_24
    · skip
      have h := f_f c3 h
      refine lv_null hx hb dX11_textAt_12 ?_
      refine lv_goto (tgt := 24) hx hb dX11_textAt_13 (by decide) ?_
      obtain rfl := Option.some.inj h
      exact W.aret (v := .null) hx hb hr (Or.inl ⟨_, rfl⟩) (Or.inl rfl) (q_end hK hP hD hS) hS.2.2 dX11_textAt_24
abbrev rm_X11_isModulus : Room := { frames := 4, cells := 0, slots := 0, locals := 96 }
set_option maxRecDepth 100000 in
set_option maxHeartbeats 8000000 in
theorem c_X11_isModulus (l : Launch) (D : va_G) (G : hG) (w : va_W) (F : Nat) (x0 : Int32) (res : Int32) (h : f_X11_isModulus F x0 = some res) : CT l yX11_isModulus cX11_isModulus 1 (some .boolean) rm_X11_isModulus D G 0 0 [.int x0] w w (some (.int res)) := by
  unfold f_X11_isModulus at h
  refine CT.mk (cc := cX11_isModulus) (maxL := 1) (ret := (some .boolean)) (own := RX11) (plainFor_of_name (by decide)) rfl (Nat.le_of_ble_eq_true rfl) ?_
  intro p e s m args below meth c A ls C0 hnm hA hP hD hl
  obtain ⟨hx, hb, hr, hml, hown, hts, hlocks, hK, hE⟩ := id C0
  have hS : va_S A s.heap s.heap [] := va_S.rf
  have hl : lv_has ls 1 [(0, .int x0)] := hl
  refine lv_iload_n hx hb dX11_isModulus_0 rfl (lv_at hl 0 rfl) ?_
  refine lv_iconst (v := 2) hx hb dX11_isModulus_1 (by decide) ?_
  refine lv_icmp_le (tgt := 16) hx hb dX11_isModulus_2 (by decide) (fun c1 => ?_) (fun c1 => ?_)
  · skip
    have h := f_t c1 h
    refine lv_iconst (v := 0) hx hb dX11_isModulus_16 (by decide) ?_
    obtain rfl := Option.some.inj h
    exact W.zret (v := (0 : Int32)) hx hb hr rfl (q_end hK hP hD hS) hS.2.2 dX11_isModulus_17
  · skip
    have h := f_f c1 h
    refine lv_iload_n hx hb dX11_isModulus_5 rfl (lv_at hl 0 rfl) ?_
    obtain ⟨q2, hq2, h⟩ := f_b h
    refine cl_S (w := w) (w' := w) (rv := some (.int q2)) (bytes := cX3_isPrime) (maxL := 1) (ret := (some .boolean)) (As := [.int x0]) (rest := []) (stk := [.int q2]) ⟨hx, hb, hml, hown, hts⟩ hK hE hA hP hD hS (c_X3_isPrime l D G w F x0 q2 hq2) (mkS hts wd_700 wd_701 wd_5 wd_702 rfl rfl hd_X3_isPrime ⟨Nat.le_of_ble_eq_true rfl, Nat.le_of_ble_eq_true rfl⟩) rfl hl.1 rfl (Nat.le_of_ble_eq_true rfl) dX11_isModulus_6 ⟨Nat.zero_le _, Nat.zero_le _⟩ rfl (fun H locs hP hD hS => ?_)
    refine lv_if_eq (tgt := 16) hx hb dX11_isModulus_9 (by decide) (fun c3 => ?_) (fun c3 => ?_)
    · skip
      have h := f_t c3 h
      refine lv_iconst (v := 0) hx hb dX11_isModulus_16 (by decide) ?_
      obtain rfl := Option.some.inj h
      exact W.zret (v := (0 : Int32)) hx hb hr rfl (q_end hK hP hD hS) hS.2.2 dX11_isModulus_17
    · skip
      have h := f_f c3 h
      refine lv_iconst (v := 1) hx hb dX11_isModulus_12 (by decide) ?_
      refine lv_goto (tgt := 17) hx hb dX11_isModulus_13 (by decide) ?_
      obtain rfl := Option.some.inj h
      exact W.zret (v := (1 : Int32)) hx hb hr rfl (q_end hK hP hD hS) hS.2.2 dX11_isModulus_17
abbrev rm_X11_isOwnNumber : Room := { frames := 0, cells := 0, slots := 0, locals := 0 }
set_option maxRecDepth 100000 in
set_option maxHeartbeats 8000000 in
theorem c_X11_isOwnNumber (l : Launch) (D : va_G) (G : hG) (w : va_W) (x0 : Int32) (res : Int32) (h : f_X11_isOwnNumber x0 = some res) : CT l yX11_isOwnNumber cX11_isOwnNumber 1 (some .boolean) rm_X11_isOwnNumber D G 0 0 [.int x0] w w (some (.int res)) := by
  unfold f_X11_isOwnNumber at h
  refine CT.mk (cc := cX11_isOwnNumber) (maxL := 1) (ret := (some .boolean)) (own := RX11) (plainFor_of_name (by decide)) rfl (Nat.le_of_ble_eq_true rfl) ?_
  intro p e s m args below meth c A ls C0 hnm hA hP hD hl
  obtain ⟨hx, hb, hr, hml, hown, hts, hlocks, hK, hE⟩ := id C0
  have hS : va_S A s.heap s.heap [] := va_S.rf
  have hl : lv_has ls 1 [(0, .int x0)] := hl
  refine lv_iload_n hx hb dX11_isOwnNumber_0 rfl (lv_at hl 0 rfl) ?_
  refine lv_if_lt (tgt := 15) hx hb dX11_isOwnNumber_1 (by decide) (fun c1 => ?_) (fun c1 => ?_)
  · skip
    have h := f_t c1 h
    refine lv_iconst (v := 0) hx hb dX11_isOwnNumber_15 (by decide) ?_
    obtain rfl := Option.some.inj h
    exact W.zret (v := (0 : Int32)) hx hb hr rfl (q_end hK hP hD hS) hS.2.2 dX11_isOwnNumber_16
  · skip
    have h := f_f c1 h
    refine lv_iload_n hx hb dX11_isOwnNumber_4 rfl (lv_at hl 0 rfl) ?_
    refine lv_ldcw (v := 1000000) hx hb hown (hts _ wd_810) dX11_isOwnNumber_5 ?_
    refine lv_icmp_gt (tgt := 15) hx hb dX11_isOwnNumber_8 (by decide) (fun c2 => ?_) (fun c2 => ?_)
    · skip
      have h := f_t c2 h
      refine lv_iconst (v := 0) hx hb dX11_isOwnNumber_15 (by decide) ?_
      obtain rfl := Option.some.inj h
      exact W.zret (v := (0 : Int32)) hx hb hr rfl (q_end hK hP hD hS) hS.2.2 dX11_isOwnNumber_16
    · skip
      have h := f_f c2 h
      refine lv_iconst (v := 1) hx hb dX11_isOwnNumber_11 (by decide) ?_
      refine lv_goto (tgt := 16) hx hb dX11_isOwnNumber_12 (by decide) ?_
      obtain rfl := Option.some.inj h
      exact W.zret (v := (1 : Int32)) hx hb hr rfl (q_end hK hP hD hS) hS.2.2 dX11_isOwnNumber_16
abbrev rm_X11_areTurns : Room := { frames := 0, cells := 0, slots := 0, locals := 0 }
set_option maxRecDepth 100000 in
set_option maxHeartbeats 8000000 in
theorem c_X11_areTurns (l : Launch) (D : va_G) (G : hG) (w : va_W) (x0 : Int32) (res : Int32) (h : f_X11_areTurns x0 = some res) : CT l yX11_areTurns cX11_areTurns 1 (some .boolean) rm_X11_areTurns D G 0 0 [.int x0] w w (some (.int res)) := by
  unfold f_X11_areTurns at h
  refine CT.mk (cc := cX11_areTurns) (maxL := 1) (ret := (some .boolean)) (own := RX11) (plainFor_of_name (by decide)) rfl (Nat.le_of_ble_eq_true rfl) ?_
  intro p e s m args below meth c A ls C0 hnm hA hP hD hl
  obtain ⟨hx, hb, hr, hml, hown, hts, hlocks, hK, hE⟩ := id C0
  have hS : va_S A s.heap s.heap [] := va_S.rf
  have hl : lv_has ls 1 [(0, .int x0)] := hl
  refine lv_iload_n hx hb dX11_areTurns_0 rfl (lv_at hl 0 rfl) ?_
  refine lv_if_lt (tgt := 14) hx hb dX11_areTurns_1 (by decide) (fun c1 => ?_) (fun c1 => ?_)
  · skip
    have h := f_t c1 h
    refine lv_iconst (v := 0) hx hb dX11_areTurns_14 (by decide) ?_
    obtain rfl := Option.some.inj h
    exact W.zret (v := (0 : Int32)) hx hb hr rfl (q_end hK hP hD hS) hS.2.2 dX11_areTurns_15
  · skip
    have h := f_f c1 h
    refine lv_iload_n hx hb dX11_areTurns_4 rfl (lv_at hl 0 rfl) ?_
    refine lv_bipush (v := 64) hx hb dX11_areTurns_5 (by decide) ?_
    refine lv_icmp_ge (tgt := 14) hx hb dX11_areTurns_7 (by decide) (fun c2 => ?_) (fun c2 => ?_)
    · skip
      have h := f_t c2 h
      refine lv_iconst (v := 0) hx hb dX11_areTurns_14 (by decide) ?_
      obtain rfl := Option.some.inj h
      exact W.zret (v := (0 : Int32)) hx hb hr rfl (q_end hK hP hD hS) hS.2.2 dX11_areTurns_15
    · skip
      have h := f_f c2 h
      refine lv_iconst (v := 1) hx hb dX11_areTurns_10 (by decide) ?_
      refine lv_goto (tgt := 15) hx hb dX11_areTurns_11 (by decide) ?_
      obtain rfl := Option.some.inj h
      exact W.zret (v := (1 : Int32)) hx hb hr rfl (q_end hK hP hD hS) hS.2.2 dX11_areTurns_15
abbrev rm_X11_putPoint : Room := { frames := 2, cells := 0, slots := 0, locals := 48 }
set_option maxRecDepth 100000 in
set_option maxHeartbeats 8000000 in
theorem W_X11_putPoint_L2 {p : Program} {e : Env} {s : State} {m : MethodId} {args : Array Value} {below : List Frame} {meth : Method} {c : Code} {A : Nat → Prop} (l : Launch) (D : va_G) (G : hG) (Z : hZ) (Y : va_W) (σ0 : hSt) (F : Nat) (x1 : Int32) (y1 : Int32) (res : (Unit × hSt)) (C0 : Cx p s m args meth c cX11_putPoint none RX11 3 D G A) (hA : ∀ q : Nat, s.heap.size ≤ q → A q) : ∀ (n : Nat) (σ1 : hSt) (z2 : Int32), f_X11_putPoint_L2 Z y1 n σ1 z2 = some res → ∀ (H : Heap) (locs : List Loc) (ls : Array Slot), va_P D vwCl (hW G Z Y σ1) H → va_D A (hW G Z Y σ1) → va_S A s.heap H locs → lv_has ls 3 [(0, .ref (G.2.1 0)), (1, .int y1), (2, .int z2)] → W p l e rm_X11_putPoint s m args below meth c H locs 0 0 (MQ below (Qg none D (tysG G) (hW G Z Y res.2) A) args s 0 0 A) (F0 m 2 ls []) := by
  obtain ⟨hx, hb, hr, hml, hown, hts, hlocks, hK, hE⟩ := id C0
  intro n
  induction n with
  | zero =>
    intro σ1 z2 h
    cases h
  | succ n ih =>
    intro σ1 z2 h H locs ls hP hD hS hl
    rw [f_X11_putPoint_L2] at h
    refine lv_iload_n hx hb dX11_putPoint_2 rfl (lv_at hl 2 rfl) ?_
    refine lv_aload_n hx hb dX11_putPoint_3 rfl (lv_at hl 0 rfl) ?_
    refine va_get (D := D) (ci := 11) (v := .int (σ1.1 0 15)) (C := RX11) (T := TX11) (N := 16) hx hb hts inU_X11 hown hK hP _ (hg_0 G Z Y σ1) rfl 15 (by decide) (hts _ wd_250) (fun _ h9 => h9) rfl dX11_putPoint_4 ?_
    refine lv_icmp_ge (tgt := 45) hx hb dX11_putPoint_7 (by decide) (fun c1 => ?_) (fun c1 => ?_)
    · skip
      have h := f_t c1 h
      obtain rfl := Option.some.inj h
      exact W.vret hx hb hr (q_end hK hP hD hS) hS.2.2 dX11_putPoint_45
    · skip
      have h := f_f c1 h
      refine lv_iload_n hx hb dX11_putPoint_10 rfl (lv_at hl 2 rfl) ?_
      refine lv_aload_n hx hb dX11_putPoint_11 rfl (lv_at hl 0 rfl) ?_
      refine va_get (D := D) (ci := 11) (v := .ref (G.2.1 43)) (C := RX11) (T := TX11) (N := 16) hx hb hts inU_X11 hown hK hP _ (hg_0 G Z Y σ1) rfl 13 (by decide) (hts _ wd_248) (fun _ h9 => h9) rfl dX11_putPoint_12 ?_
      refine va_alen (ty := .int) (v := (6 : Int32)) hx hb hK hP _ 0 (hg_43 G Z Y σ1) rfl rfl dX11_putPoint_15 ?_
      refine lv_icmp_ge (tgt := 45) hx hb dX11_putPoint_16 (by decide) (fun c2 => ?_) (fun c2 => ?_)
      · skip
        have h := f_t c2 h
        obtain rfl := Option.some.inj h
        exact W.vret hx hb hr (q_end hK hP hD hS) hS.2.2 dX11_putPoint_45
      · skip
        have h := f_f c2 h
        refine lv_aload_n hx hb dX11_putPoint_19 rfl (lv_at hl 0 rfl) ?_
        refine va_get (D := D) (ci := 11) (v := .ref (G.2.1 7)) (C := RX11) (T := TX11) (N := 16) hx hb hts inU_X11 hown hK hP _ (hg_0 G Z Y σ1) rfl 4 (by decide) (hts _ wd_239) (fun _ h9 => h9) rfl dX11_putPoint_20 ?_
        refine lv_iload_n hx hb dX11_putPoint_23 rfl (lv_at hl 2 rfl) ?_
        refine lv_aload_n hx hb dX11_putPoint_24 rfl (lv_at hl 0 rfl) ?_
        refine va_get (D := D) (ci := 11) (v := .ref (G.2.1 43)) (C := RX11) (T := TX11) (N := 16) hx hb hts inU_X11 hown hK hP _ (hg_0 G Z Y σ1) rfl 13 (by decide) (hts _ wd_248) (fun _ h9 => h9) rfl dX11_putPoint_25 ?_
        refine lv_iload_n hx hb dX11_putPoint_28 rfl (lv_at hl 2 rfl) ?_
        obtain ⟨c3, h⟩ := f_n h
        refine va_ialdE (v := (σ1.1 43 ((z2 : Int32).toNatClampNeg))) hx hb hK hP _ 0 (hg_43 G Z Y σ1) rfl c3 dX11_putPoint_29 rfl ?_
        refine lv_i2l (v := ((σ1.1 43 ((z2 : Int32).toNatClampNeg)) : Int32).toInt64) hx hb dX11_putPoint_30 rfl ?_
        refine lv_iload_n hx hb dX11_putPoint_31 rfl (lv_at hl 1 rfl) ?_
        refine lv_i2l (v := (y1 : Int32).toInt64) hx hb dX11_putPoint_32 rfl ?_
        obtain ⟨q4, hq4, h⟩ := f_b h
        refine cl_S (w := (hW G Z Y σ1)) (w' := (hW G Z Y σ1)) (rv := some (.long q4)) (bytes := cX3_rest) (maxL := 4) (ret := (some .long)) (As := [.long ((σ1.1 43 ((z2 : Int32).toNatClampNeg)) : Int32).toInt64, .long (y1 : Int32).toInt64]) (rest := [.int z2, .ref (G.2.1 7)]) (stk := [.long q4, .int z2, .ref (G.2.1 7)]) ⟨hx, hb, hml, hown, hts⟩ hK hE hA hP hD hS (c_X3_rest l D G (hW G Z Y σ1) (((σ1.1 43 ((z2 : Int32).toNatClampNeg)) : Int32).toInt64) ((y1 : Int32).toInt64) q4 hq4) (mkS hts wd_717 wd_708 wd_5 wd_709 rfl rfl hd_X3_rest ⟨Nat.le_of_ble_eq_true rfl, Nat.le_of_ble_eq_true rfl⟩) rfl hl.1 rfl (Nat.le_of_ble_eq_true rfl) dX11_putPoint_33 ⟨Nat.zero_le _, Nat.zero_le _⟩ rfl (fun H locs hP hD hS => ?_)
        obtain ⟨q5, hq5, h⟩ := f_b h
        refine cl_V (w := (hW G Z Y σ1)) (w' := (hW G Z Y q5.2)) (rv := none) (bytes := cX3_put) (maxL := 4) (ret := none) (C := RX3) (As := [.int z2, .long q4]) (rest := []) (stk := []) ⟨hx, hb, hml, hown, hts⟩ hK hE hA hP hD hS (c_X3_put l D G Z Y σ1 z2 q4 q5 hq5) (cwV 2 hts (gwV wd_683 wd_583 wd_584 wd_5 wd_585) rfl rfl rfl hd_X3_put ⟨Nat.le_of_ble_eq_true rfl, Nat.le_of_ble_eq_true rfl⟩) (hg_7 G Z Y σ1) rfl rfl rfl hl.1 rfl (Nat.le_of_ble_eq_true rfl) dX11_putPoint_36 ⟨Nat.zero_le _, Nat.zero_le _⟩ rfl (fun H locs hP hD hS => ?_)
        refine lv_iinc (v := (z2 + 1)) (lv' := [(2, .int (z2 + 1)), (0, .ref (G.2.1 0)), (1, .int y1)]) hx hb dX11_putPoint_39 hl (k := 2) rfl rfl (by decide) rfl (fun ls hl => ?_)
        refine lv_goto (tgt := 2) hx hb dX11_putPoint_42 (by decide) ?_
        exact ih q5.2 (z2 + 1) h _ _ _ hP hD hS (lv_sub hl [1, 2, 0] rfl)
set_option maxRecDepth 100000 in
set_option maxHeartbeats 8000000 in
theorem c_X11_putPoint (l : Launch) (D : va_G) (G : hG) (Z : hZ) (Y : va_W) (σ0 : hSt) (F : Nat) (x1 : Int32) (res : (Unit × hSt)) (h : f_X11_putPoint F Z σ0 x1 = some res) : CT l yX11_putPoint cX11_putPoint 3 none rm_X11_putPoint D G 0 0 [.ref (G.2.1 0), .int x1] (hW G Z Y σ0) (hW G Z Y res.2) none := by
  unfold f_X11_putPoint at h
  refine CT.mk (cc := cX11_putPoint) (maxL := 3) (ret := none) (own := RX11) (plainFor_of_name (by decide)) rfl (Nat.le_of_ble_eq_true rfl) ?_
  intro p e s m args below meth c A ls C0 hnm hA hP hD hl
  obtain ⟨hx, hb, hr, hml, hown, hts, hlocks, hK, hE⟩ := id C0
  have hS : va_S A s.heap s.heap [] := va_S.rf
  have hl : lv_has ls 3 [(0, .ref (G.2.1 0)), (1, .int x1)] := hl
  refine lv_iconst (v := 0) hx hb dX11_putPoint_0 (by decide) ?_
  refine lv_istore_n (lv' := [(2, .int (0 : Int32)), (0, .ref (G.2.1 0)), (1, .int x1)]) hx hb dX11_putPoint_1 rfl hl (by decide) rfl (fun ls hl => ?_)
  refine W_X11_putPoint_L2 l D G Z Y σ0 F x1 x1 res C0 hA F σ0 (0 : Int32) h _ _ _ hP hD hS (lv_sub hl [1, 2, 0] rfl)
abbrev rm_X11_feed : Room := { frames := 1, cells := 0, slots := 0, locals := 23 }
set_option maxRecDepth 100000 in
set_option maxHeartbeats 8000000 in
theorem c_X11_feed (l : Launch) (D : va_G) (G : hG) (Z : hZ) (Y : va_W) (σ0 : hSt) (F : Nat) (x1 : Int32) (x2 : Int32) (x3 : Int32) (x4 : Int32) (x5 : Int32) (res : (Int32 × hSt)) (h : f_X11_feed F Z σ0 x1 x2 x3 x4 x5 = some res) : CT l yX11_feed cX11_feed 7 (some .int) rm_X11_feed D G 0 0 [.ref (G.2.1 0), .int x1, .int x2, .int x3, .int x4, .int x5] (hW G Z Y σ0) (hW G Z Y res.2) (some (.int res.1)) := by
  unfold f_X11_feed at h
  refine CT.mk (cc := cX11_feed) (maxL := 7) (ret := (some .int)) (own := RX11) (plainFor_of_name (by decide)) rfl (Nat.le_of_ble_eq_true rfl) ?_
  intro p e s m args below meth c A ls C0 hnm hA hP hD hl
  obtain ⟨hx, hb, hr, hml, hown, hts, hlocks, hK, hE⟩ := id C0
  have hS : va_S A s.heap s.heap [] := va_S.rf
  have hl : lv_has ls 7 [(0, .ref (G.2.1 0)), (1, .int x1), (2, .int x2), (3, .int x3), (4, .int x4), (5, .int x5)] := hl
  refine lv_iload_n hx hb dX11_feed_0 rfl (lv_at hl 1 rfl) ?_
  obtain ⟨q1, hq1, h⟩ := f_b h
  refine cl_S (w := (hW G Z Y σ0)) (w' := (hW G Z Y σ0)) (rv := some (.int q1)) (bytes := cX8_signsIn) (maxL := 3) (ret := (some .int)) (As := [.int x1]) (rest := []) (stk := [.int q1]) ⟨hx, hb, hml, hown, hts⟩ hK hE hA hP hD hS (c_X8_signsIn l D G (hW G Z Y σ0) F x1 q1 hq1) (mkS hts wd_288 wd_289 wd_2 wd_290 rfl rfl hd_X8_signsIn ⟨Nat.le_of_ble_eq_true rfl, Nat.le_of_ble_eq_true rfl⟩) rfl hl.1 rfl (Nat.le_of_ble_eq_true rfl) dX11_feed_1 ⟨Nat.zero_le _, Nat.zero_le _⟩ rfl (fun H locs hP hD hS => ?_)
  refine lv_iload_n hx hb dX11_feed_4 rfl (lv_at hl 2 rfl) ?_
  obtain ⟨q2, hq2, h⟩ := f_b h
  refine cl_S (w := (hW G Z Y σ0)) (w' := (hW G Z Y σ0)) (rv := some (.int q2)) (bytes := cX8_signsIn) (maxL := 3) (ret := (some .int)) (As := [.int x2]) (rest := [.int q1]) (stk := [.int q2, .int q1]) ⟨hx, hb, hml, hown, hts⟩ hK hE hA hP hD hS (c_X8_signsIn l D G (hW G Z Y σ0) F x2 q2 hq2) (mkS hts wd_288 wd_289 wd_2 wd_290 rfl rfl hd_X8_signsIn ⟨Nat.le_of_ble_eq_true rfl, Nat.le_of_ble_eq_true rfl⟩) rfl hl.1 rfl (Nat.le_of_ble_eq_true rfl) dX11_feed_5 ⟨Nat.zero_le _, Nat.zero_le _⟩ rfl (fun H locs hP hD hS => ?_)
  refine lv_iadd hx hb dX11_feed_8 ?_
  refine lv_iload_n hx hb dX11_feed_9 rfl (lv_at hl 3 rfl) ?_
  obtain ⟨q3, hq3, h⟩ := f_b h
  refine cl_S (w := (hW G Z Y σ0)) (w' := (hW G Z Y σ0)) (rv := some (.int q3)) (bytes := cX8_signsIn) (maxL := 3) (ret := (some .int)) (As := [.int x3]) (rest := [.int (q1 + q2)]) (stk := [.int q3, .int (q1 + q2)]) ⟨hx, hb, hml, hown, hts⟩ hK hE hA hP hD hS (c_X8_signsIn l D G (hW G Z Y σ0) F x3 q3 hq3) (mkS hts wd_288 wd_289 wd_2 wd_290 rfl rfl hd_X8_signsIn ⟨Nat.le_of_ble_eq_true rfl, Nat.le_of_ble_eq_true rfl⟩) rfl hl.1 rfl (Nat.le_of_ble_eq_true rfl) dX11_feed_10 ⟨Nat.zero_le _, Nat.zero_le _⟩ rfl (fun H locs hP hD hS => ?_)
  refine lv_iadd hx hb dX11_feed_13 ?_
  refine lv_iload hx hb dX11_feed_14 (lv_at hl 4 rfl) ?_
  obtain ⟨q4, hq4, h⟩ := f_b h
  refine cl_S (w := (hW G Z Y σ0)) (w' := (hW G Z Y σ0)) (rv := some (.int q4)) (bytes := cX8_signsIn) (maxL := 3) (ret := (some .int)) (As := [.int x4]) (rest := [.int ((q1 + q2) + q3)]) (stk := [.int q4, .int ((q1 + q2) + q3)]) ⟨hx, hb, hml, hown, hts⟩ hK hE hA hP hD hS (c_X8_signsIn l D G (hW G Z Y σ0) F x4 q4 hq4) (mkS hts wd_288 wd_289 wd_2 wd_290 rfl rfl hd_X8_signsIn ⟨Nat.le_of_ble_eq_true rfl, Nat.le_of_ble_eq_true rfl⟩) rfl hl.1 rfl (Nat.le_of_ble_eq_true rfl) dX11_feed_16 ⟨Nat.zero_le _, Nat.zero_le _⟩ rfl (fun H locs hP hD hS => ?_)
  refine lv_iadd hx hb dX11_feed_19 ?_
  refine lv_iload hx hb dX11_feed_20 (lv_at hl 5 rfl) ?_
  obtain ⟨q5, hq5, h⟩ := f_b h
  refine cl_S (w := (hW G Z Y σ0)) (w' := (hW G Z Y σ0)) (rv := some (.int q5)) (bytes := cX8_signsIn) (maxL := 3) (ret := (some .int)) (As := [.int x5]) (rest := [.int (((q1 + q2) + q3) + q4)]) (stk := [.int q5, .int (((q1 + q2) + q3) + q4)]) ⟨hx, hb, hml, hown, hts⟩ hK hE hA hP hD hS (c_X8_signsIn l D G (hW G Z Y σ0) F x5 q5 hq5) (mkS hts wd_288 wd_289 wd_2 wd_290 rfl rfl hd_X8_signsIn ⟨Nat.le_of_ble_eq_true rfl, Nat.le_of_ble_eq_true rfl⟩) rfl hl.1 rfl (Nat.le_of_ble_eq_true rfl) dX11_feed_22 ⟨Nat.zero_le _, Nat.zero_le _⟩ rfl (fun H locs hP hD hS => ?_)
  refine lv_iadd hx hb dX11_feed_25 ?_
  refine lv_istore (lv' := [(6, .int ((((q1 + q2) + q3) + q4) + q5)), (0, .ref (G.2.1 0)), (1, .int x1), (2, .int x2), (3, .int x3), (4, .int x4), (5, .int x5)]) hx hb dX11_feed_26 hl (by decide) rfl (fun ls hl => ?_)
  refine lv_aload_n hx hb dX11_feed_28 rfl (lv_at hl 1 rfl) ?_
  refine va_get (D := D) (ci := 11) (v := .ref (G.2.1 1)) (C := RX11) (T := TX11) (N := 16) hx hb hts inU_X11 hown hK hP _ (hg_0 G Z Y σ0) rfl 0 (by decide) (hts _ wd_235) (fun _ h9 => h9) rfl dX11_feed_29 ?_
  refine va_getN (D := D) (ci := 8) (v := .int (σ0.1 1 2)) (C := RX8) (T := TX8) (N := 6) hx hb hts inU_X8 hown hK hP _ (hg_1 G Z Y σ0) rfl 2 (by decide) (nF_use 0 hE rfl) (fun _ h9 => h9) rfl dX11_feed_32 ?_
  refine lv_iload hx hb dX11_feed_35 (lv_at hl 0 rfl) ?_
  refine lv_iadd hx hb dX11_feed_37 ?_
  refine lv_sipush (v := 200) hx hb dX11_feed_38 (by decide) ?_
  refine lv_icmp_le (tgt := 46) hx hb dX11_feed_41 (by decide) (fun c6 => ?_) (fun c6 => ?_)
  · skip
    have h := f_t c6 h
    refine lv_aload_n hx hb dX11_feed_46 rfl (lv_at hl 1 rfl) ?_
    refine va_get (D := D) (ci := 11) (v := .ref (G.2.1 1)) (C := RX11) (T := TX11) (N := 16) hx hb hts inU_X11 hown hK hP _ (hg_0 G Z Y σ0) rfl 0 (by decide) (hts _ wd_235) (fun _ h9 => h9) rfl dX11_feed_47 ?_
    refine lv_iload_n hx hb dX11_feed_50 rfl (lv_at hl 2 rfl) ?_
    obtain ⟨q7, hq7, h⟩ := f_b h
    refine cl_V (w := (hW G Z Y σ0)) (w' := (hW G Z Y q7.2)) (rv := none) (bytes := cX8_append) (maxL := 4) (ret := none) (C := RX8) (As := [.int x1]) (rest := []) (stk := []) ⟨hx, hb, hml, hown, hts⟩ hK hE hA hP hD hS (c_X8_append l D G Z Y σ0 F x1 q7 hq7) (cwV 1 hts (gwV wd_291 wd_292 wd_293 wd_2 wd_294) rfl rfl rfl hd_X8_append ⟨Nat.le_of_ble_eq_true rfl, Nat.le_of_ble_eq_true rfl⟩) (hg_1 G Z Y σ0) rfl rfl rfl hl.1 rfl (Nat.le_of_ble_eq_true rfl) dX11_feed_51 ⟨Nat.zero_le _, Nat.zero_le _⟩ rfl (fun H locs hP hD hS => ?_)
    refine lv_aload_n hx hb dX11_feed_54 rfl (lv_at hl 1 rfl) ?_
    refine va_get (D := D) (ci := 11) (v := .ref (G.2.1 1)) (C := RX11) (T := TX11) (N := 16) hx hb hts inU_X11 hown hK hP _ (hg_0 G Z Y q7.2) rfl 0 (by decide) (hts _ wd_235) (fun _ h9 => h9) rfl dX11_feed_55 ?_
    refine lv_iload_n hx hb dX11_feed_58 rfl (lv_at hl 3 rfl) ?_
    obtain ⟨q8, hq8, h⟩ := f_b h
    refine cl_V (w := (hW G Z Y q7.2)) (w' := (hW G Z Y q8.2)) (rv := none) (bytes := cX8_append) (maxL := 4) (ret := none) (C := RX8) (As := [.int x2]) (rest := []) (stk := []) ⟨hx, hb, hml, hown, hts⟩ hK hE hA hP hD hS (c_X8_append l D G Z Y q7.2 F x2 q8 hq8) (cwV 1 hts (gwV wd_291 wd_292 wd_293 wd_2 wd_294) rfl rfl rfl hd_X8_append ⟨Nat.le_of_ble_eq_true rfl, Nat.le_of_ble_eq_true rfl⟩) (hg_1 G Z Y q7.2) rfl rfl rfl hl.1 rfl (Nat.le_of_ble_eq_true rfl) dX11_feed_59 ⟨Nat.zero_le _, Nat.zero_le _⟩ rfl (fun H locs hP hD hS => ?_)
    refine lv_aload_n hx hb dX11_feed_62 rfl (lv_at hl 1 rfl) ?_
    refine va_get (D := D) (ci := 11) (v := .ref (G.2.1 1)) (C := RX11) (T := TX11) (N := 16) hx hb hts inU_X11 hown hK hP _ (hg_0 G Z Y q8.2) rfl 0 (by decide) (hts _ wd_235) (fun _ h9 => h9) rfl dX11_feed_63 ?_
    refine lv_iload_n hx hb dX11_feed_66 rfl (lv_at hl 4 rfl) ?_
    obtain ⟨q9, hq9, h⟩ := f_b h
    refine cl_V (w := (hW G Z Y q8.2)) (w' := (hW G Z Y q9.2)) (rv := none) (bytes := cX8_append) (maxL := 4) (ret := none) (C := RX8) (As := [.int x3]) (rest := []) (stk := []) ⟨hx, hb, hml, hown, hts⟩ hK hE hA hP hD hS (c_X8_append l D G Z Y q8.2 F x3 q9 hq9) (cwV 1 hts (gwV wd_291 wd_292 wd_293 wd_2 wd_294) rfl rfl rfl hd_X8_append ⟨Nat.le_of_ble_eq_true rfl, Nat.le_of_ble_eq_true rfl⟩) (hg_1 G Z Y q8.2) rfl rfl rfl hl.1 rfl (Nat.le_of_ble_eq_true rfl) dX11_feed_67 ⟨Nat.zero_le _, Nat.zero_le _⟩ rfl (fun H locs hP hD hS => ?_)
    refine lv_aload_n hx hb dX11_feed_70 rfl (lv_at hl 1 rfl) ?_
    refine va_get (D := D) (ci := 11) (v := .ref (G.2.1 1)) (C := RX11) (T := TX11) (N := 16) hx hb hts inU_X11 hown hK hP _ (hg_0 G Z Y q9.2) rfl 0 (by decide) (hts _ wd_235) (fun _ h9 => h9) rfl dX11_feed_71 ?_
    refine lv_iload hx hb dX11_feed_74 (lv_at hl 5 rfl) ?_
    obtain ⟨q10, hq10, h⟩ := f_b h
    refine cl_V (w := (hW G Z Y q9.2)) (w' := (hW G Z Y q10.2)) (rv := none) (bytes := cX8_append) (maxL := 4) (ret := none) (C := RX8) (As := [.int x4]) (rest := []) (stk := []) ⟨hx, hb, hml, hown, hts⟩ hK hE hA hP hD hS (c_X8_append l D G Z Y q9.2 F x4 q10 hq10) (cwV 1 hts (gwV wd_291 wd_292 wd_293 wd_2 wd_294) rfl rfl rfl hd_X8_append ⟨Nat.le_of_ble_eq_true rfl, Nat.le_of_ble_eq_true rfl⟩) (hg_1 G Z Y q9.2) rfl rfl rfl hl.1 rfl (Nat.le_of_ble_eq_true rfl) dX11_feed_76 ⟨Nat.zero_le _, Nat.zero_le _⟩ rfl (fun H locs hP hD hS => ?_)
    refine lv_aload_n hx hb dX11_feed_79 rfl (lv_at hl 1 rfl) ?_
    refine va_get (D := D) (ci := 11) (v := .ref (G.2.1 1)) (C := RX11) (T := TX11) (N := 16) hx hb hts inU_X11 hown hK hP _ (hg_0 G Z Y q10.2) rfl 0 (by decide) (hts _ wd_235) (fun _ h9 => h9) rfl dX11_feed_80 ?_
    refine lv_iload hx hb dX11_feed_83 (lv_at hl 6 rfl) ?_
    obtain ⟨q11, hq11, h⟩ := f_b h
    refine cl_V (w := (hW G Z Y q10.2)) (w' := (hW G Z Y q11.2)) (rv := none) (bytes := cX8_append) (maxL := 4) (ret := none) (C := RX8) (As := [.int x5]) (rest := []) (stk := []) ⟨hx, hb, hml, hown, hts⟩ hK hE hA hP hD hS (c_X8_append l D G Z Y q10.2 F x5 q11 hq11) (cwV 1 hts (gwV wd_291 wd_292 wd_293 wd_2 wd_294) rfl rfl rfl hd_X8_append ⟨Nat.le_of_ble_eq_true rfl, Nat.le_of_ble_eq_true rfl⟩) (hg_1 G Z Y q10.2) rfl rfl rfl hl.1 rfl (Nat.le_of_ble_eq_true rfl) dX11_feed_85 ⟨Nat.zero_le _, Nat.zero_le _⟩ rfl (fun H locs hP hD hS => ?_)
    refine lv_aload_n hx hb dX11_feed_88 rfl (lv_at hl 1 rfl) ?_
    refine va_get (D := D) (ci := 11) (v := .ref (G.2.1 1)) (C := RX11) (T := TX11) (N := 16) hx hb hts inU_X11 hown hK hP _ (hg_0 G Z Y q11.2) rfl 0 (by decide) (hts _ wd_235) (fun _ h9 => h9) rfl dX11_feed_89 ?_
    refine va_getN (D := D) (ci := 8) (v := .int (q11.2.1 1 2)) (C := RX8) (T := TX8) (N := 6) hx hb hts inU_X8 hown hK hP _ (hg_1 G Z Y q11.2) rfl 2 (by decide) (nF_use 0 hE rfl) (fun _ h9 => h9) rfl dX11_feed_92 ?_
    obtain rfl := Option.some.inj h
    exact W.iret (v := (q11.2.1 1 2)) hx hb hr (q_end hK hP hD hS) hS.2.2 dX11_feed_95
  · skip
    have h := f_f c6 h
    refine lv_iconst (v := (-1)) hx hb dX11_feed_44 (by decide) ?_
    obtain rfl := Option.some.inj h
    exact W.iret (v := (-1 : Int32)) hx hb hr (q_end hK hP hD hS) hS.2.2 dX11_feed_45
abbrev rm_X11_end : Room := { frames := 0, cells := 0, slots := 0, locals := 0 }
set_option maxRecDepth 100000 in
set_option maxHeartbeats 8000000 in
theorem c_X11_end (l : Launch) (D : va_G) (G : hG) (Z : hZ) (Y : va_W) (σ0 : hSt) (x1 : Int32) (res : (Int32 × hSt)) (h : f_X11_end Z σ0 x1 = some res) : CT l yX11_end cX11_end 2 (some .boolean) rm_X11_end D G 0 0 [.ref (G.2.1 0), .int x1] (hW G Z Y σ0) (hW G Z Y res.2) (some (.int res.1)) := by
  unfold f_X11_end at h
  refine CT.mk (cc := cX11_end) (maxL := 2) (ret := (some .boolean)) (own := RX11) (plainFor_of_name (by decide)) rfl (Nat.le_of_ble_eq_true rfl) ?_
  intro p e s m args below meth c A ls C0 hnm hA hP hD hl
  obtain ⟨hx, hb, hr, hml, hown, hts, hlocks, hK, hE⟩ := id C0
  have hS : va_S A s.heap s.heap [] := va_S.rf
  have hl : lv_has ls 2 [(0, .ref (G.2.1 0)), (1, .int x1)] := hl
  refine lv_iload_n hx hb dX11_end_0 rfl (lv_at hl 1 rfl) ?_
  refine lv_if_lt (tgt := 15) hx hb dX11_end_1 (by decide) (fun c1 => ?_) (fun c1 => ?_)
  · skip
    have h := f_t c1 h
    refine lv_iconst (v := 0) hx hb dX11_end_15 (by decide) ?_
    obtain rfl := Option.some.inj h
    exact W.zret (v := (0 : Int32)) hx hb hr rfl (q_end hK hP hD hS) hS.2.2 dX11_end_16
  · skip
    have h := f_f c1 h
    refine lv_iload_n hx hb dX11_end_4 rfl (lv_at hl 1 rfl) ?_
    refine lv_aload_n hx hb dX11_end_5 rfl (lv_at hl 0 rfl) ?_
    refine va_get (D := D) (ci := 11) (v := .ref (G.2.1 1)) (C := RX11) (T := TX11) (N := 16) hx hb hts inU_X11 hown hK hP _ (hg_0 G Z Y σ0) rfl 0 (by decide) (hts _ wd_235) (fun _ h9 => h9) rfl dX11_end_6 ?_
    refine va_getN (D := D) (ci := 8) (v := .int (σ0.1 1 2)) (C := RX8) (T := TX8) (N := 6) hx hb hts inU_X8 hown hK hP _ (hg_1 G Z Y σ0) rfl 2 (by decide) (nF_use 0 hE rfl) (fun _ h9 => h9) rfl dX11_end_9 ?_
    refine lv_icmp_le (tgt := 17) hx hb dX11_end_12 (by decide) (fun c2 => ?_) (fun c2 => ?_)
    · skip
      have h := f_t c2 h
      refine lv_aload_n hx hb dX11_end_17 rfl (lv_at hl 0 rfl) ?_
      refine va_get (D := D) (ci := 11) (v := .ref (G.2.1 1)) (C := RX11) (T := TX11) (N := 16) hx hb hts inU_X11 hown hK hP _ (hg_0 G Z Y σ0) rfl 0 (by decide) (hts _ wd_235) (fun _ h9 => h9) rfl dX11_end_18 ?_
      refine lv_iload_n hx hb dX11_end_21 rfl (lv_at hl 1 rfl) ?_
      refine va_putN (D := D) (ci := 8) (v := .int x1) (ty := .int) (C := RX8) (T := TX8) (N := 6) hx hb hts inU_X8 tyX8 tyX8_ok nmX8 hown hK hP hD hS _ (hg_1 G Z Y σ0) rfl 2 (by decide) (nF_use 0 hE rfl) (fun _ h9 => h9) rfl (by decide +kernel) rfl rfl (Nat.le_of_ble_eq_true rfl) dX11_end_22 (fun H locs hP hD hS => ?_)
      have hP := wrP (hp_1_2 G Z Y σ0 x1) hP
      have hD := wrD (hp_1_2 G Z Y σ0 x1) hD
      refine lv_iconst (v := 1) hx hb dX11_end_25 (by decide) ?_
      obtain rfl := Option.some.inj h
      exact W.zret (v := (1 : Int32)) hx hb hr rfl (q_end hK hP hD hS) hS.2.2 dX11_end_26
    · skip
      have h := f_f c2 h
      refine lv_iconst (v := 0) hx hb dX11_end_15 (by decide) ?_
      obtain rfl := Option.some.inj h
      exact W.zret (v := (0 : Int32)) hx hb hr rfl (q_end hK hP hD hS) hS.2.2 dX11_end_16
abbrev rm_X11_fault : Room := { frames := 80, cells := 0, slots := 0, locals := 1841 }
set_option maxRecDepth 100000 in
set_option maxHeartbeats 8000000 in
theorem c_X11_fault (l : Launch) (D : va_G) (G : hG) (Z : hZ) (Y : va_W) (σ0 : hSt) (F : Nat) (x1 : Int32) (res : (Int32 × hSt)) (h : f_X11_fault F Z σ0 x1 = some res) : CT l yX11_fault cX11_fault 2 (some .int) rm_X11_fault D G 0 0 [.ref (G.2.1 0), .int x1] (hW G Z Y σ0) (hW G Z Y res.2) (some (.int res.1)) := by
  unfold f_X11_fault at h
  refine CT.mk (cc := cX11_fault) (maxL := 2) (ret := (some .int)) (own := RX11) (plainFor_of_name (by decide)) rfl (Nat.le_of_ble_eq_true rfl) ?_
  intro p e s m args below meth c A ls C0 hnm hA hP hD hl
  obtain ⟨hx, hb, hr, hml, hown, hts, hlocks, hK, hE⟩ := id C0
  have hS : va_S A s.heap s.heap [] := va_S.rf
  have hl : lv_has ls 2 [(0, .ref (G.2.1 0)), (1, .int x1)] := hl
  refine lv_iload_n hx hb dX11_fault_0 rfl (lv_at hl 1 rfl) ?_
  by_cases c1 : x1 = 0
  · have h := f_t c1 h
    refine lv_tableIn (off := 27) (tgt := 28) hx hb dX11_fault_1 (by rw [c1]; decide) (by rw [c1]; decide) (by rw [c1]; rfl) (by decide) ?_
    refine lv_aload_n hx hb dX11_fault_28 rfl (lv_at hl 0 rfl) ?_
    refine va_get (D := D) (ci := 11) (v := .ref (G.2.1 4)) (C := RX11) (T := TX11) (N := 16) hx hb hts inU_X11 hown hK hP _ (hg_0 G Z Y σ0) rfl 1 (by decide) (hts _ wd_236) (fun _ h9 => h9) rfl dX11_fault_29 ?_
    obtain ⟨q2, hq2, h⟩ := f_b h
    refine cl_V (w := (hW G Z Y σ0)) (w' := (hW G Z Y q2.2)) (rv := some (.int q2.1)) (bytes := cX5_read) (maxL := 1) (ret := (some .int)) (C := RX5) (As := []) (rest := []) (stk := [.int q2.1]) ⟨hx, hb, hml, hown, hts⟩ hK hE hA hP hD hS (c_X5_read l D G Z Y σ0 F q2 hq2) (cwV 0 hts (gwV wd_303 wd_304 wd_305 wd_3 wd_306) rfl rfl rfl hd_X5_read ⟨Nat.le_of_ble_eq_true rfl, Nat.le_of_ble_eq_true rfl⟩) (hg_4 G Z Y σ0) rfl rfl rfl hl.1 rfl (Nat.le_of_ble_eq_true rfl) dX11_fault_32 ⟨Nat.zero_le _, Nat.zero_le _⟩ rfl (fun H locs hP hD hS => ?_)
    obtain rfl := Option.some.inj h
    exact W.iret (v := q2.1) hx hb hr (q_end hK hP hD hS) hS.2.2 dX11_fault_35
  have h := f_f c1 h
  by_cases c3 : x1 = 1
  · have h := f_t c3 h
    refine lv_tableIn (off := 35) (tgt := 36) hx hb dX11_fault_1 (by rw [c3]; decide) (by rw [c3]; decide) (by rw [c3]; rfl) (by decide) ?_
    refine lv_aload_n hx hb dX11_fault_36 rfl (lv_at hl 0 rfl) ?_
    refine va_get (D := D) (ci := 11) (v := .ref (G.2.1 5)) (C := RX11) (T := TX11) (N := 16) hx hb hts inU_X11 hown hK hP _ (hg_0 G Z Y σ0) rfl 2 (by decide) (hts _ wd_237) (fun _ h9 => h9) rfl dX11_fault_37 ?_
    obtain ⟨q4, hq4, h⟩ := f_b h
    refine cl_V (w := (hW G Z Y σ0)) (w' := (hW G Z Y q4.2)) (rv := some (.int q4.1)) (bytes := cX10_read) (maxL := 3) (ret := (some .int)) (C := RX10) (As := []) (rest := []) (stk := [.int q4.1]) ⟨hx, hb, hml, hown, hts⟩ hK hE hA hP hD hS (c_X10_read l D G Z Y σ0 F 5 (rfl : isRd 5 = true) q4 hq4) (cwV 0 hts (gwV wd_360 wd_361 wd_362 wd_4 wd_363) rfl rfl rfl hd_X10_read ⟨Nat.le_of_ble_eq_true rfl, Nat.le_of_ble_eq_true rfl⟩) (hg_5 G Z Y σ0) rfl rfl rfl hl.1 rfl (Nat.le_of_ble_eq_true rfl) dX11_fault_40 ⟨Nat.zero_le _, Nat.zero_le _⟩ rfl (fun H locs hP hD hS => ?_)
    obtain rfl := Option.some.inj h
    exact W.iret (v := q4.1) hx hb hr (q_end hK hP hD hS) hS.2.2 dX11_fault_43
  have h := f_f c3 h
  by_cases c5 : x1 = 2
  · have h := f_t c5 h
    refine lv_tableIn (off := 43) (tgt := 44) hx hb dX11_fault_1 (by rw [c5]; decide) (by rw [c5]; decide) (by rw [c5]; rfl) (by decide) ?_
    refine lv_aload_n hx hb dX11_fault_44 rfl (lv_at hl 0 rfl) ?_
    refine va_get (D := D) (ci := 11) (v := .ref (G.2.1 6)) (C := RX11) (T := TX11) (N := 16) hx hb hts inU_X11 hown hK hP _ (hg_0 G Z Y σ0) rfl 3 (by decide) (hts _ wd_238) (fun _ h9 => h9) rfl dX11_fault_45 ?_
    obtain ⟨q6, hq6, h⟩ := f_b h
    refine cl_V (w := (hW G Z Y σ0)) (w' := (hW G Z Y q6.2)) (rv := some (.int q6.1)) (bytes := cX10_read) (maxL := 3) (ret := (some .int)) (C := RX10) (As := []) (rest := []) (stk := [.int q6.1]) ⟨hx, hb, hml, hown, hts⟩ hK hE hA hP hD hS (c_X10_read l D G Z Y σ0 F 6 (rfl : isRd 6 = true) q6 hq6) (cwV 0 hts (gwV wd_360 wd_361 wd_362 wd_4 wd_363) rfl rfl rfl hd_X10_read ⟨Nat.le_of_ble_eq_true rfl, Nat.le_of_ble_eq_true rfl⟩) (hg_6 G Z Y σ0) rfl rfl rfl hl.1 rfl (Nat.le_of_ble_eq_true rfl) dX11_fault_48 ⟨Nat.zero_le _, Nat.zero_le _⟩ rfl (fun H locs hP hD hS => ?_)
    obtain rfl := Option.some.inj h
    exact W.iret (v := q6.1) hx hb hr (q_end hK hP hD hS) hS.2.2 dX11_fault_51
  have h := f_f c5 h
  have hne0 := i32ne (z := 0) (by decide) c1
  have hne1 := i32ne (z := 1) (by decide) c3
  have hne2 := i32ne (z := 2) (by decide) c5
  refine lv_tableOut (tgt := 52) hx hb dX11_fault_1 (by omega) (by decide) ?_
  refine lv_bipush (v := (-2)) hx hb dX11_fault_52 (by decide) ?_
  obtain rfl := Option.some.inj h
  exact W.iret (v := (-2 : Int32)) hx hb hr (q_end hK hP hD hS) hS.2.2 dX11_fault_54
abbrev rm_X11_said : Room := { frames := 5, cells := 0, slots := 0, locals := 115 }
set_option maxRecDepth 100000 in
set_option maxHeartbeats 8000000 in
theorem c_X11_said (l : Launch) (D : va_G) (G : hG) (Z : hZ) (Y : va_W) (σ0 : hSt) (x1 : Int32) (x2 : Int32) (res : Int32) (h : f_X11_said Z σ0 x1 x2 = some res) : CT l yX11_said cX11_said 4 (some .int) rm_X11_said D G 0 0 [.ref (G.2.1 0), .int x1, .int x2] (hW G Z Y σ0) (hW G Z Y σ0) (some (.int res)) := by
  unfold f_X11_said at h
  refine CT.mk (cc := cX11_said) (maxL := 4) (ret := (some .int)) (own := RX11) (plainFor_of_name (by decide)) rfl (Nat.le_of_ble_eq_true rfl) ?_
  intro p e s m args below meth c A ls C0 hnm hA hP hD hl
  obtain ⟨hx, hb, hr, hml, hown, hts, hlocks, hK, hE⟩ := id C0
  have hS : va_S A s.heap s.heap [] := va_S.rf
  have hl : lv_has ls 4 [(0, .ref (G.2.1 0)), (1, .int x1), (2, .int x2)] := hl
  refine lv_aload_n hx hb dX11_said_0 rfl (lv_at hl 0 rfl) ?_
  refine lv_iload_n hx hb dX11_said_1 rfl (lv_at hl 1 rfl) ?_
  obtain ⟨q1, hq1, h⟩ := f_b h
  refine cl_V (w := (hW G Z Y σ0)) (w' := (hW G Z Y σ0)) (rv := some (va_rf ((q1).map G.2.1))) (bytes := cX11_sayingAt) (maxL := 2) (ret := (some (.object "LiarHall$Saying"))) (C := RX11) (As := [.int x1]) (rest := []) (stk := [va_rf ((q1).map G.2.1)]) ⟨hx, hb, hml, hown, hts⟩ hK hE hA hP hD hS (c_X11_sayingAt l D G Z Y σ0 x1 q1 hq1) (cwV 1 hts (gwV wd_657 wd_659 wp_19 wd_1 wd_660) rfl rfl rfl hd_X11_sayingAt ⟨Nat.le_of_ble_eq_true rfl, Nat.le_of_ble_eq_true rfl⟩) (hg_0 G Z Y σ0) rfl rfl rfl hl.1 rfl (Nat.le_of_ble_eq_true rfl) dX11_said_2 ⟨Nat.zero_le _, Nat.zero_le _⟩ rfl (fun H locs hP hD hS => ?_)
  rcases f_o h with ⟨ho, h⟩ | ⟨r2, ho, h⟩
  · rw [ho]
    refine lv_astore_nN (lv' := [(3, .null), (0, .ref (G.2.1 0)), (1, .int x1), (2, .int x2)]) hx hb dX11_said_5 rfl hl (by decide) rfl (fun ls hl => ?_)
    refine lv_aload_nN hx hb dX11_said_6 rfl (lv_at hl 0 rfl) ?_
    refine lv_ifnonnullN hx hb dX11_said_7 ?_
    refine lv_iconst (v := (-1)) hx hb dX11_said_10 (by decide) ?_
    obtain rfl := Option.some.inj h
    exact W.iret (v := (-1 : Int32)) hx hb hr (q_end hK hP hD hS) hS.2.2 dX11_said_11
  · rw [ho]
    obtain ⟨hr2, h⟩ := f_c h
    refine lv_astore_n (lv' := [(3, .ref (G.2.1 r2)), (0, .ref (G.2.1 0)), (1, .int x1), (2, .int x2)]) hx hb dX11_said_5 rfl hl (by decide) rfl (fun ls hl => ?_)
    refine lv_aload_n hx hb dX11_said_6 rfl (lv_at hl 0 rfl) ?_
    refine lv_ifnonnull (tgt := 12) hx hb dX11_said_7 (by decide) ?_
    refine lv_iload_n hx hb dX11_said_12 rfl (lv_at hl 3 rfl) ?_
    by_cases c3 : x2 = 0
    · have h := f_t c3 h
      refine lv_tableIn (off := 27) (tgt := 40) hx hb dX11_said_13 (by rw [c3]; decide) (by rw [c3]; decide) (by rw [c3]; rfl) (by decide) ?_
      refine lv_aload_n hx hb dX11_said_40 rfl (lv_at hl 0 rfl) ?_
      obtain ⟨qq4, hq4⟩ := hg_Sa G Z Y σ0 hr2
      refine va_getN (D := D) (ci := 5) (v := .int (Z.2.2.1 r2 2)) (C := RX4) (T := TX4) (N := 5) hx hb hts inU_X4 hown hK hP _ hq4 rfl 2 (by decide) (nF_use 13 hE rfl) (fun _ h9 => h9) rfl dX11_said_41 ?_
      obtain rfl := Option.some.inj h
      exact W.iret (v := (Z.2.2.1 r2 2)) hx hb hr (q_end hK hP hD hS) hS.2.2 dX11_said_44
    have h := f_f c3 h
    by_cases c5 : x2 = 1
    · have h := f_t c5 h
      refine lv_tableIn (off := 32) (tgt := 45) hx hb dX11_said_13 (by rw [c5]; decide) (by rw [c5]; decide) (by rw [c5]; rfl) (by decide) ?_
      refine lv_aload_n hx hb dX11_said_45 rfl (lv_at hl 0 rfl) ?_
      obtain ⟨qq6, hq6⟩ := hg_Sa G Z Y σ0 hr2
      refine va_getN (D := D) (ci := 5) (v := .int (Z.2.2.1 r2 3)) (C := RX4) (T := TX4) (N := 5) hx hb hts inU_X4 hown hK hP _ hq6 rfl 3 (by decide) (nF_use 15 hE rfl) (fun _ h9 => h9) rfl dX11_said_46 ?_
      obtain rfl := Option.some.inj h
      exact W.iret (v := (Z.2.2.1 r2 3)) hx hb hr (q_end hK hP hD hS) hS.2.2 dX11_said_49
    have h := f_f c5 h
    by_cases c7 : x2 = 2
    · have h := f_t c7 h
      refine lv_tableIn (off := 37) (tgt := 50) hx hb dX11_said_13 (by rw [c7]; decide) (by rw [c7]; decide) (by rw [c7]; rfl) (by decide) ?_
      refine lv_aload_n hx hb dX11_said_50 rfl (lv_at hl 0 rfl) ?_
      obtain ⟨qq8, hq8⟩ := hg_Sa G Z Y σ0 hr2
      refine va_getN (D := D) (ci := 5) (v := .int (Z.2.2.1 r2 4)) (C := RX4) (T := TX4) (N := 5) hx hb hts inU_X4 hown hK hP _ hq8 rfl 4 (by decide) (nF_use 17 hE rfl) (fun _ h9 => h9) rfl dX11_said_51 ?_
      obtain rfl := Option.some.inj h
      exact W.iret (v := (Z.2.2.1 r2 4)) hx hb hr (q_end hK hP hD hS) hS.2.2 dX11_said_54
    have h := f_f c7 h
    have hne0 := i32ne (z := 0) (by decide) c3
    have hne1 := i32ne (z := 1) (by decide) c5
    have hne2 := i32ne (z := 2) (by decide) c7
    refine lv_tableOut (tgt := 55) hx hb dX11_said_13 (by omega) (by decide) ?_
    refine lv_iload_n hx hb dX11_said_55 rfl (lv_at hl 3 rfl) ?_
    refine lv_iconst (v := 3) hx hb dX11_said_56 (by decide) ?_
    refine lv_icmp_lt (tgt := 66) hx hb dX11_said_57 (by decide) (fun c9 => ?_) (fun c9 => ?_)
    · skip
      have h := f_t c9 h
      refine lv_iconst (v := (-1)) hx hb dX11_said_66 (by decide) ?_
      refine lv_goto (tgt := 77) hx hb dX11_said_67 (by decide) ?_
      obtain rfl := Option.some.inj h
      exact W.iret (v := (-1 : Int32)) hx hb hr (q_end hK hP hD hS) hS.2.2 dX11_said_77
    · skip
      have h := f_f c9 h
      refine lv_iload_n hx hb dX11_said_60 rfl (lv_at hl 3 rfl) ?_
      refine lv_bipush (v := 8) hx hb dX11_said_61 (by decide) ?_
      refine lv_icmp_le (tgt := 70) hx hb dX11_said_63 (by decide) (fun c10 => ?_) (fun c10 => ?_)
      · skip
        have h := f_t c10 h
        refine lv_aload_n hx hb dX11_said_70 rfl (lv_at hl 0 rfl) ?_
        refine lv_iload_n hx hb dX11_said_71 rfl (lv_at hl 3 rfl) ?_
        refine lv_iconst (v := 3) hx hb dX11_said_72 (by decide) ?_
        refine lv_isub hx hb dX11_said_73 ?_
        obtain ⟨q11, hq11, h⟩ := f_b h
        obtain ⟨qq12, hq12⟩ := hg_Sa G Z Y σ0 hr2
        refine cl_V (w := (hW G Z Y σ0)) (w' := (hW G Z Y σ0)) (rv := some (.int q11)) (bytes := cX4_steepOf) (maxL := 2) (ret := (some .int)) (C := RX4) (As := [.int (x2 - (3 : Int32))]) (rest := []) (stk := [.int q11]) ⟨hx, hb, hml, hown, hts⟩ hK hE hA hP hD hS (c_X4_steepOf l D G Z Y σ0 r2 hr2 (x2 - (3 : Int32)) q11 hq11) (cwV 1 hts (gwV wd_675 wd_676 wd_677 wd_18 wd_678) rfl rfl rfl hd_X4_steepOf ⟨Nat.le_of_ble_eq_true rfl, Nat.le_of_ble_eq_true rfl⟩) hq12 rfl rfl rfl hl.1 rfl (Nat.le_of_ble_eq_true rfl) dX11_said_74 ⟨Nat.zero_le _, Nat.zero_le _⟩ rfl (fun H locs hP hD hS => ?_)
        obtain rfl := Option.some.inj h
        exact W.iret (v := q11) hx hb hr (q_end hK hP hD hS) hS.2.2 dX11_said_77
      · skip
        have h := f_f c10 h
        refine lv_iconst (v := (-1)) hx hb dX11_said_66 (by decide) ?_
        refine lv_goto (tgt := 77) hx hb dX11_said_67 (by decide) ?_
        obtain rfl := Option.some.inj h
        exact W.iret (v := (-1 : Int32)) hx hb hr (q_end hK hP hD hS) hS.2.2 dX11_said_77
abbrev rm_X11_truth : Room := { frames := 5, cells := 0, slots := 0, locals := 115 }
set_option maxRecDepth 100000 in
set_option maxHeartbeats 8000000 in
theorem W_X11_truth_L25 {p : Program} {e : Env} {s : State} {m : MethodId} {args : Array Value} {below : List Frame} {meth : Method} {c : Code} {A : Nat → Prop} (l : Launch) (D : va_G) (G : hG) (Z : hZ) (Y : va_W) (σ0 : hSt) (F : Nat) (x1 : Int32) (x2 : Int32) (r2 : Nat) (hr2 : isSa Z r2 = true) (y2 : Int32) (res : (Int32 × hSt)) (C0 : Cx p s m args meth c cX11_truth (some .int) RX11 5 D G A) (hA : ∀ q : Nat, s.heap.size ≤ q → A q) (k54 : hSt → Option (Int32 × hSt)) (hk54 : ∀ (σ1 : hSt), k54 σ1 = some res → ∀ (H : Heap) (locs : List Loc) (ls : Array Slot), va_P D vwCl (hW G Z Y σ1) H → va_D A (hW G Z Y σ1) → va_S A s.heap H locs → lv_has ls 5 [(0, .ref (G.2.1 0)), (3, .ref (G.2.1 r2))] → W p l e rm_X11_truth s m args below meth c H locs 0 0 (MQ below (Qg (some (.int res.1)) D (tysG G) (hW G Z Y res.2) A) args s 0 0 A) (F0 m 54 ls [])) : ∀ (n : Nat) (σ1 : hSt) (z4 : Int32), f_X11_truth_L25 Z y2 k54 n σ1 z4 = some res → ∀ (H : Heap) (locs : List Loc) (ls : Array Slot), va_P D vwCl (hW G Z Y σ1) H → va_D A (hW G Z Y σ1) → va_S A s.heap H locs → lv_has ls 5 [(0, .ref (G.2.1 0)), (2, .int y2), (3, .ref (G.2.1 r2)), (4, .int z4)] → W p l e rm_X11_truth s m args below meth c H locs 0 0 (MQ below (Qg (some (.int res.1)) D (tysG G) (hW G Z Y res.2) A) args s 0 0 A) (F0 m 25 ls []) := by
  obtain ⟨hx, hb, hr, hml, hown, hts, hlocks, hK, hE⟩ := id C0
  intro n
  induction n with
  | zero =>
    intro σ1 z4 h
    cases h
  | succ n ih =>
    intro σ1 z4 h H locs ls hP hD hS hl
    rw [f_X11_truth_L25] at h
    refine lv_iload hx hb dX11_truth_25 (lv_at hl 3 rfl) ?_
    refine lv_bipush (v := 6) hx hb dX11_truth_27 (by decide) ?_
    refine lv_icmp_ge (tgt := 54) hx hb dX11_truth_29 (by decide) (fun c5 => ?_) (fun c5 => ?_)
    · skip
      have h := f_t c5 h
      exact hk54 σ1 h _ _ _ hP hD hS (lv_sub hl [0, 2] rfl)
    · skip
      have h := f_f c5 h
      refine lv_aload_n hx hb dX11_truth_32 rfl (lv_at hl 0 rfl) ?_
      refine va_get (D := D) (ci := 11) (v := .ref (G.2.1 7)) (C := RX11) (T := TX11) (N := 16) hx hb hts inU_X11 hown hK hP _ (hg_0 G Z Y σ1) rfl 4 (by decide) (hts _ wd_239) (fun _ h9 => h9) rfl dX11_truth_33 ?_
      refine lv_iload hx hb dX11_truth_36 (lv_at hl 3 rfl) ?_
      refine lv_iload_n hx hb dX11_truth_38 rfl (lv_at hl 1 rfl) ?_
      refine lv_iload hx hb dX11_truth_39 (lv_at hl 3 rfl) ?_
      refine lv_ishr hx hb dX11_truth_41 ?_
      refine lv_iconst (v := 1) hx hb dX11_truth_42 (by decide) ?_
      refine lv_iand hx hb dX11_truth_43 ?_
      refine lv_i2l (v := (((y2 >>> (z4 &&& 31)) &&& (1 : Int32)) : Int32).toInt64) hx hb dX11_truth_44 rfl ?_
      obtain ⟨q6, hq6, h⟩ := f_b h
      refine cl_V (w := (hW G Z Y σ1)) (w' := (hW G Z Y q6.2)) (rv := none) (bytes := cX3_put) (maxL := 4) (ret := none) (C := RX3) (As := [.int z4, .long (((y2 >>> (z4 &&& 31)) &&& (1 : Int32)) : Int32).toInt64]) (rest := []) (stk := []) ⟨hx, hb, hml, hown, hts⟩ hK hE hA hP hD hS (c_X3_put l D G Z Y σ1 z4 ((((y2 >>> (z4 &&& 31)) &&& (1 : Int32)) : Int32).toInt64) q6 hq6) (cwV 2 hts (gwV wd_683 wd_583 wd_584 wd_5 wd_585) rfl rfl rfl hd_X3_put ⟨Nat.le_of_ble_eq_true rfl, Nat.le_of_ble_eq_true rfl⟩) (hg_7 G Z Y σ1) rfl rfl rfl hl.1 rfl (Nat.le_of_ble_eq_true rfl) dX11_truth_45 ⟨Nat.zero_le _, Nat.zero_le _⟩ rfl (fun H locs hP hD hS => ?_)
      refine lv_iinc (v := (z4 + 1)) (lv' := [(4, .int (z4 + 1)), (0, .ref (G.2.1 0)), (2, .int y2), (3, .ref (G.2.1 r2))]) hx hb dX11_truth_48 hl (k := 3) rfl rfl (by decide) rfl (fun ls hl => ?_)
      refine lv_goto (tgt := 25) hx hb dX11_truth_51 (by decide) ?_
      exact ih q6.2 (z4 + 1) h _ _ _ hP hD hS (lv_sub hl [1, 2, 3, 0] rfl)
set_option maxRecDepth 100000 in
set_option maxHeartbeats 8000000 in
theorem c_X11_truth (l : Launch) (D : va_G) (G : hG) (Z : hZ) (Y : va_W) (σ0 : hSt) (F : Nat) (x1 : Int32) (x2 : Int32) (res : (Int32 × hSt)) (h : f_X11_truth F Z σ0 x1 x2 = some res) : CT l yX11_truth cX11_truth 5 (some .int) rm_X11_truth D G 0 0 [.ref (G.2.1 0), .int x1, .int x2] (hW G Z Y σ0) (hW G Z Y res.2) (some (.int res.1)) := by
  unfold f_X11_truth at h
  refine CT.mk (cc := cX11_truth) (maxL := 5) (ret := (some .int)) (own := RX11) (plainFor_of_name (by decide)) rfl (Nat.le_of_ble_eq_true rfl) ?_
  intro p e s m args below meth c A ls C0 hnm hA hP hD hl
  obtain ⟨hx, hb, hr, hml, hown, hts, hlocks, hK, hE⟩ := id C0
  have hS : va_S A s.heap s.heap [] := va_S.rf
  have hl : lv_has ls 5 [(0, .ref (G.2.1 0)), (1, .int x1), (2, .int x2)] := hl
  refine lv_aload_n hx hb dX11_truth_0 rfl (lv_at hl 0 rfl) ?_
  refine lv_iload_n hx hb dX11_truth_1 rfl (lv_at hl 1 rfl) ?_
  obtain ⟨q1, hq1, h⟩ := f_b h
  refine cl_V (w := (hW G Z Y σ0)) (w' := (hW G Z Y σ0)) (rv := some (va_rf ((q1).map G.2.1))) (bytes := cX11_sayingAt) (maxL := 2) (ret := (some (.object "LiarHall$Saying"))) (C := RX11) (As := [.int x1]) (rest := []) (stk := [va_rf ((q1).map G.2.1)]) ⟨hx, hb, hml, hown, hts⟩ hK hE hA hP hD hS (c_X11_sayingAt l D G Z Y σ0 x1 q1 hq1) (cwV 1 hts (gwV wd_657 wd_659 wp_19 wd_1 wd_660) rfl rfl rfl hd_X11_sayingAt ⟨Nat.le_of_ble_eq_true rfl, Nat.le_of_ble_eq_true rfl⟩) (hg_0 G Z Y σ0) rfl rfl rfl hl.1 rfl (Nat.le_of_ble_eq_true rfl) dX11_truth_2 ⟨Nat.zero_le _, Nat.zero_le _⟩ rfl (fun H locs hP hD hS => ?_)
  rcases f_o h with ⟨ho, h⟩ | ⟨r2, ho, h⟩
  · rw [ho]
    refine lv_astore_nN (lv' := [(3, .null), (0, .ref (G.2.1 0)), (1, .int x1), (2, .int x2)]) hx hb dX11_truth_5 rfl hl (by decide) rfl (fun ls hl => ?_)
    refine lv_aload_nN hx hb dX11_truth_6 rfl (lv_at hl 0 rfl) ?_
    refine lv_ifnullN (tgt := 20) hx hb dX11_truth_7 (by decide) ?_
    refine lv_iconst (v := (-1)) hx hb dX11_truth_20 (by decide) ?_
    obtain rfl := Option.some.inj h
    exact W.iret (v := (-1 : Int32)) hx hb hr (q_end hK hP hD hS) hS.2.2 dX11_truth_21
  · rw [ho]
    obtain ⟨hr2, h⟩ := f_c h
    refine lv_astore_n (lv' := [(3, .ref (G.2.1 r2)), (0, .ref (G.2.1 0)), (1, .int x1), (2, .int x2)]) hx hb dX11_truth_5 rfl hl (by decide) rfl (fun ls hl => ?_)
    refine lv_aload_n hx hb dX11_truth_6 rfl (lv_at hl 0 rfl) ?_
    refine lv_ifnull hx hb dX11_truth_7 ?_
    refine lv_iload_n hx hb dX11_truth_10 rfl (lv_at hl 3 rfl) ?_
    refine lv_if_lt (tgt := 20) hx hb dX11_truth_11 (by decide) (fun c3 => ?_) (fun c3 => ?_)
    · skip
      have h := f_t c3 h
      refine lv_iconst (v := (-1)) hx hb dX11_truth_20 (by decide) ?_
      obtain rfl := Option.some.inj h
      exact W.iret (v := (-1 : Int32)) hx hb hr (q_end hK hP hD hS) hS.2.2 dX11_truth_21
    · skip
      have h := f_f c3 h
      refine lv_iload_n hx hb dX11_truth_14 rfl (lv_at hl 3 rfl) ?_
      refine lv_bipush (v := 64) hx hb dX11_truth_15 (by decide) ?_
      refine lv_icmp_lt (tgt := 22) hx hb dX11_truth_17 (by decide) (fun c4 => ?_) (fun c4 => ?_)
      · skip
        have h := f_t c4 h
        refine lv_iconst (v := 0) hx hb dX11_truth_22 (by decide) ?_
        refine lv_istore (lv' := [(4, .int (0 : Int32)), (3, .ref (G.2.1 r2)), (0, .ref (G.2.1 0)), (1, .int x1), (2, .int x2)]) hx hb dX11_truth_23 hl (by decide) rfl (fun ls hl => ?_)
        refine W_X11_truth_L25 l D G Z Y σ0 F x1 x2 r2 hr2 x2 res C0 hA _ ?_ F σ0 (0 : Int32) h _ _ _ hP hD hS (lv_sub hl [2, 4, 1, 0] rfl)
        · intro σ1 h H locs ls hP hD hS hl
          refine lv_aload_n hx hb dX11_truth_54 rfl (lv_at hl 0 rfl) ?_
          refine va_get (D := D) (ci := 11) (v := .ref (G.2.1 7)) (C := RX11) (T := TX11) (N := 16) hx hb hts inU_X11 hown hK hP _ (hg_0 G Z Y σ1) rfl 4 (by decide) (hts _ wd_239) (fun _ h9 => h9) rfl dX11_truth_55 ?_
          refine lv_aload_n hx hb dX11_truth_58 rfl (lv_at hl 1 rfl) ?_
          refine lv_ldc2 (v := 1000000007) hx hb hown (hts _ wd_576) dX11_truth_59 ?_
          obtain ⟨q7, hq7, h⟩ := f_b h
          refine cl_V (w := (hW G Z Y σ1)) (w' := (hW G Z Y q7.2)) (rv := some (.long q7.1)) (bytes := cX3_worthOf) (maxL := 15) (ret := (some .long)) (C := RX3) (As := [.ref (G.2.1 r2), .long (1000000007 : Int64)]) (rest := []) (stk := [.long q7.1]) ⟨hx, hb, hml, hown, hts⟩ hK hE hA hP hD hS (c_X3_worthOf l D G Z Y σ1 F r2 hr2 (1000000007 : Int64) q7 hq7) (cwV 2 hts (gwV wd_684 wd_587 wd_588 wd_5 wd_589) rfl rfl rfl hd_X3_worthOf ⟨Nat.le_of_ble_eq_true rfl, Nat.le_of_ble_eq_true rfl⟩) (hg_7 G Z Y σ1) rfl rfl rfl hl.1 rfl (Nat.le_of_ble_eq_true rfl) dX11_truth_62 ⟨Nat.zero_le _, Nat.zero_le _⟩ rfl (fun H locs hP hD hS => ?_)
          refine lv_l2i (v := (q7.1 : Int64).toInt32) hx hb dX11_truth_65 rfl ?_
          obtain rfl := Option.some.inj h
          exact W.iret (v := (q7.1 : Int64).toInt32) hx hb hr (q_end hK hP hD hS) hS.2.2 dX11_truth_66
      · skip
        have h := f_f c4 h
        refine lv_iconst (v := (-1)) hx hb dX11_truth_20 (by decide) ?_
        obtain rfl := Option.some.inj h
        exact W.iret (v := (-1 : Int32)) hx hb hr (q_end hK hP hD hS) hS.2.2 dX11_truth_21
abbrev rm_X11_lay : Room := { frames := 0, cells := 0, slots := 0, locals := 0 }
set_option maxRecDepth 100000 in
set_option maxHeartbeats 8000000 in
theorem c_X11_lay (l : Launch) (D : va_G) (G : hG) (Z : hZ) (Y : va_W) (σ0 : hSt) (x1 : Int32) (res : (Int32 × hSt)) (h : f_X11_lay Z σ0 x1 = some res) : CT l yX11_lay cX11_lay 2 (some .int) rm_X11_lay D G 0 0 [.ref (G.2.1 0), .int x1] (hW G Z Y σ0) (hW G Z Y res.2) (some (.int res.1)) := by
  unfold f_X11_lay at h
  refine CT.mk (cc := cX11_lay) (maxL := 2) (ret := (some .int)) (own := RX11) (plainFor_of_name (by decide)) rfl (Nat.le_of_ble_eq_true rfl) ?_
  intro p e s m args below meth c A ls C0 hnm hA hP hD hl
  obtain ⟨hx, hb, hr, hml, hown, hts, hlocks, hK, hE⟩ := id C0
  have hS : va_S A s.heap s.heap [] := va_S.rf
  have hl : lv_has ls 2 [(0, .ref (G.2.1 0)), (1, .int x1)] := hl
  refine lv_iload_n hx hb dX11_lay_0 rfl (lv_at hl 1 rfl) ?_
  refine lv_if_lt (tgt := 23) hx hb dX11_lay_1 (by decide) (fun c1 => ?_) (fun c1 => ?_)
  · skip
    have h := f_t c1 h
    refine lv_iconst (v := (-1)) hx hb dX11_lay_23 (by decide) ?_
    obtain rfl := Option.some.inj h
    exact W.iret (v := (-1 : Int32)) hx hb hr (q_end hK hP hD hS) hS.2.2 dX11_lay_24
  · skip
    have h := f_f c1 h
    refine lv_aload_n hx hb dX11_lay_4 rfl (lv_at hl 0 rfl) ?_
    refine va_get (D := D) (ci := 11) (v := .int (σ0.1 0 15)) (C := RX11) (T := TX11) (N := 16) hx hb hts inU_X11 hown hK hP _ (hg_0 G Z Y σ0) rfl 15 (by decide) (hts _ wd_250) (fun _ h9 => h9) rfl dX11_lay_5 ?_
    refine lv_if_lt (tgt := 23) hx hb dX11_lay_8 (by decide) (fun c2 => ?_) (fun c2 => ?_)
    · skip
      have h := f_t c2 h
      refine lv_iconst (v := (-1)) hx hb dX11_lay_23 (by decide) ?_
      obtain rfl := Option.some.inj h
      exact W.iret (v := (-1 : Int32)) hx hb hr (q_end hK hP hD hS) hS.2.2 dX11_lay_24
    · skip
      have h := f_f c2 h
      refine lv_aload_n hx hb dX11_lay_11 rfl (lv_at hl 0 rfl) ?_
      refine va_get (D := D) (ci := 11) (v := .int (σ0.1 0 15)) (C := RX11) (T := TX11) (N := 16) hx hb hts inU_X11 hown hK hP _ (hg_0 G Z Y σ0) rfl 15 (by decide) (hts _ wd_250) (fun _ h9 => h9) rfl dX11_lay_12 ?_
      refine lv_aload_n hx hb dX11_lay_15 rfl (lv_at hl 0 rfl) ?_
      refine va_get (D := D) (ci := 11) (v := .ref (G.2.1 43)) (C := RX11) (T := TX11) (N := 16) hx hb hts inU_X11 hown hK hP _ (hg_0 G Z Y σ0) rfl 13 (by decide) (hts _ wd_248) (fun _ h9 => h9) rfl dX11_lay_16 ?_
      refine va_alen (ty := .int) (v := (6 : Int32)) hx hb hK hP _ 0 (hg_43 G Z Y σ0) rfl rfl dX11_lay_19 ?_
      refine lv_icmp_lt (tgt := 25) hx hb dX11_lay_20 (by decide) (fun c3 => ?_) (fun c3 => ?_)
      · skip
        have h := f_t c3 h
        refine lv_aload_n hx hb dX11_lay_25 rfl (lv_at hl 0 rfl) ?_
        refine va_get (D := D) (ci := 11) (v := .ref (G.2.1 43)) (C := RX11) (T := TX11) (N := 16) hx hb hts inU_X11 hown hK hP _ (hg_0 G Z Y σ0) rfl 13 (by decide) (hts _ wd_248) (fun _ h9 => h9) rfl dX11_lay_26 ?_
        refine lv_aload_n hx hb dX11_lay_29 rfl (lv_at hl 0 rfl) ?_
        refine va_get (D := D) (ci := 11) (v := .int (σ0.1 0 15)) (C := RX11) (T := TX11) (N := 16) hx hb hts inU_X11 hown hK hP _ (hg_0 G Z Y σ0) rfl 15 (by decide) (hts _ wd_250) (fun _ h9 => h9) rfl dX11_lay_30 ?_
        refine lv_iload_n hx hb dX11_lay_33 rfl (lv_at hl 1 rfl) ?_
        obtain ⟨c4, h⟩ := f_n h
        refine va_iast hx hb hK hP hD hS _ 0 (hg_43 G Z Y σ0) rfl c4 dX11_lay_34 (fun H locs hP hD hS => ?_)
        have hP := wrP (hp_43 G Z Y σ0 _ _) hP
        have hD := wrD (hp_43 G Z Y σ0 _ _) hD
        refine lv_aload_n hx hb dX11_lay_35 rfl (lv_at hl 0 rfl) ?_
        refine lv_dup hx hb dX11_lay_36 rfl ?_
        refine va_get (D := D) (ci := 11) (v := .int (σ0.1 0 15)) (C := RX11) (T := TX11) (N := 16) hx hb hts inU_X11 hown hK hP _ (hg_0 G Z Y (sI σ0 43 (((σ0.1 0 15) : Int32).toNatClampNeg) x1)) rfl 15 (by decide) (hts _ wd_250) (fun _ h9 => h9) rfl dX11_lay_37 ?_
        refine lv_iconst (v := 1) hx hb dX11_lay_40 (by decide) ?_
        refine lv_iadd hx hb dX11_lay_41 ?_
        refine va_put (D := D) (ci := 11) (v := .int ((σ0.1 0 15) + (1 : Int32))) (ty := .int) (C := RX11) (T := TX11) (N := 16) hx hb hts inU_X11 tyX11 tyX11_ok nmX11 hown hK hP hD hS _ (hg_0 G Z Y (sI σ0 43 (((σ0.1 0 15) : Int32).toNatClampNeg) x1)) rfl 15 (by decide) (hts _ wd_250) (fun _ h9 => h9) rfl (by decide +kernel) rfl rfl (Nat.le_of_ble_eq_true rfl) dX11_lay_42 (fun H locs hP hD hS => ?_)
        have hP := wrP (hp_0_15 G Z Y (sI σ0 43 (((σ0.1 0 15) : Int32).toNatClampNeg) x1) ((σ0.1 0 15) + (1 : Int32))) hP
        have hD := wrD (hp_0_15 G Z Y (sI σ0 43 (((σ0.1 0 15) : Int32).toNatClampNeg) x1) ((σ0.1 0 15) + (1 : Int32))) hD
        refine lv_aload_n hx hb dX11_lay_45 rfl (lv_at hl 0 rfl) ?_
        refine va_get (D := D) (ci := 11) (v := .int ((σ0.1 0 15) + (1 : Int32))) (C := RX11) (T := TX11) (N := 16) hx hb hts inU_X11 hown hK hP _ (hg_0 G Z Y (sI (sI σ0 43 (((σ0.1 0 15) : Int32).toNatClampNeg) x1) 0 15 ((σ0.1 0 15) + (1 : Int32)))) rfl 15 (by decide) (hts _ wd_250) (fun _ h9 => h9) rfl dX11_lay_46 ?_
        refine lv_iconst (v := 1) hx hb dX11_lay_49 (by decide) ?_
        refine lv_isub hx hb dX11_lay_50 ?_
        obtain rfl := Option.some.inj h
        exact W.iret (v := (((σ0.1 0 15) + (1 : Int32)) - (1 : Int32))) hx hb hr (q_end hK hP hD hS) hS.2.2 dX11_lay_51
      · skip
        have h := f_f c3 h
        refine lv_iconst (v := (-1)) hx hb dX11_lay_23 (by decide) ?_
        obtain rfl := Option.some.inj h
        exact W.iret (v := (-1 : Int32)) hx hb hr (q_end hK hP hD hS) hS.2.2 dX11_lay_24
abbrev rm_X11_clear : Room := { frames := 0, cells := 0, slots := 0, locals := 0 }
set_option maxRecDepth 100000 in
set_option maxHeartbeats 8000000 in
theorem c_X11_clear (l : Launch) (D : va_G) (G : hG) (Z : hZ) (Y : va_W) (σ0 : hSt) (res : (Int32 × hSt)) (h : f_X11_clear Z σ0 = some res) : CT l yX11_clear cX11_clear 2 (some .int) rm_X11_clear D G 0 0 [.ref (G.2.1 0)] (hW G Z Y σ0) (hW G Z Y res.2) (some (.int res.1)) := by
  unfold f_X11_clear at h
  refine CT.mk (cc := cX11_clear) (maxL := 2) (ret := (some .int)) (own := RX11) (plainFor_of_name (by decide)) rfl (Nat.le_of_ble_eq_true rfl) ?_
  intro p e s m args below meth c A ls C0 hnm hA hP hD hl
  obtain ⟨hx, hb, hr, hml, hown, hts, hlocks, hK, hE⟩ := id C0
  have hS : va_S A s.heap s.heap [] := va_S.rf
  have hl : lv_has ls 2 [(0, .ref (G.2.1 0))] := hl
  refine lv_aload_n hx hb dX11_clear_0 rfl (lv_at hl 0 rfl) ?_
  refine va_get (D := D) (ci := 11) (v := .int (σ0.1 0 15)) (C := RX11) (T := TX11) (N := 16) hx hb hts inU_X11 hown hK hP _ (hg_0 G Z Y σ0) rfl 15 (by decide) (hts _ wd_250) (fun _ h9 => h9) rfl dX11_clear_1 ?_
  refine lv_istore_n (lv' := [(1, .int (σ0.1 0 15)), (0, .ref (G.2.1 0))]) hx hb dX11_clear_4 rfl hl (by decide) rfl (fun ls hl => ?_)
  refine lv_aload_n hx hb dX11_clear_5 rfl (lv_at hl 1 rfl) ?_
  refine lv_iconst (v := 0) hx hb dX11_clear_6 (by decide) ?_
  refine va_put (D := D) (ci := 11) (v := .int (0 : Int32)) (ty := .int) (C := RX11) (T := TX11) (N := 16) hx hb hts inU_X11 tyX11 tyX11_ok nmX11 hown hK hP hD hS _ (hg_0 G Z Y σ0) rfl 15 (by decide) (hts _ wd_250) (fun _ h9 => h9) rfl (by decide +kernel) rfl rfl (Nat.le_of_ble_eq_true rfl) dX11_clear_7 (fun H locs hP hD hS => ?_)
  have hP := wrP (hp_0_15 G Z Y σ0 (0 : Int32)) hP
  have hD := wrD (hp_0_15 G Z Y σ0 (0 : Int32)) hD
  refine lv_iload_n hx hb dX11_clear_10 rfl (lv_at hl 0 rfl) ?_
  obtain rfl := Option.some.inj h
  exact W.iret (v := (σ0.1 0 15)) hx hb hr (q_end hK hP hD hS) hS.2.2 dX11_clear_11
abbrev rm_X11_worth : Room := { frames := 5, cells := 0, slots := 0, locals := 116 }
set_option maxRecDepth 100000 in
set_option maxHeartbeats 8000000 in
theorem c_X11_worth (l : Launch) (D : va_G) (G : hG) (Z : hZ) (Y : va_W) (σ0 : hSt) (F : Nat) (x1 : Int32) (x2 : Int32) (res : (Int32 × hSt)) (h : f_X11_worth F Z σ0 x1 x2 = some res) : CT l yX11_worth cX11_worth 4 (some .int) rm_X11_worth D G 0 0 [.ref (G.2.1 0), .int x1, .int x2] (hW G Z Y σ0) (hW G Z Y res.2) (some (.int res.1)) := by
  unfold f_X11_worth at h
  refine CT.mk (cc := cX11_worth) (maxL := 4) (ret := (some .int)) (own := RX11) (plainFor_of_name (by decide)) rfl (Nat.le_of_ble_eq_true rfl) ?_
  intro p e s m args below meth c A ls C0 hnm hA hP hD hl
  obtain ⟨hx, hb, hr, hml, hown, hts, hlocks, hK, hE⟩ := id C0
  have hS : va_S A s.heap s.heap [] := va_S.rf
  have hl : lv_has ls 4 [(0, .ref (G.2.1 0)), (1, .int x1), (2, .int x2)] := hl
  refine lv_aload_n hx hb dX11_worth_0 rfl (lv_at hl 0 rfl) ?_
  refine lv_iload_n hx hb dX11_worth_1 rfl (lv_at hl 1 rfl) ?_
  obtain ⟨q1, hq1, h⟩ := f_b h
  refine cl_V (w := (hW G Z Y σ0)) (w' := (hW G Z Y σ0)) (rv := some (va_rf ((q1).map G.2.1))) (bytes := cX11_sayingAt) (maxL := 2) (ret := (some (.object "LiarHall$Saying"))) (C := RX11) (As := [.int x1]) (rest := []) (stk := [va_rf ((q1).map G.2.1)]) ⟨hx, hb, hml, hown, hts⟩ hK hE hA hP hD hS (c_X11_sayingAt l D G Z Y σ0 x1 q1 hq1) (cwV 1 hts (gwV wd_657 wd_659 wp_19 wd_1 wd_660) rfl rfl rfl hd_X11_sayingAt ⟨Nat.le_of_ble_eq_true rfl, Nat.le_of_ble_eq_true rfl⟩) (hg_0 G Z Y σ0) rfl rfl rfl hl.1 rfl (Nat.le_of_ble_eq_true rfl) dX11_worth_2 ⟨Nat.zero_le _, Nat.zero_le _⟩ rfl (fun H locs hP hD hS => ?_)
  rcases f_o h with ⟨ho, h⟩ | ⟨r2, ho, h⟩
  · rw [ho]
    refine lv_astore_nN (lv' := [(3, .null), (0, .ref (G.2.1 0)), (1, .int x1), (2, .int x2)]) hx hb dX11_worth_5 rfl hl (by decide) rfl (fun ls hl => ?_)
    refine lv_aload_nN hx hb dX11_worth_6 rfl (lv_at hl 0 rfl) ?_
    refine lv_ifnullN (tgt := 28) hx hb dX11_worth_7 (by decide) ?_
    refine lv_iconst (v := (-1)) hx hb dX11_worth_28 (by decide) ?_
    obtain rfl := Option.some.inj h
    exact W.iret (v := (-1 : Int32)) hx hb hr (q_end hK hP hD hS) hS.2.2 dX11_worth_29
  · rw [ho]
    obtain ⟨hr2, h⟩ := f_c h
    refine lv_astore_n (lv' := [(3, .ref (G.2.1 r2)), (0, .ref (G.2.1 0)), (1, .int x1), (2, .int x2)]) hx hb dX11_worth_5 rfl hl (by decide) rfl (fun ls hl => ?_)
    refine lv_aload_n hx hb dX11_worth_6 rfl (lv_at hl 0 rfl) ?_
    refine lv_ifnull hx hb dX11_worth_7 ?_
    refine lv_iload_n hx hb dX11_worth_10 rfl (lv_at hl 3 rfl) ?_
    obtain ⟨q3, hq3, h⟩ := f_b h
    refine cl_S (w := (hW G Z Y σ0)) (w' := (hW G Z Y σ0)) (rv := some (.int q3)) (bytes := cX11_isModulus) (maxL := 1) (ret := (some .boolean)) (As := [.int x2]) (rest := []) (stk := [.int q3]) ⟨hx, hb, hml, hown, hts⟩ hK hE hA hP hD hS (c_X11_isModulus l D G (hW G Z Y σ0) F x2 q3 hq3) (mkS hts wd_697 wd_698 wd_1 wd_699 rfl rfl hd_X11_isModulus ⟨Nat.le_of_ble_eq_true rfl, Nat.le_of_ble_eq_true rfl⟩) rfl hl.1 rfl (Nat.le_of_ble_eq_true rfl) dX11_worth_11 ⟨Nat.zero_le _, Nat.zero_le _⟩ rfl (fun H locs hP hD hS => ?_)
    refine lv_if_eq (tgt := 28) hx hb dX11_worth_14 (by decide) (fun c4 => ?_) (fun c4 => ?_)
    · skip
      have h := f_t c4 h
      refine lv_iconst (v := (-1)) hx hb dX11_worth_28 (by decide) ?_
      obtain rfl := Option.some.inj h
      exact W.iret (v := (-1 : Int32)) hx hb hr (q_end hK hP hD hS) hS.2.2 dX11_worth_29
    · skip
      have h := f_f c4 h
      refine lv_aload_n hx hb dX11_worth_17 rfl (lv_at hl 1 rfl) ?_
      refine va_get (D := D) (ci := 11) (v := .int (σ0.1 0 15)) (C := RX11) (T := TX11) (N := 16) hx hb hts inU_X11 hown hK hP _ (hg_0 G Z Y σ0) rfl 15 (by decide) (hts _ wd_250) (fun _ h9 => h9) rfl dX11_worth_18 ?_
      refine lv_aload_n hx hb dX11_worth_21 rfl (lv_at hl 0 rfl) ?_
      obtain ⟨qq5, hq5⟩ := hg_Sa G Z Y σ0 hr2
      refine va_getN (D := D) (ci := 5) (v := .int (Z.2.2.1 r2 2)) (C := RX4) (T := TX4) (N := 5) hx hb hts inU_X4 hown hK hP _ hq5 rfl 2 (by decide) (nF_use 13 hE rfl) (fun _ h9 => h9) rfl dX11_worth_22 ?_
      refine lv_icmp_ge (tgt := 30) hx hb dX11_worth_25 (by decide) (fun c6 => ?_) (fun c6 => ?_)
      · skip
        have h := f_t c6 h
        refine lv_aload_n hx hb dX11_worth_30 rfl (lv_at hl 1 rfl) ?_
        refine lv_iload_n hx hb dX11_worth_31 rfl (lv_at hl 3 rfl) ?_
        obtain ⟨q7, hq7, h⟩ := f_b h
        refine cl_V (w := (hW G Z Y σ0)) (w' := (hW G Z Y q7.2)) (rv := none) (bytes := cX11_putPoint) (maxL := 3) (ret := none) (C := RX11) (As := [.int x2]) (rest := []) (stk := []) ⟨hx, hb, hml, hown, hts⟩ hK hE hA hP hD hS (c_X11_putPoint l D G Z Y σ0 F x2 q7 hq7) (cwV 1 hts (gwV wd_713 wd_715 wp_20 wd_1 wd_716) rfl rfl rfl hd_X11_putPoint ⟨Nat.le_of_ble_eq_true rfl, Nat.le_of_ble_eq_true rfl⟩) (hg_0 G Z Y σ0) rfl rfl rfl hl.1 rfl (Nat.le_of_ble_eq_true rfl) dX11_worth_32 ⟨Nat.zero_le _, Nat.zero_le _⟩ rfl (fun H locs hP hD hS => ?_)
        refine lv_aload_n hx hb dX11_worth_35 rfl (lv_at hl 1 rfl) ?_
        refine va_get (D := D) (ci := 11) (v := .ref (G.2.1 7)) (C := RX11) (T := TX11) (N := 16) hx hb hts inU_X11 hown hK hP _ (hg_0 G Z Y q7.2) rfl 4 (by decide) (hts _ wd_239) (fun _ h9 => h9) rfl dX11_worth_36 ?_
        refine lv_aload_n hx hb dX11_worth_39 rfl (lv_at hl 0 rfl) ?_
        refine lv_iload_n hx hb dX11_worth_40 rfl (lv_at hl 3 rfl) ?_
        refine lv_i2l (v := (x2 : Int32).toInt64) hx hb dX11_worth_41 rfl ?_
        obtain ⟨q8, hq8, h⟩ := f_b h
        refine cl_V (w := (hW G Z Y q7.2)) (w' := (hW G Z Y q8.2)) (rv := some (.long q8.1)) (bytes := cX3_worthOf) (maxL := 15) (ret := (some .long)) (C := RX3) (As := [.ref (G.2.1 r2), .long (x2 : Int32).toInt64]) (rest := []) (stk := [.long q8.1]) ⟨hx, hb, hml, hown, hts⟩ hK hE hA hP hD hS (c_X3_worthOf l D G Z Y q7.2 F r2 hr2 ((x2 : Int32).toInt64) q8 hq8) (cwV 2 hts (gwV wd_684 wd_587 wd_588 wd_5 wd_589) rfl rfl rfl hd_X3_worthOf ⟨Nat.le_of_ble_eq_true rfl, Nat.le_of_ble_eq_true rfl⟩) (hg_7 G Z Y q7.2) rfl rfl rfl hl.1 rfl (Nat.le_of_ble_eq_true rfl) dX11_worth_42 ⟨Nat.zero_le _, Nat.zero_le _⟩ rfl (fun H locs hP hD hS => ?_)
        refine lv_l2i (v := (q8.1 : Int64).toInt32) hx hb dX11_worth_45 rfl ?_
        obtain rfl := Option.some.inj h
        exact W.iret (v := (q8.1 : Int64).toInt32) hx hb hr (q_end hK hP hD hS) hS.2.2 dX11_worth_46
      · skip
        have h := f_f c6 h
        refine lv_iconst (v := (-1)) hx hb dX11_worth_28 (by decide) ?_
        obtain rfl := Option.some.inj h
        exact W.iret (v := (-1 : Int32)) hx hb hr (q_end hK hP hD hS) hS.2.2 dX11_worth_29
abbrev rm_X11_sum : Room := { frames := 5, cells := 0, slots := 0, locals := 116 }
set_option maxRecDepth 100000 in
set_option maxHeartbeats 8000000 in
theorem c_X11_sum (l : Launch) (D : va_G) (G : hG) (Z : hZ) (Y : va_W) (σ0 : hSt) (F : Nat) (x1 : Int32) (x2 : Int32) (res : (Int32 × hSt)) (h : f_X11_sum F Z σ0 x1 x2 = some res) : CT l yX11_sum cX11_sum 4 (some .int) rm_X11_sum D G 0 0 [.ref (G.2.1 0), .int x1, .int x2] (hW G Z Y σ0) (hW G Z Y res.2) (some (.int res.1)) := by
  unfold f_X11_sum at h
  refine CT.mk (cc := cX11_sum) (maxL := 4) (ret := (some .int)) (own := RX11) (plainFor_of_name (by decide)) rfl (Nat.le_of_ble_eq_true rfl) ?_
  intro p e s m args below meth c A ls C0 hnm hA hP hD hl
  obtain ⟨hx, hb, hr, hml, hown, hts, hlocks, hK, hE⟩ := id C0
  have hS : va_S A s.heap s.heap [] := va_S.rf
  have hl : lv_has ls 4 [(0, .ref (G.2.1 0)), (1, .int x1), (2, .int x2)] := hl
  refine lv_aload_n hx hb dX11_sum_0 rfl (lv_at hl 0 rfl) ?_
  refine lv_iload_n hx hb dX11_sum_1 rfl (lv_at hl 1 rfl) ?_
  obtain ⟨q1, hq1, h⟩ := f_b h
  refine cl_V (w := (hW G Z Y σ0)) (w' := (hW G Z Y σ0)) (rv := some (va_rf ((q1).map G.2.1))) (bytes := cX11_sayingAt) (maxL := 2) (ret := (some (.object "LiarHall$Saying"))) (C := RX11) (As := [.int x1]) (rest := []) (stk := [va_rf ((q1).map G.2.1)]) ⟨hx, hb, hml, hown, hts⟩ hK hE hA hP hD hS (c_X11_sayingAt l D G Z Y σ0 x1 q1 hq1) (cwV 1 hts (gwV wd_657 wd_659 wp_19 wd_1 wd_660) rfl rfl rfl hd_X11_sayingAt ⟨Nat.le_of_ble_eq_true rfl, Nat.le_of_ble_eq_true rfl⟩) (hg_0 G Z Y σ0) rfl rfl rfl hl.1 rfl (Nat.le_of_ble_eq_true rfl) dX11_sum_2 ⟨Nat.zero_le _, Nat.zero_le _⟩ rfl (fun H locs hP hD hS => ?_)
  rcases f_o h with ⟨ho, h⟩ | ⟨r2, ho, h⟩
  · rw [ho]
    refine lv_astore_nN (lv' := [(3, .null), (0, .ref (G.2.1 0)), (1, .int x1), (2, .int x2)]) hx hb dX11_sum_5 rfl hl (by decide) rfl (fun ls hl => ?_)
    refine lv_aload_nN hx hb dX11_sum_6 rfl (lv_at hl 0 rfl) ?_
    refine lv_ifnullN (tgt := 17) hx hb dX11_sum_7 (by decide) ?_
    refine lv_iconst (v := (-1)) hx hb dX11_sum_17 (by decide) ?_
    obtain rfl := Option.some.inj h
    exact W.iret (v := (-1 : Int32)) hx hb hr (q_end hK hP hD hS) hS.2.2 dX11_sum_18
  · rw [ho]
    obtain ⟨hr2, h⟩ := f_c h
    refine lv_astore_n (lv' := [(3, .ref (G.2.1 r2)), (0, .ref (G.2.1 0)), (1, .int x1), (2, .int x2)]) hx hb dX11_sum_5 rfl hl (by decide) rfl (fun ls hl => ?_)
    refine lv_aload_n hx hb dX11_sum_6 rfl (lv_at hl 0 rfl) ?_
    refine lv_ifnull hx hb dX11_sum_7 ?_
    refine lv_iload_n hx hb dX11_sum_10 rfl (lv_at hl 3 rfl) ?_
    obtain ⟨q3, hq3, h⟩ := f_b h
    refine cl_S (w := (hW G Z Y σ0)) (w' := (hW G Z Y σ0)) (rv := some (.int q3)) (bytes := cX11_isModulus) (maxL := 1) (ret := (some .boolean)) (As := [.int x2]) (rest := []) (stk := [.int q3]) ⟨hx, hb, hml, hown, hts⟩ hK hE hA hP hD hS (c_X11_isModulus l D G (hW G Z Y σ0) F x2 q3 hq3) (mkS hts wd_697 wd_698 wd_1 wd_699 rfl rfl hd_X11_isModulus ⟨Nat.le_of_ble_eq_true rfl, Nat.le_of_ble_eq_true rfl⟩) rfl hl.1 rfl (Nat.le_of_ble_eq_true rfl) dX11_sum_11 ⟨Nat.zero_le _, Nat.zero_le _⟩ rfl (fun H locs hP hD hS => ?_)
    refine lv_if_ne (tgt := 19) hx hb dX11_sum_14 (by decide) (fun c4 => ?_) (fun c4 => ?_)
    · skip
      have h := f_f c4 h
      refine lv_aload_n hx hb dX11_sum_19 rfl (lv_at hl 1 rfl) ?_
      refine lv_iload_n hx hb dX11_sum_20 rfl (lv_at hl 3 rfl) ?_
      obtain ⟨q5, hq5, h⟩ := f_b h
      refine cl_V (w := (hW G Z Y σ0)) (w' := (hW G Z Y q5.2)) (rv := none) (bytes := cX11_putPoint) (maxL := 3) (ret := none) (C := RX11) (As := [.int x2]) (rest := []) (stk := []) ⟨hx, hb, hml, hown, hts⟩ hK hE hA hP hD hS (c_X11_putPoint l D G Z Y σ0 F x2 q5 hq5) (cwV 1 hts (gwV wd_713 wd_715 wp_20 wd_1 wd_716) rfl rfl rfl hd_X11_putPoint ⟨Nat.le_of_ble_eq_true rfl, Nat.le_of_ble_eq_true rfl⟩) (hg_0 G Z Y σ0) rfl rfl rfl hl.1 rfl (Nat.le_of_ble_eq_true rfl) dX11_sum_21 ⟨Nat.zero_le _, Nat.zero_le _⟩ rfl (fun H locs hP hD hS => ?_)
      refine lv_aload_n hx hb dX11_sum_24 rfl (lv_at hl 1 rfl) ?_
      refine va_get (D := D) (ci := 11) (v := .ref (G.2.1 7)) (C := RX11) (T := TX11) (N := 16) hx hb hts inU_X11 hown hK hP _ (hg_0 G Z Y q5.2) rfl 4 (by decide) (hts _ wd_239) (fun _ h9 => h9) rfl dX11_sum_25 ?_
      refine lv_aload_n hx hb dX11_sum_28 rfl (lv_at hl 0 rfl) ?_
      refine lv_aload_n hx hb dX11_sum_29 rfl (lv_at hl 1 rfl) ?_
      refine va_get (D := D) (ci := 11) (v := .int (q5.2.1 0 15)) (C := RX11) (T := TX11) (N := 16) hx hb hts inU_X11 hown hK hP _ (hg_0 G Z Y q5.2) rfl 15 (by decide) (hts _ wd_250) (fun _ h9 => h9) rfl dX11_sum_30 ?_
      refine lv_iload_n hx hb dX11_sum_33 rfl (lv_at hl 3 rfl) ?_
      refine lv_i2l (v := (x2 : Int32).toInt64) hx hb dX11_sum_34 rfl ?_
      obtain ⟨q6, hq6, h⟩ := f_b h
      refine cl_V (w := (hW G Z Y q5.2)) (w' := (hW G Z Y q6.2)) (rv := some (.long q6.1)) (bytes := cX3_overCorners) (maxL := 10) (ret := (some .long)) (C := RX3) (As := [.ref (G.2.1 r2), .int (q5.2.1 0 15), .long (x2 : Int32).toInt64]) (rest := []) (stk := [.long q6.1]) ⟨hx, hb, hml, hown, hts⟩ hK hE hA hP hD hS (c_X3_overCorners l D G Z Y q5.2 F r2 hr2 (q5.2.1 0 15) ((x2 : Int32).toInt64) q6 hq6) (cwV 3 hts (gwV wd_577 wd_578 wd_579 wd_5 wd_580) rfl rfl rfl hd_X3_overCorners ⟨Nat.le_of_ble_eq_true rfl, Nat.le_of_ble_eq_true rfl⟩) (hg_7 G Z Y q5.2) rfl rfl rfl hl.1 rfl (Nat.le_of_ble_eq_true rfl) dX11_sum_35 ⟨Nat.zero_le _, Nat.zero_le _⟩ rfl (fun H locs hP hD hS => ?_)
      refine lv_l2i (v := (q6.1 : Int64).toInt32) hx hb dX11_sum_38 rfl ?_
      obtain rfl := Option.some.inj h
      exact W.iret (v := (q6.1 : Int64).toInt32) hx hb hr (q_end hK hP hD hS) hS.2.2 dX11_sum_39
    · skip
      have h := f_t c4 h
      refine lv_iconst (v := (-1)) hx hb dX11_sum_17 (by decide) ?_
      obtain rfl := Option.some.inj h
      exact W.iret (v := (-1 : Int32)) hx hb hr (q_end hK hP hD hS) hS.2.2 dX11_sum_18
abbrev rm_X11_prime : Room := { frames := 4, cells := 0, slots := 0, locals := 96 }
set_option maxRecDepth 100000 in
set_option maxHeartbeats 8000000 in
theorem c_X11_prime (l : Launch) (D : va_G) (G : hG) (w : va_W) (F : Nat) (x1 : Int32) (res : Int32) (h : f_X11_prime F x1 = some res) : CT l yX11_prime cX11_prime 2 (some .boolean) rm_X11_prime D G 0 0 [.ref (G.2.1 0), .int x1] w w (some (.int res)) := by
  unfold f_X11_prime at h
  refine CT.mk (cc := cX11_prime) (maxL := 2) (ret := (some .boolean)) (own := RX11) (plainFor_of_name (by decide)) rfl (Nat.le_of_ble_eq_true rfl) ?_
  intro p e s m args below meth c A ls C0 hnm hA hP hD hl
  obtain ⟨hx, hb, hr, hml, hown, hts, hlocks, hK, hE⟩ := id C0
  have hS : va_S A s.heap s.heap [] := va_S.rf
  have hl : lv_has ls 2 [(0, .ref (G.2.1 0)), (1, .int x1)] := hl
  refine lv_iload_n hx hb dX11_prime_0 rfl (lv_at hl 1 rfl) ?_
  obtain ⟨q1, hq1, h⟩ := f_b h
  refine cl_S (w := w) (w' := w) (rv := some (.int q1)) (bytes := cX3_isPrime) (maxL := 1) (ret := (some .boolean)) (As := [.int x1]) (rest := []) (stk := [.int q1]) ⟨hx, hb, hml, hown, hts⟩ hK hE hA hP hD hS (c_X3_isPrime l D G w F x1 q1 hq1) (mkS hts wd_700 wd_701 wd_5 wd_702 rfl rfl hd_X3_isPrime ⟨Nat.le_of_ble_eq_true rfl, Nat.le_of_ble_eq_true rfl⟩) rfl hl.1 rfl (Nat.le_of_ble_eq_true rfl) dX11_prime_1 ⟨Nat.zero_le _, Nat.zero_le _⟩ rfl (fun H locs hP hD hS => ?_)
  obtain ⟨c2, h⟩ := f_c h
  obtain rfl := Option.some.inj h
  exact W.zret (v := q1) hx hb hr (bn c2) (q_end hK hP hD hS) hS.2.2 dX11_prime_4
abbrev rm_X11_curve : Room := { frames := 5, cells := 0, slots := 0, locals := 116 }
set_option maxRecDepth 100000 in
set_option maxHeartbeats 8000000 in
theorem c_X11_curve (l : Launch) (D : va_G) (G : hG) (Z : hZ) (Y : va_W) (σ0 : hSt) (F : Nat) (x1 : Int32) (x2 : Int32) (res : (Int32 × hSt)) (h : f_X11_curve F Z σ0 x1 x2 = some res) : CT l yX11_curve cX11_curve 3 (some .int) rm_X11_curve D G 0 0 [.ref (G.2.1 0), .int x1, .int x2] (hW G Z Y σ0) (hW G Z Y res.2) (some (.int res.1)) := by
  unfold f_X11_curve at h
  refine CT.mk (cc := cX11_curve) (maxL := 3) (ret := (some .int)) (own := RX11) (plainFor_of_name (by decide)) rfl (Nat.le_of_ble_eq_true rfl) ?_
  intro p e s m args below meth c A ls C0 hnm hA hP hD hl
  obtain ⟨hx, hb, hr, hml, hown, hts, hlocks, hK, hE⟩ := id C0
  have hS : va_S A s.heap s.heap [] := va_S.rf
  have hl : lv_has ls 3 [(0, .ref (G.2.1 0)), (1, .int x1), (2, .int x2)] := hl
  refine lv_iload_n hx hb dX11_curve_0 rfl (lv_at hl 1 rfl) ?_
  obtain ⟨q1, hq1, h⟩ := f_b h
  refine cl_S (w := (hW G Z Y σ0)) (w' := (hW G Z Y σ0)) (rv := some (.int q1)) (bytes := cX11_isModulus) (maxL := 1) (ret := (some .boolean)) (As := [.int x1]) (rest := []) (stk := [.int q1]) ⟨hx, hb, hml, hown, hts⟩ hK hE hA hP hD hS (c_X11_isModulus l D G (hW G Z Y σ0) F x1 q1 hq1) (mkS hts wd_697 wd_698 wd_1 wd_699 rfl rfl hd_X11_isModulus ⟨Nat.le_of_ble_eq_true rfl, Nat.le_of_ble_eq_true rfl⟩) rfl hl.1 rfl (Nat.le_of_ble_eq_true rfl) dX11_curve_1 ⟨Nat.zero_le _, Nat.zero_le _⟩ rfl (fun H locs hP hD hS => ?_)
  refine lv_if_eq (tgt := 27) hx hb dX11_curve_4 (by decide) (fun c2 => ?_) (fun c2 => ?_)
  · skip
    have h := f_t c2 h
    refine lv_iconst (v := (-1)) hx hb dX11_curve_27 (by decide) ?_
    obtain rfl := Option.some.inj h
    exact W.iret (v := (-1 : Int32)) hx hb hr (q_end hK hP hD hS) hS.2.2 dX11_curve_28
  · skip
    have h := f_f c2 h
    refine lv_aload_n hx hb dX11_curve_7 rfl (lv_at hl 0 rfl) ?_
    refine va_get (D := D) (ci := 11) (v := .int (σ0.1 0 15)) (C := RX11) (T := TX11) (N := 16) hx hb hts inU_X11 hown hK hP _ (hg_0 G Z Y σ0) rfl 15 (by decide) (hts _ wd_250) (fun _ h9 => h9) rfl dX11_curve_8 ?_
    refine lv_iconst (v := 1) hx hb dX11_curve_11 (by decide) ?_
    refine lv_icmp_lt (tgt := 27) hx hb dX11_curve_12 (by decide) (fun c3 => ?_) (fun c3 => ?_)
    · skip
      have h := f_t c3 h
      refine lv_iconst (v := (-1)) hx hb dX11_curve_27 (by decide) ?_
      obtain rfl := Option.some.inj h
      exact W.iret (v := (-1 : Int32)) hx hb hr (q_end hK hP hD hS) hS.2.2 dX11_curve_28
    · skip
      have h := f_f c3 h
      refine lv_aload_n hx hb dX11_curve_15 rfl (lv_at hl 0 rfl) ?_
      refine va_get (D := D) (ci := 11) (v := .int (σ0.1 0 15)) (C := RX11) (T := TX11) (N := 16) hx hb hts inU_X11 hown hK hP _ (hg_0 G Z Y σ0) rfl 15 (by decide) (hts _ wd_250) (fun _ h9 => h9) rfl dX11_curve_16 ?_
      refine lv_iload_n hx hb dX11_curve_19 rfl (lv_at hl 1 rfl) ?_
      refine lv_icmp_ge (tgt := 27) hx hb dX11_curve_20 (by decide) (fun c4 => ?_) (fun c4 => ?_)
      · skip
        have h := f_t c4 h
        refine lv_iconst (v := (-1)) hx hb dX11_curve_27 (by decide) ?_
        obtain rfl := Option.some.inj h
        exact W.iret (v := (-1 : Int32)) hx hb hr (q_end hK hP hD hS) hS.2.2 dX11_curve_28
      · skip
        have h := f_f c4 h
        refine lv_iload_n hx hb dX11_curve_23 rfl (lv_at hl 2 rfl) ?_
        refine lv_if_ge (tgt := 29) hx hb dX11_curve_24 (by decide) (fun c5 => ?_) (fun c5 => ?_)
        · skip
          have h := f_t c5 h
          refine lv_aload_n hx hb dX11_curve_29 rfl (lv_at hl 0 rfl) ?_
          refine lv_iload_n hx hb dX11_curve_30 rfl (lv_at hl 1 rfl) ?_
          obtain ⟨q6, hq6, h⟩ := f_b h
          refine cl_V (w := (hW G Z Y σ0)) (w' := (hW G Z Y q6.2)) (rv := none) (bytes := cX11_putPoint) (maxL := 3) (ret := none) (C := RX11) (As := [.int x1]) (rest := []) (stk := []) ⟨hx, hb, hml, hown, hts⟩ hK hE hA hP hD hS (c_X11_putPoint l D G Z Y σ0 F x1 q6 hq6) (cwV 1 hts (gwV wd_713 wd_715 wp_20 wd_1 wd_716) rfl rfl rfl hd_X11_putPoint ⟨Nat.le_of_ble_eq_true rfl, Nat.le_of_ble_eq_true rfl⟩) (hg_0 G Z Y σ0) rfl rfl rfl hl.1 rfl (Nat.le_of_ble_eq_true rfl) dX11_curve_31 ⟨Nat.zero_le _, Nat.zero_le _⟩ rfl (fun H locs hP hD hS => ?_)
          refine lv_aload_n hx hb dX11_curve_34 rfl (lv_at hl 0 rfl) ?_
          refine va_get (D := D) (ci := 11) (v := .ref (G.2.1 7)) (C := RX11) (T := TX11) (N := 16) hx hb hts inU_X11 hown hK hP _ (hg_0 G Z Y q6.2) rfl 4 (by decide) (hts _ wd_239) (fun _ h9 => h9) rfl dX11_curve_35 ?_
          refine lv_aload_n hx hb dX11_curve_38 rfl (lv_at hl 0 rfl) ?_
          refine va_get (D := D) (ci := 11) (v := .ref (G.2.1 7)) (C := RX11) (T := TX11) (N := 16) hx hb hts inU_X11 hown hK hP _ (hg_0 G Z Y q6.2) rfl 4 (by decide) (hts _ wd_239) (fun _ h9 => h9) rfl dX11_curve_39 ?_
          refine va_getN (D := D) (ci := 4) (v := .ref (G.2.1 9)) (C := RX3) (T := TX3) (N := 4) hx hb hts inU_X3 hown hK hP _ (hg_7 G Z Y q6.2) rfl 1 (by decide) (nF_use 4 hE rfl) (fun _ h9 => h9) rfl dX11_curve_42 ?_
          refine lv_aload_n hx hb dX11_curve_45 rfl (lv_at hl 0 rfl) ?_
          refine va_get (D := D) (ci := 11) (v := .int (q6.2.1 0 15)) (C := RX11) (T := TX11) (N := 16) hx hb hts inU_X11 hown hK hP _ (hg_0 G Z Y q6.2) rfl 15 (by decide) (hts _ wd_250) (fun _ h9 => h9) rfl dX11_curve_46 ?_
          refine lv_iload_n hx hb dX11_curve_49 rfl (lv_at hl 1 rfl) ?_
          refine lv_i2l (v := (x1 : Int32).toInt64) hx hb dX11_curve_50 rfl ?_
          refine lv_iload_n hx hb dX11_curve_51 rfl (lv_at hl 2 rfl) ?_
          refine lv_i2l (v := (x2 : Int32).toInt64) hx hb dX11_curve_52 rfl ?_
          refine lv_iload_n hx hb dX11_curve_53 rfl (lv_at hl 1 rfl) ?_
          refine lv_i2l (v := (x1 : Int32).toInt64) hx hb dX11_curve_54 rfl ?_
          obtain ⟨q7, hq7, h⟩ := f_b h
          refine cl_S (w := (hW G Z Y q6.2)) (w' := (hW G Z Y q6.2)) (rv := some (.long q7)) (bytes := cX3_rest) (maxL := 4) (ret := (some .long)) (As := [.long (x2 : Int32).toInt64, .long (x1 : Int32).toInt64]) (rest := [.long (x1 : Int32).toInt64, .int (q6.2.1 0 15), .ref (G.2.1 9), .ref (G.2.1 7)]) (stk := [.long q7, .long (x1 : Int32).toInt64, .int (q6.2.1 0 15), .ref (G.2.1 9), .ref (G.2.1 7)]) ⟨hx, hb, hml, hown, hts⟩ hK hE hA hP hD hS (c_X3_rest l D G (hW G Z Y q6.2) ((x2 : Int32).toInt64) ((x1 : Int32).toInt64) q7 hq7) (mkS hts wd_717 wd_708 wd_5 wd_709 rfl rfl hd_X3_rest ⟨Nat.le_of_ble_eq_true rfl, Nat.le_of_ble_eq_true rfl⟩) rfl hl.1 rfl (Nat.le_of_ble_eq_true rfl) dX11_curve_55 ⟨Nat.zero_le _, Nat.zero_le _⟩ rfl (fun H locs hP hD hS => ?_)
          obtain ⟨q8, hq8, h⟩ := f_b h
          refine cl_V (w := (hW G Z Y q6.2)) (w' := (hW G Z Y q8.2)) (rv := some (.long q8.1)) (bytes := cX3_curveAt) (maxL := 14) (ret := (some .long)) (C := RX3) (As := [.ref (G.2.1 9), .int (q6.2.1 0 15), .long (x1 : Int32).toInt64, .long q7]) (rest := []) (stk := [.long q8.1]) ⟨hx, hb, hml, hown, hts⟩ hK hE hA hP hD hS (c_X3_curveAt l D G Z Y q6.2 F 9 (rfl : isJ 9 = true) (q6.2.1 0 15) ((x1 : Int32).toInt64) q7 q8 hq8) (cwV 4 hts (gwV wd_730 wd_731 wd_732 wd_5 wd_733) rfl rfl rfl hd_X3_curveAt ⟨Nat.le_of_ble_eq_true rfl, Nat.le_of_ble_eq_true rfl⟩) (hg_7 G Z Y q6.2) rfl rfl rfl hl.1 rfl (Nat.le_of_ble_eq_true rfl) dX11_curve_58 ⟨Nat.zero_le _, Nat.zero_le _⟩ rfl (fun H locs hP hD hS => ?_)
          refine lv_l2i (v := (q8.1 : Int64).toInt32) hx hb dX11_curve_61 rfl ?_
          obtain rfl := Option.some.inj h
          exact W.iret (v := (q8.1 : Int64).toInt32) hx hb hr (q_end hK hP hD hS) hS.2.2 dX11_curve_62
        · skip
          have h := f_f c5 h
          refine lv_iconst (v := (-1)) hx hb dX11_curve_27 (by decide) ?_
          obtain rfl := Option.some.inj h
          exact W.iret (v := (-1 : Int32)) hx hb hr (q_end hK hP hD hS) hS.2.2 dX11_curve_28
abbrev rm_X11_run : Room := { frames := 8, cells := 0, slots := 0, locals := 202 }
set_option maxRecDepth 100000 in
set_option maxHeartbeats 8000000 in
theorem c_X11_run (l : Launch) (D : va_G) (G : hG) (Z : hZ) (Y : va_W) (σ0 : hSt) (F : Nat) (x1 : Int32) (x2 : Int64) (x4 : Int32) (res : (Int32 × hSt)) (h : f_X11_run F Z σ0 x1 x2 x4 = some res) : CT l yX11_run cX11_run 6 (some .int) rm_X11_run D G 0 0 [.ref (G.2.1 0), .int x1, .long x2, .int x4] (hW G Z Y σ0) (hW G Z Y res.2) (some (.int res.1)) := by
  unfold f_X11_run at h
  refine CT.mk (cc := cX11_run) (maxL := 6) (ret := (some .int)) (own := RX11) (plainFor_of_name (by decide)) rfl (Nat.le_of_ble_eq_true rfl) ?_
  intro p e s m args below meth c A ls C0 hnm hA hP hD hl
  obtain ⟨hx, hb, hr, hml, hown, hts, hlocks, hK, hE⟩ := id C0
  have hS : va_S A s.heap s.heap [] := va_S.rf
  have hl : lv_has ls 6 [(0, .ref (G.2.1 0)), (1, .int x1), (2, .long x2), (4, .int x4)] := hl
  refine lv_aload_n hx hb dX11_run_0 rfl (lv_at hl 0 rfl) ?_
  refine lv_iload_n hx hb dX11_run_1 rfl (lv_at hl 1 rfl) ?_
  obtain ⟨q1, hq1, h⟩ := f_b h
  refine cl_V (w := (hW G Z Y σ0)) (w' := (hW G Z Y σ0)) (rv := some (va_rf ((q1).map G.2.1))) (bytes := cX11_talkAt) (maxL := 2) (ret := (some (.object "LiarHall$Talk"))) (C := RX11) (As := [.int x1]) (rest := []) (stk := [va_rf ((q1).map G.2.1)]) ⟨hx, hb, hml, hown, hts⟩ hK hE hA hP hD hS (c_X11_talkAt l D G Z Y σ0 x1 q1 hq1) (cwV 1 hts (gwV wd_803 wd_805 wp_23 wd_1 wd_806) rfl rfl rfl hd_X11_talkAt ⟨Nat.le_of_ble_eq_true rfl, Nat.le_of_ble_eq_true rfl⟩) (hg_0 G Z Y σ0) rfl rfl rfl hl.1 rfl (Nat.le_of_ble_eq_true rfl) dX11_run_2 ⟨Nat.zero_le _, Nat.zero_le _⟩ rfl (fun H locs hP hD hS => ?_)
  rcases f_o h with ⟨ho, h⟩ | ⟨r2, ho, h⟩
  · rw [ho]
    refine lv_astoreN (lv' := [(5, .null), (0, .ref (G.2.1 0)), (1, .int x1), (2, .long x2), (4, .int x4)]) hx hb dX11_run_5 hl (by decide) rfl (fun ls hl => ?_)
    refine lv_aloadN hx hb dX11_run_7 (lv_at hl 0 rfl) ?_
    refine lv_ifnullN (tgt := 20) hx hb dX11_run_9 (by decide) ?_
    refine lv_iconst (v := (-1)) hx hb dX11_run_20 (by decide) ?_
    obtain rfl := Option.some.inj h
    exact W.iret (v := (-1 : Int32)) hx hb hr (q_end hK hP hD hS) hS.2.2 dX11_run_21
  · rw [ho]
    obtain ⟨hr2, h⟩ := f_c h
    refine lv_astore (lv' := [(5, .ref (G.2.1 r2)), (0, .ref (G.2.1 0)), (1, .int x1), (2, .long x2), (4, .int x4)]) hx hb dX11_run_5 hl (by decide) rfl (fun ls hl => ?_)
    refine lv_aload hx hb dX11_run_7 (lv_at hl 0 rfl) ?_
    refine lv_ifnull hx hb dX11_run_9 ?_
    refine lv_iload hx hb dX11_run_12 (lv_at hl 4 rfl) ?_
    obtain ⟨q3, hq3, h⟩ := f_b h
    refine cl_S (w := (hW G Z Y σ0)) (w' := (hW G Z Y σ0)) (rv := some (.int q3)) (bytes := cX11_isOwnNumber) (maxL := 1) (ret := (some .boolean)) (As := [.int x4]) (rest := []) (stk := [.int q3]) ⟨hx, hb, hml, hown, hts⟩ hK hE hA hP hD hS (c_X11_isOwnNumber l D G (hW G Z Y σ0) x4 q3 hq3) (mkS hts wd_807 wd_808 wd_1 wd_809 rfl rfl hd_X11_isOwnNumber ⟨Nat.le_of_ble_eq_true rfl, Nat.le_of_ble_eq_true rfl⟩) rfl hl.1 rfl (Nat.le_of_ble_eq_true rfl) dX11_run_14 ⟨Nat.zero_le _, Nat.zero_le _⟩ rfl (fun H locs hP hD hS => ?_)
    refine lv_if_ne (tgt := 22) hx hb dX11_run_17 (by decide) (fun c4 => ?_) (fun c4 => ?_)
    · skip
      have h := f_f c4 h
      refine lv_aload_n hx hb dX11_run_22 rfl (lv_at hl 1 rfl) ?_
      refine va_get (D := D) (ci := 11) (v := .ref (G.2.1 14)) (C := RX11) (T := TX11) (N := 16) hx hb hts inU_X11 hown hK hP _ (hg_0 G Z Y σ0) rfl 6 (by decide) (hts _ wd_241) (fun _ h9 => h9) rfl dX11_run_23 ?_
      refine lv_aload hx hb dX11_run_26 (lv_at hl 0 rfl) ?_
      refine lv_lload_n hx hb dX11_run_28 rfl (lv_at hl 3 rfl) ?_
      refine lv_iload hx hb dX11_run_29 (lv_at hl 4 rfl) ?_
      obtain ⟨q5, hq5, h⟩ := f_b h
      refine cl_V (w := (hW G Z Y σ0)) (w' := (hW G Z Y q5.2)) (rv := some (.int q5.1)) (bytes := cX1_goByDraws) (maxL := 6) (ret := (some .boolean)) (C := RX1) (As := [.ref (G.2.1 r2), .long x2, .int x4]) (rest := []) (stk := [.int q5.1]) ⟨hx, hb, hml, hown, hts⟩ hK hE hA hP hD hS (c_X1_goByDraws l D G Z Y σ0 F 14 (rfl : isCo 14 = true) r2 hr2 x2 x4 q5 hq5) (cwV 3 hts (gwV wd_811 wd_812 wd_813 wd_7 wd_814) rfl rfl rfl hd_X1_goByDraws ⟨Nat.le_of_ble_eq_true rfl, Nat.le_of_ble_eq_true rfl⟩) (hg_14 G Z Y σ0) rfl rfl rfl hl.1 rfl (Nat.le_of_ble_eq_true rfl) dX11_run_31 ⟨Nat.zero_le _, Nat.zero_le _⟩ rfl (fun H locs hP hD hS => ?_)
      refine lv_if_eq (tgt := 41) hx hb dX11_run_34 (by decide) (fun c6 => ?_) (fun c6 => ?_)
      · skip
        have h := f_t c6 h
        refine lv_iconst (v := 0) hx hb dX11_run_41 (by decide) ?_
        obtain rfl := Option.some.inj h
        exact W.iret (v := (0 : Int32)) hx hb hr (q_end hK hP hD hS) hS.2.2 dX11_run_42
      · skip
        have h := f_f c6 h
        refine lv_iconst (v := 1) hx hb dX11_run_37 (by decide) ?_
        refine lv_goto (tgt := 42) hx hb dX11_run_38 (by decide) ?_
        obtain rfl := Option.some.inj h
        exact W.iret (v := (1 : Int32)) hx hb hr (q_end hK hP hD hS) hS.2.2 dX11_run_42
    · skip
      have h := f_t c4 h
      refine lv_iconst (v := (-1)) hx hb dX11_run_20 (by decide) ?_
      obtain rfl := Option.some.inj h
      exact W.iret (v := (-1 : Int32)) hx hb hr (q_end hK hP hD hS) hS.2.2 dX11_run_21
abbrev rm_X11_fixed : Room := { frames := 8, cells := 0, slots := 0, locals := 201 }
set_option maxRecDepth 100000 in
set_option maxHeartbeats 8000000 in
theorem c_X11_fixed (l : Launch) (D : va_G) (G : hG) (Z : hZ) (Y : va_W) (σ0 : hSt) (F : Nat) (x1 : Int32) (x2 : Int32) (res : (Int32 × hSt)) (h : f_X11_fixed F Z σ0 x1 x2 = some res) : CT l yX11_fixed cX11_fixed 4 (some .int) rm_X11_fixed D G 0 0 [.ref (G.2.1 0), .int x1, .int x2] (hW G Z Y σ0) (hW G Z Y res.2) (some (.int res.1)) := by
  unfold f_X11_fixed at h
  refine CT.mk (cc := cX11_fixed) (maxL := 4) (ret := (some .int)) (own := RX11) (plainFor_of_name (by decide)) rfl (Nat.le_of_ble_eq_true rfl) ?_
  intro p e s m args below meth c A ls C0 hnm hA hP hD hl
  obtain ⟨hx, hb, hr, hml, hown, hts, hlocks, hK, hE⟩ := id C0
  have hS : va_S A s.heap s.heap [] := va_S.rf
  have hl : lv_has ls 4 [(0, .ref (G.2.1 0)), (1, .int x1), (2, .int x2)] := hl
  refine lv_aload_n hx hb dX11_fixed_0 rfl (lv_at hl 0 rfl) ?_
  refine lv_iload_n hx hb dX11_fixed_1 rfl (lv_at hl 1 rfl) ?_
  obtain ⟨q1, hq1, h⟩ := f_b h
  refine cl_V (w := (hW G Z Y σ0)) (w' := (hW G Z Y σ0)) (rv := some (va_rf ((q1).map G.2.1))) (bytes := cX11_talkAt) (maxL := 2) (ret := (some (.object "LiarHall$Talk"))) (C := RX11) (As := [.int x1]) (rest := []) (stk := [va_rf ((q1).map G.2.1)]) ⟨hx, hb, hml, hown, hts⟩ hK hE hA hP hD hS (c_X11_talkAt l D G Z Y σ0 x1 q1 hq1) (cwV 1 hts (gwV wd_803 wd_805 wp_23 wd_1 wd_806) rfl rfl rfl hd_X11_talkAt ⟨Nat.le_of_ble_eq_true rfl, Nat.le_of_ble_eq_true rfl⟩) (hg_0 G Z Y σ0) rfl rfl rfl hl.1 rfl (Nat.le_of_ble_eq_true rfl) dX11_fixed_2 ⟨Nat.zero_le _, Nat.zero_le _⟩ rfl (fun H locs hP hD hS => ?_)
  rcases f_o h with ⟨ho, h⟩ | ⟨r2, ho, h⟩
  · rw [ho]
    refine lv_astore_nN (lv' := [(3, .null), (0, .ref (G.2.1 0)), (1, .int x1), (2, .int x2)]) hx hb dX11_fixed_5 rfl hl (by decide) rfl (fun ls hl => ?_)
    refine lv_aload_nN hx hb dX11_fixed_6 rfl (lv_at hl 0 rfl) ?_
    refine lv_ifnullN (tgt := 17) hx hb dX11_fixed_7 (by decide) ?_
    refine lv_iconst (v := (-1)) hx hb dX11_fixed_17 (by decide) ?_
    obtain rfl := Option.some.inj h
    exact W.iret (v := (-1 : Int32)) hx hb hr (q_end hK hP hD hS) hS.2.2 dX11_fixed_18
  · rw [ho]
    obtain ⟨hr2, h⟩ := f_c h
    refine lv_astore_n (lv' := [(3, .ref (G.2.1 r2)), (0, .ref (G.2.1 0)), (1, .int x1), (2, .int x2)]) hx hb dX11_fixed_5 rfl hl (by decide) rfl (fun ls hl => ?_)
    refine lv_aload_n hx hb dX11_fixed_6 rfl (lv_at hl 0 rfl) ?_
    refine lv_ifnull hx hb dX11_fixed_7 ?_
    refine lv_iload_n hx hb dX11_fixed_10 rfl (lv_at hl 3 rfl) ?_
    obtain ⟨q3, hq3, h⟩ := f_b h
    refine cl_S (w := (hW G Z Y σ0)) (w' := (hW G Z Y σ0)) (rv := some (.int q3)) (bytes := cX11_isOwnNumber) (maxL := 1) (ret := (some .boolean)) (As := [.int x2]) (rest := []) (stk := [.int q3]) ⟨hx, hb, hml, hown, hts⟩ hK hE hA hP hD hS (c_X11_isOwnNumber l D G (hW G Z Y σ0) x2 q3 hq3) (mkS hts wd_807 wd_808 wd_1 wd_809 rfl rfl hd_X11_isOwnNumber ⟨Nat.le_of_ble_eq_true rfl, Nat.le_of_ble_eq_true rfl⟩) rfl hl.1 rfl (Nat.le_of_ble_eq_true rfl) dX11_fixed_11 ⟨Nat.zero_le _, Nat.zero_le _⟩ rfl (fun H locs hP hD hS => ?_)
    refine lv_if_ne (tgt := 19) hx hb dX11_fixed_14 (by decide) (fun c4 => ?_) (fun c4 => ?_)
    · skip
      have h := f_f c4 h
      refine lv_aload_n hx hb dX11_fixed_19 rfl (lv_at hl 1 rfl) ?_
      refine va_get (D := D) (ci := 11) (v := .ref (G.2.1 14)) (C := RX11) (T := TX11) (N := 16) hx hb hts inU_X11 hown hK hP _ (hg_0 G Z Y σ0) rfl 6 (by decide) (hts _ wd_241) (fun _ h9 => h9) rfl dX11_fixed_20 ?_
      refine lv_aload_n hx hb dX11_fixed_23 rfl (lv_at hl 0 rfl) ?_
      refine lv_iload_n hx hb dX11_fixed_24 rfl (lv_at hl 3 rfl) ?_
      obtain ⟨q5, hq5, h⟩ := f_b h
      refine cl_V (w := (hW G Z Y σ0)) (w' := (hW G Z Y q5.2)) (rv := some (.int q5.1)) (bytes := cX1_goFixed) (maxL := 5) (ret := (some .boolean)) (C := RX1) (As := [.ref (G.2.1 r2), .int x2]) (rest := []) (stk := [.int q5.1]) ⟨hx, hb, hml, hown, hts⟩ hK hE hA hP hD hS (c_X1_goFixed l D G Z Y σ0 F 14 (rfl : isCo 14 = true) r2 hr2 x2 q5 hq5) (cwV 2 hts (gwV wd_935 wd_936 wd_937 wd_7 wd_938) rfl rfl rfl hd_X1_goFixed ⟨Nat.le_of_ble_eq_true rfl, Nat.le_of_ble_eq_true rfl⟩) (hg_14 G Z Y σ0) rfl rfl rfl hl.1 rfl (Nat.le_of_ble_eq_true rfl) dX11_fixed_25 ⟨Nat.zero_le _, Nat.zero_le _⟩ rfl (fun H locs hP hD hS => ?_)
      refine lv_if_eq (tgt := 35) hx hb dX11_fixed_28 (by decide) (fun c6 => ?_) (fun c6 => ?_)
      · skip
        have h := f_t c6 h
        refine lv_iconst (v := 0) hx hb dX11_fixed_35 (by decide) ?_
        obtain rfl := Option.some.inj h
        exact W.iret (v := (0 : Int32)) hx hb hr (q_end hK hP hD hS) hS.2.2 dX11_fixed_36
      · skip
        have h := f_f c6 h
        refine lv_iconst (v := 1) hx hb dX11_fixed_31 (by decide) ?_
        refine lv_goto (tgt := 36) hx hb dX11_fixed_32 (by decide) ?_
        obtain rfl := Option.some.inj h
        exact W.iret (v := (1 : Int32)) hx hb hr (q_end hK hP hD hS) hS.2.2 dX11_fixed_36
    · skip
      have h := f_t c4 h
      refine lv_iconst (v := (-1)) hx hb dX11_fixed_17 (by decide) ?_
      obtain rfl := Option.some.inj h
      exact W.iret (v := (-1 : Int32)) hx hb hr (q_end hK hP hD hS) hS.2.2 dX11_fixed_18
abbrev rm_X11_latest : Room := { frames := 0, cells := 0, slots := 0, locals := 0 }
set_option maxRecDepth 100000 in
set_option maxHeartbeats 8000000 in
theorem c_X11_latest (l : Launch) (D : va_G) (G : hG) (Z : hZ) (Y : va_W) (σ0 : hSt) (x1 : Int32) (res : Int32) (h : f_X11_latest Z σ0 x1 = some res) : CT l yX11_latest cX11_latest 2 (some .int) rm_X11_latest D G 0 0 [.ref (G.2.1 0), .int x1] (hW G Z Y σ0) (hW G Z Y σ0) (some (.int res)) := by
  unfold f_X11_latest at h
  refine CT.mk (cc := cX11_latest) (maxL := 2) (ret := (some .int)) (own := RX11) (plainFor_of_name (by decide)) rfl (Nat.le_of_ble_eq_true rfl) ?_
  intro p e s m args below meth c A ls C0 hnm hA hP hD hl
  obtain ⟨hx, hb, hr, hml, hown, hts, hlocks, hK, hE⟩ := id C0
  have hS : va_S A s.heap s.heap [] := va_S.rf
  have hl : lv_has ls 2 [(0, .ref (G.2.1 0)), (1, .int x1)] := hl
  refine lv_aload_n hx hb dX11_latest_0 rfl (lv_at hl 0 rfl) ?_
  refine va_get (D := D) (ci := 11) (v := .ref (G.2.1 14)) (C := RX11) (T := TX11) (N := 16) hx hb hts inU_X11 hown hK hP _ (hg_0 G Z Y σ0) rfl 6 (by decide) (hts _ wd_241) (fun _ h9 => h9) rfl dX11_latest_1 ?_
  refine va_getN (D := D) (ci := 2) (v := va_rf (((σ0.2.2 14 8)).map G.2.1)) (C := RX1) (T := TX1) (N := 15) hx hb hts inU_X1 hown hK hP _ (hg_14 G Z Y σ0) rfl 8 (by decide) (nF_use 5 hE rfl) (fun _ h9 => h9) rfl dX11_latest_4 ?_
  rcases f_o h with ⟨ho, h⟩ | ⟨r1, ho, h⟩
  · rw [ho]
    refine lv_ifnonnullN hx hb dX11_latest_7 ?_
    refine lv_iconst (v := (-1)) hx hb dX11_latest_10 (by decide) ?_
    obtain rfl := Option.some.inj h
    exact W.iret (v := (-1 : Int32)) hx hb hr (q_end hK hP hD hS) hS.2.2 dX11_latest_11
  · rw [ho]
    obtain ⟨hr1, h⟩ := f_c h
    refine lv_ifnonnull (tgt := 12) hx hb dX11_latest_7 (by decide) ?_
    refine lv_iload_n hx hb dX11_latest_12 rfl (lv_at hl 1 rfl) ?_
    by_cases c2 : x1 = 0
    · have h := f_t c2 h
      refine lv_tableIn (off := 31) (tgt := 44) hx hb dX11_latest_13 (by rw [c2]; decide) (by rw [c2]; decide) (by rw [c2]; rfl) (by decide) ?_
      refine lv_aload_n hx hb dX11_latest_44 rfl (lv_at hl 0 rfl) ?_
      refine va_get (D := D) (ci := 11) (v := .ref (G.2.1 14)) (C := RX11) (T := TX11) (N := 16) hx hb hts inU_X11 hown hK hP _ (hg_0 G Z Y σ0) rfl 6 (by decide) (hts _ wd_241) (fun _ h9 => h9) rfl dX11_latest_45 ?_
      refine va_getN (D := D) (ci := 2) (v := .long (σ0.2.1 14 9)) (C := RX1) (T := TX1) (N := 15) hx hb hts inU_X1 hown hK hP _ (hg_14 G Z Y σ0) rfl 9 (by decide) (nF_use 6 hE rfl) (fun _ h9 => h9) rfl dX11_latest_48 ?_
      refine lv_l2i (v := ((σ0.2.1 14 9) : Int64).toInt32) hx hb dX11_latest_51 rfl ?_
      obtain rfl := Option.some.inj h
      exact W.iret (v := ((σ0.2.1 14 9) : Int64).toInt32) hx hb hr (q_end hK hP hD hS) hS.2.2 dX11_latest_52
    have h := f_f c2 h
    by_cases c3 : x1 = 1
    · have h := f_t c3 h
      refine lv_tableIn (off := 40) (tgt := 53) hx hb dX11_latest_13 (by rw [c3]; decide) (by rw [c3]; decide) (by rw [c3]; rfl) (by decide) ?_
      refine lv_aload_n hx hb dX11_latest_53 rfl (lv_at hl 0 rfl) ?_
      refine va_get (D := D) (ci := 11) (v := .ref (G.2.1 14)) (C := RX11) (T := TX11) (N := 16) hx hb hts inU_X11 hown hK hP _ (hg_0 G Z Y σ0) rfl 6 (by decide) (hts _ wd_241) (fun _ h9 => h9) rfl dX11_latest_54 ?_
      refine va_getN (D := D) (ci := 2) (v := .int (σ0.1 14 11)) (C := RX1) (T := TX1) (N := 15) hx hb hts inU_X1 hown hK hP _ (hg_14 G Z Y σ0) rfl 11 (by decide) (nF_use 8 hE rfl) (fun _ h9 => h9) rfl dX11_latest_57 ?_
      obtain rfl := Option.some.inj h
      exact W.iret (v := (σ0.1 14 11)) hx hb hr (q_end hK hP hD hS) hS.2.2 dX11_latest_60
    have h := f_f c3 h
    by_cases c4 : x1 = 2
    · have h := f_t c4 h
      refine lv_tableIn (off := 48) (tgt := 61) hx hb dX11_latest_13 (by rw [c4]; decide) (by rw [c4]; decide) (by rw [c4]; rfl) (by decide) ?_
      refine lv_aload_n hx hb dX11_latest_61 rfl (lv_at hl 0 rfl) ?_
      refine va_get (D := D) (ci := 11) (v := .ref (G.2.1 14)) (C := RX11) (T := TX11) (N := 16) hx hb hts inU_X11 hown hK hP _ (hg_0 G Z Y σ0) rfl 6 (by decide) (hts _ wd_241) (fun _ h9 => h9) rfl dX11_latest_62 ?_
      refine va_getN (D := D) (ci := 2) (v := .long (σ0.2.1 14 10)) (C := RX1) (T := TX1) (N := 15) hx hb hts inU_X1 hown hK hP _ (hg_14 G Z Y σ0) rfl 10 (by decide) (nF_use 7 hE rfl) (fun _ h9 => h9) rfl dX11_latest_65 ?_
      refine lv_l2i (v := ((σ0.2.1 14 10) : Int64).toInt32) hx hb dX11_latest_68 rfl ?_
      obtain rfl := Option.some.inj h
      exact W.iret (v := ((σ0.2.1 14 10) : Int64).toInt32) hx hb hr (q_end hK hP hD hS) hS.2.2 dX11_latest_69
    have h := f_f c4 h
    by_cases c5 : x1 = 3
    · have h := f_t c5 h
      refine lv_tableIn (off := 57) (tgt := 70) hx hb dX11_latest_13 (by rw [c5]; decide) (by rw [c5]; decide) (by rw [c5]; rfl) (by decide) ?_
      refine lv_aload_n hx hb dX11_latest_70 rfl (lv_at hl 0 rfl) ?_
      refine va_get (D := D) (ci := 11) (v := .ref (G.2.1 14)) (C := RX11) (T := TX11) (N := 16) hx hb hts inU_X11 hown hK hP _ (hg_0 G Z Y σ0) rfl 6 (by decide) (hts _ wd_241) (fun _ h9 => h9) rfl dX11_latest_71 ?_
      refine va_getN (D := D) (ci := 2) (v := .int (σ0.1 14 12)) (C := RX1) (T := TX1) (N := 15) hx hb hts inU_X1 hown hK hP _ (hg_14 G Z Y σ0) rfl 12 (by decide) (nF_use 9 hE rfl) (fun _ h9 => h9) rfl dX11_latest_74 ?_
      obtain rfl := Option.some.inj h
      exact W.iret (v := (σ0.1 14 12)) hx hb hr (q_end hK hP hD hS) hS.2.2 dX11_latest_77
    have h := f_f c5 h
    have hne0 := i32ne (z := 0) (by decide) c2
    have hne1 := i32ne (z := 1) (by decide) c3
    have hne2 := i32ne (z := 2) (by decide) c4
    have hne3 := i32ne (z := 3) (by decide) c5
    refine lv_tableOut (tgt := 78) hx hb dX11_latest_13 (by omega) (by decide) ?_
    refine lv_iconst (v := (-1)) hx hb dX11_latest_78 (by decide) ?_
    obtain rfl := Option.some.inj h
    exact W.iret (v := (-1 : Int32)) hx hb hr (q_end hK hP hD hS) hS.2.2 dX11_latest_79
abbrev rm_X11_draw : Room := { frames := 1, cells := 0, slots := 0, locals := 21 }
set_option maxRecDepth 100000 in
set_option maxHeartbeats 8000000 in
theorem c_X11_draw (l : Launch) (D : va_G) (G : hG) (Z : hZ) (Y : va_W) (σ0 : hSt) (x1 : Int32) (res : Int32) (h : f_X11_draw Z σ0 x1 = some res) : CT l yX11_draw cX11_draw 2 (some .int) rm_X11_draw D G 0 0 [.ref (G.2.1 0), .int x1] (hW G Z Y σ0) (hW G Z Y σ0) (some (.int res)) := by
  unfold f_X11_draw at h
  refine CT.mk (cc := cX11_draw) (maxL := 2) (ret := (some .int)) (own := RX11) (plainFor_of_name (by decide)) rfl (Nat.le_of_ble_eq_true rfl) ?_
  intro p e s m args below meth c A ls C0 hnm hA hP hD hl
  obtain ⟨hx, hb, hr, hml, hown, hts, hlocks, hK, hE⟩ := id C0
  have hS : va_S A s.heap s.heap [] := va_S.rf
  have hl : lv_has ls 2 [(0, .ref (G.2.1 0)), (1, .int x1)] := hl
  refine lv_aload_n hx hb dX11_draw_0 rfl (lv_at hl 0 rfl) ?_
  refine va_get (D := D) (ci := 11) (v := .ref (G.2.1 14)) (C := RX11) (T := TX11) (N := 16) hx hb hts inU_X11 hown hK hP _ (hg_0 G Z Y σ0) rfl 6 (by decide) (hts _ wd_241) (fun _ h9 => h9) rfl dX11_draw_1 ?_
  refine lv_iload_n hx hb dX11_draw_4 rfl (lv_at hl 1 rfl) ?_
  obtain ⟨q1, hq1, h⟩ := f_b h
  refine cl_V (w := (hW G Z Y σ0)) (w' := (hW G Z Y σ0)) (rv := some (.int q1)) (bytes := cX1_drawOf) (maxL := 2) (ret := (some .int)) (C := RX1) (As := [.int x1]) (rest := []) (stk := [.int q1]) ⟨hx, hb, hml, hown, hts⟩ hK hE hA hP hD hS (c_X1_drawOf l D G Z Y σ0 14 (rfl : isCo 14 = true) x1 q1 hq1) (cwV 1 hts (gwV wd_947 wd_948 wd_949 wd_7 wd_950) rfl rfl rfl hd_X1_drawOf ⟨Nat.le_of_ble_eq_true rfl, Nat.le_of_ble_eq_true rfl⟩) (hg_14 G Z Y σ0) rfl rfl rfl hl.1 rfl (Nat.le_of_ble_eq_true rfl) dX11_draw_5 ⟨Nat.zero_le _, Nat.zero_le _⟩ rfl (fun H locs hP hD hS => ?_)
  obtain rfl := Option.some.inj h
  exact W.iret (v := q1) hx hb hr (q_end hK hP hD hS) hS.2.2 dX11_draw_8
abbrev rm_X11_tries : Room := { frames := 8, cells := 0, slots := 0, locals := 201 }
set_option maxRecDepth 100000 in
set_option maxHeartbeats 8000000 in
theorem W_X11_tries_L27 {p : Program} {e : Env} {s : State} {m : MethodId} {args : Array Value} {below : List Frame} {meth : Method} {c : Code} {A : Nat → Prop} (l : Launch) (D : va_G) (G : hG) (Z : hZ) (Y : va_W) (σ0 : hSt) (F : Nat) (x1 : Int32) (x2 : Int32) (r2 : Nat) (hr2 : isTa Z r2 = true) (y2 : Int32) (res : (Int32 × hSt)) (C0 : Cx p s m args meth c cX11_tries (some .int) RX11 5 D G A) (hA : ∀ q : Nat, s.heap.size ≤ q → A q) : ∀ (n : Nat) (σ1 : hSt) (z4 : Int32), f_X11_tries_L27 F Z r2 y2 n σ1 z4 = some res → ∀ (H : Heap) (locs : List Loc) (ls : Array Slot), va_P D vwCl (hW G Z Y σ1) H → va_D A (hW G Z Y σ1) → va_S A s.heap H locs → lv_has ls 5 [(0, .ref (G.2.1 0)), (2, .int y2), (3, .ref (G.2.1 r2)), (4, .int z4)] → W p l e rm_X11_tries s m args below meth c H locs 0 0 (MQ below (Qg (some (.int res.1)) D (tysG G) (hW G Z Y res.2) A) args s 0 0 A) (F0 m 27 ls []) := by
  obtain ⟨hx, hb, hr, hml, hown, hts, hlocks, hK, hE⟩ := id C0
  intro n
  induction n with
  | zero =>
    intro σ1 z4 h
    cases h
  | succ n ih =>
    intro σ1 z4 h H locs ls hP hD hS hl
    rw [f_X11_tries_L27] at h
    refine lv_iload hx hb dX11_tries_27 (lv_at hl 3 rfl) ?_
    refine lv_iload_n hx hb dX11_tries_29 rfl (lv_at hl 1 rfl) ?_
    refine lv_icmp_ge (tgt := 55) hx hb dX11_tries_30 (by decide) (fun c5 => ?_) (fun c5 => ?_)
    · skip
      have h := f_t c5 h
      refine lv_iconst (v := (-1)) hx hb dX11_tries_55 (by decide) ?_
      obtain rfl := Option.some.inj h
      exact W.iret (v := (-1 : Int32)) hx hb hr (q_end hK hP hD hS) hS.2.2 dX11_tries_56
    · skip
      have h := f_f c5 h
      refine lv_aload_n hx hb dX11_tries_33 rfl (lv_at hl 0 rfl) ?_
      refine va_get (D := D) (ci := 11) (v := .ref (G.2.1 15)) (C := RX11) (T := TX11) (N := 16) hx hb hts inU_X11 hown hK hP _ (hg_0 G Z Y σ1) rfl 7 (by decide) (hts _ wd_242) (fun _ h9 => h9) rfl dX11_tries_34 ?_
      refine lv_aload_n hx hb dX11_tries_37 rfl (lv_at hl 2 rfl) ?_
      refine lv_iload hx hb dX11_tries_38 (lv_at hl 3 rfl) ?_
      obtain ⟨q6, hq6, h⟩ := f_b h
      refine cl_V (w := (hW G Z Y σ1)) (w' := (hW G Z Y q6.2)) (rv := some (.int q6.1)) (bytes := cX1_goFixed) (maxL := 5) (ret := (some .boolean)) (C := RX1) (As := [.ref (G.2.1 r2), .int z4]) (rest := []) (stk := [.int q6.1]) ⟨hx, hb, hml, hown, hts⟩ hK hE hA hP hD hS (c_X1_goFixed l D G Z Y σ1 F 15 (rfl : isCo 15 = true) r2 hr2 z4 q6 hq6) (cwV 2 hts (gwV wd_935 wd_936 wd_937 wd_7 wd_938) rfl rfl rfl hd_X1_goFixed ⟨Nat.le_of_ble_eq_true rfl, Nat.le_of_ble_eq_true rfl⟩) (hg_15 G Z Y σ1) rfl rfl rfl hl.1 rfl (Nat.le_of_ble_eq_true rfl) dX11_tries_40 ⟨Nat.zero_le _, Nat.zero_le _⟩ rfl (fun H locs hP hD hS => ?_)
      refine lv_if_eq (tgt := 49) hx hb dX11_tries_43 (by decide) (fun c7 => ?_) (fun c7 => ?_)
      · skip
        have h := f_t c7 h
        refine lv_iinc (v := (z4 + 1)) (lv' := [(4, .int (z4 + 1)), (0, .ref (G.2.1 0)), (2, .int y2), (3, .ref (G.2.1 r2))]) hx hb dX11_tries_49 hl (k := 3) rfl rfl (by decide) rfl (fun ls hl => ?_)
        refine lv_goto (tgt := 27) hx hb dX11_tries_52 (by decide) ?_
        exact ih q6.2 (z4 + 1) h _ _ _ hP hD hS (lv_sub hl [1, 2, 3, 0] rfl)
      · skip
        have h := f_f c7 h
        refine lv_iload hx hb dX11_tries_46 (lv_at hl 3 rfl) ?_
        obtain rfl := Option.some.inj h
        exact W.iret (v := z4) hx hb hr (q_end hK hP hD hS) hS.2.2 dX11_tries_48
set_option maxRecDepth 100000 in
set_option maxHeartbeats 8000000 in
theorem c_X11_tries (l : Launch) (D : va_G) (G : hG) (Z : hZ) (Y : va_W) (σ0 : hSt) (F : Nat) (x1 : Int32) (x2 : Int32) (res : (Int32 × hSt)) (h : f_X11_tries F Z σ0 x1 x2 = some res) : CT l yX11_tries cX11_tries 5 (some .int) rm_X11_tries D G 0 0 [.ref (G.2.1 0), .int x1, .int x2] (hW G Z Y σ0) (hW G Z Y res.2) (some (.int res.1)) := by
  unfold f_X11_tries at h
  refine CT.mk (cc := cX11_tries) (maxL := 5) (ret := (some .int)) (own := RX11) (plainFor_of_name (by decide)) rfl (Nat.le_of_ble_eq_true rfl) ?_
  intro p e s m args below meth c A ls C0 hnm hA hP hD hl
  obtain ⟨hx, hb, hr, hml, hown, hts, hlocks, hK, hE⟩ := id C0
  have hS : va_S A s.heap s.heap [] := va_S.rf
  have hl : lv_has ls 5 [(0, .ref (G.2.1 0)), (1, .int x1), (2, .int x2)] := hl
  refine lv_aload_n hx hb dX11_tries_0 rfl (lv_at hl 0 rfl) ?_
  refine lv_iload_n hx hb dX11_tries_1 rfl (lv_at hl 1 rfl) ?_
  obtain ⟨q1, hq1, h⟩ := f_b h
  refine cl_V (w := (hW G Z Y σ0)) (w' := (hW G Z Y σ0)) (rv := some (va_rf ((q1).map G.2.1))) (bytes := cX11_talkAt) (maxL := 2) (ret := (some (.object "LiarHall$Talk"))) (C := RX11) (As := [.int x1]) (rest := []) (stk := [va_rf ((q1).map G.2.1)]) ⟨hx, hb, hml, hown, hts⟩ hK hE hA hP hD hS (c_X11_talkAt l D G Z Y σ0 x1 q1 hq1) (cwV 1 hts (gwV wd_803 wd_805 wp_23 wd_1 wd_806) rfl rfl rfl hd_X11_talkAt ⟨Nat.le_of_ble_eq_true rfl, Nat.le_of_ble_eq_true rfl⟩) (hg_0 G Z Y σ0) rfl rfl rfl hl.1 rfl (Nat.le_of_ble_eq_true rfl) dX11_tries_2 ⟨Nat.zero_le _, Nat.zero_le _⟩ rfl (fun H locs hP hD hS => ?_)
  rcases f_o h with ⟨ho, h⟩ | ⟨r2, ho, h⟩
  · rw [ho]
    refine lv_astore_nN (lv' := [(3, .null), (0, .ref (G.2.1 0)), (1, .int x1), (2, .int x2)]) hx hb dX11_tries_5 rfl hl (by decide) rfl (fun ls hl => ?_)
    refine lv_aload_nN hx hb dX11_tries_6 rfl (lv_at hl 0 rfl) ?_
    refine lv_ifnullN (tgt := 22) hx hb dX11_tries_7 (by decide) ?_
    refine lv_iconst (v := (-1)) hx hb dX11_tries_22 (by decide) ?_
    obtain rfl := Option.some.inj h
    exact W.iret (v := (-1 : Int32)) hx hb hr (q_end hK hP hD hS) hS.2.2 dX11_tries_23
  · rw [ho]
    obtain ⟨hr2, h⟩ := f_c h
    refine lv_astore_n (lv' := [(3, .ref (G.2.1 r2)), (0, .ref (G.2.1 0)), (1, .int x1), (2, .int x2)]) hx hb dX11_tries_5 rfl hl (by decide) rfl (fun ls hl => ?_)
    refine lv_aload_n hx hb dX11_tries_6 rfl (lv_at hl 0 rfl) ?_
    refine lv_ifnull hx hb dX11_tries_7 ?_
    refine lv_iload_n hx hb dX11_tries_10 rfl (lv_at hl 3 rfl) ?_
    refine lv_iconst (v := 1) hx hb dX11_tries_11 (by decide) ?_
    refine lv_icmp_lt (tgt := 22) hx hb dX11_tries_12 (by decide) (fun c3 => ?_) (fun c3 => ?_)
    · skip
      have h := f_t c3 h
      refine lv_iconst (v := (-1)) hx hb dX11_tries_22 (by decide) ?_
      obtain rfl := Option.some.inj h
      exact W.iret (v := (-1 : Int32)) hx hb hr (q_end hK hP hD hS) hS.2.2 dX11_tries_23
    · skip
      have h := f_f c3 h
      refine lv_iload_n hx hb dX11_tries_15 rfl (lv_at hl 3 rfl) ?_
      refine lv_sipush (v := 200) hx hb dX11_tries_16 (by decide) ?_
      refine lv_icmp_le (tgt := 24) hx hb dX11_tries_19 (by decide) (fun c4 => ?_) (fun c4 => ?_)
      · skip
        have h := f_t c4 h
        refine lv_iconst (v := 0) hx hb dX11_tries_24 (by decide) ?_
        refine lv_istore (lv' := [(4, .int (0 : Int32)), (3, .ref (G.2.1 r2)), (0, .ref (G.2.1 0)), (1, .int x1), (2, .int x2)]) hx hb dX11_tries_25 hl (by decide) rfl (fun ls hl => ?_)
        refine W_X11_tries_L27 l D G Z Y σ0 F x1 x2 r2 hr2 x2 res C0 hA F σ0 (0 : Int32) h _ _ _ hP hD hS (lv_sub hl [2, 4, 1, 0] rfl)
      · skip
        have h := f_f c4 h
        refine lv_iconst (v := (-1)) hx hb dX11_tries_22 (by decide) ?_
        obtain rfl := Option.some.inj h
        exact W.iret (v := (-1 : Int32)) hx hb hr (q_end hK hP hD hS) hS.2.2 dX11_tries_23
abbrev rm_X11_spent : Room := { frames := 6, cells := 0, slots := 0, locals := 153 }
set_option maxRecDepth 100000 in
set_option maxHeartbeats 8000000 in
theorem W_X11_spent_L85 {p : Program} {e : Env} {s : State} {m : MethodId} {args : Array Value} {below : List Frame} {meth : Method} {c : Code} {A : Nat → Prop} (l : Launch) (D : va_G) (G : hG) (Z : hZ) (Y : va_W) (σ0 : hSt) (F : Nat) (x1 : Int32) (x2 : Int32) (r6 : Nat) (hr6 : isSa Z r6 = true) (res : (Int32 × hSt)) (C0 : Cx p s m args meth c cX11_spent (some .int) RX11 8 D G A) (hA : ∀ q : Nat, s.heap.size ≤ q → A q) : ∀ (n : Nat) (σ1 : hSt) (z5 : Int32) (z6 : Int32), f_X11_spent_L85 F Z r6 n σ1 z5 z6 = some res → ∀ (H : Heap) (locs : List Loc) (ls : Array Slot), va_P D vwCl (hW G Z Y σ1) H → va_D A (hW G Z Y σ1) → va_S A s.heap H locs → lv_has ls 8 [(0, .ref (G.2.1 0)), (4, .ref (G.2.1 r6)), (5, .int z5), (6, .int z6)] → W p l e rm_X11_spent s m args below meth c H locs 0 0 (MQ below (Qg (some (.int res.1)) D (tysG G) (hW G Z Y res.2) A) args s 0 0 A) (F0 m 85 ls []) := by
  obtain ⟨hx, hb, hr, hml, hown, hts, hlocks, hK, hE⟩ := id C0
  intro n
  induction n with
  | zero =>
    intro σ1 z5 z6 h
    cases h
  | succ n ih =>
    intro σ1 z5 z6 h H locs ls hP hD hS hl
    rw [f_X11_spent_L85] at h
    refine lv_iload hx hb dX11_spent_85 (lv_at hl 3 rfl) ?_
    refine lv_aload hx hb dX11_spent_87 (lv_at hl 1 rfl) ?_
    obtain ⟨qq20, hq20⟩ := hg_Sa G Z Y σ1 hr6
    refine va_getN (D := D) (ci := 5) (v := .int (Z.2.2.1 r6 2)) (C := RX4) (T := TX4) (N := 5) hx hb hts inU_X4 hown hK hP _ hq20 rfl 2 (by decide) (nF_use 13 hE rfl) (fun _ h9 => h9) rfl dX11_spent_89 ?_
    refine lv_icmp_ge (tgt := 142) hx hb dX11_spent_92 (by decide) (fun c21 => ?_) (fun c21 => ?_)
    · skip
      have h := f_t c21 h
      refine lv_iload hx hb dX11_spent_142 (lv_at hl 2 rfl) ?_
      obtain rfl := Option.some.inj h
      exact W.iret (v := z5) hx hb hr (q_end hK hP hD hS) hS.2.2 dX11_spent_144
    · skip
      have h := f_f c21 h
      refine lv_aload hx hb dX11_spent_95 (lv_at hl 1 rfl) ?_
      refine lv_iload hx hb dX11_spent_97 (lv_at hl 3 rfl) ?_
      obtain ⟨q22, hq22, h⟩ := f_b h
      obtain ⟨qq23, hq23⟩ := hg_Sa G Z Y σ1 hr6
      refine cl_V (w := (hW G Z Y σ1)) (w' := (hW G Z Y σ1)) (rv := some (.int q22)) (bytes := cX4_steepOf) (maxL := 2) (ret := (some .int)) (C := RX4) (As := [.int z6]) (rest := []) (stk := [.int q22]) ⟨hx, hb, hml, hown, hts⟩ hK hE hA hP hD hS (c_X4_steepOf l D G Z Y σ1 r6 hr6 z6 q22 hq22) (cwV 1 hts (gwV wd_675 wd_676 wd_677 wd_18 wd_678) rfl rfl rfl hd_X4_steepOf ⟨Nat.le_of_ble_eq_true rfl, Nat.le_of_ble_eq_true rfl⟩) hq23 rfl rfl rfl hl.1 rfl (Nat.le_of_ble_eq_true rfl) dX11_spent_99 ⟨Nat.zero_le _, Nat.zero_le _⟩ rfl (fun H locs hP hD hS => ?_)
      refine lv_iconst (v := 1) hx hb dX11_spent_102 (by decide) ?_
      refine lv_iadd hx hb dX11_spent_103 ?_
      refine lv_istore (lv' := [(7, .int (q22 + (1 : Int32))), (0, .ref (G.2.1 0)), (4, .ref (G.2.1 r6)), (5, .int z5), (6, .int z6)]) hx hb dX11_spent_104 hl (by decide) rfl (fun ls hl => ?_)
      refine lv_iload hx hb dX11_spent_106 (lv_at hl 3 rfl) ?_
      refine lv_iconst (v := 2) hx hb dX11_spent_108 (by decide) ?_
      refine lv_iload hx hb dX11_spent_109 (lv_at hl 0 rfl) ?_
      refine lv_imul hx hb dX11_spent_111 ?_
      refine lv_iload hx hb dX11_spent_112 (lv_at hl 0 rfl) ?_
      refine lv_imul hx hb dX11_spent_114 ?_
      refine lv_aload_n hx hb dX11_spent_115 rfl (lv_at hl 1 rfl) ?_
      refine va_get (D := D) (ci := 11) (v := .ref (G.2.1 12)) (C := RX11) (T := TX11) (N := 16) hx hb hts inU_X11 hown hK hP _ (hg_0 G Z Y σ1) rfl 5 (by decide) (hts _ wd_240) (fun _ h9 => h9) rfl dX11_spent_116 ?_
      refine lv_iload hx hb dX11_spent_119 (lv_at hl 4 rfl) ?_
      obtain ⟨q24, hq24, h⟩ := f_b h
      refine cl_V (w := (hW G Z Y σ1)) (w' := (hW G Z Y q24.2)) (rv := some (.int q24.1)) (bytes := cX0_asksForSum) (maxL := 2) (ret := (some .boolean)) (C := RX0) (As := [.int z6]) (rest := [.int (((2 : Int32) * (q22 + (1 : Int32))) * (q22 + (1 : Int32))), .int z5]) (stk := [.int q24.1, .int (((2 : Int32) * (q22 + (1 : Int32))) * (q22 + (1 : Int32))), .int z5]) ⟨hx, hb, hml, hown, hts⟩ hK hE hA hP hD hS (c_X0_asksForSum l D G Z Y σ1 F z6 q24 hq24) (cwV 1 hts (gwV wd_961 wd_884 wd_885 wd_6 wd_886) rfl rfl rfl hd_X0_asksForSum ⟨Nat.le_of_ble_eq_true rfl, Nat.le_of_ble_eq_true rfl⟩) (hg_12 G Z Y σ1) rfl rfl rfl hl.1 rfl (Nat.le_of_ble_eq_true rfl) dX11_spent_121 ⟨Nat.zero_le _, Nat.zero_le _⟩ rfl (fun H locs hP hD hS => ?_)
      refine lv_if_eq (tgt := 131) hx hb dX11_spent_124 (by decide) (fun c25 => ?_) (fun c25 => ?_)
      · skip
        have h := f_t c25 h
        refine lv_iconst (v := 0) hx hb dX11_spent_131 (by decide) ?_
        refine lv_iadd hx hb dX11_spent_132 ?_
        refine lv_iadd hx hb dX11_spent_133 ?_
        refine lv_istore (lv' := [(5, .int (z5 + ((((2 : Int32) * (q22 + (1 : Int32))) * (q22 + (1 : Int32))) + (0 : Int32)))), (7, .int (q22 + (1 : Int32))), (0, .ref (G.2.1 0)), (4, .ref (G.2.1 r6)), (6, .int z6)]) hx hb dX11_spent_134 hl (by decide) rfl (fun ls hl => ?_)
        refine lv_iinc (v := (z6 + 1)) (lv' := [(6, .int (z6 + 1)), (5, .int (z5 + ((((2 : Int32) * (q22 + (1 : Int32))) * (q22 + (1 : Int32))) + (0 : Int32)))), (7, .int (q22 + (1 : Int32))), (0, .ref (G.2.1 0)), (4, .ref (G.2.1 r6))]) hx hb dX11_spent_136 hl (k := 4) rfl rfl (by decide) rfl (fun ls hl => ?_)
        refine lv_goto (tgt := 85) hx hb dX11_spent_139 (by decide) ?_
        exact ih q24.2 (z5 + ((((2 : Int32) * (q22 + (1 : Int32))) * (q22 + (1 : Int32))) + (0 : Int32))) (z6 + 1) h _ _ _ hP hD hS (lv_sub hl [3, 4, 1, 0] rfl)
      · skip
        have h := f_f c25 h
        refine lv_iconst (v := 1) hx hb dX11_spent_127 (by decide) ?_
        refine lv_goto (tgt := 132) hx hb dX11_spent_128 (by decide) ?_
        refine lv_iadd hx hb dX11_spent_132 ?_
        refine lv_iadd hx hb dX11_spent_133 ?_
        refine lv_istore (lv' := [(5, .int (z5 + ((((2 : Int32) * (q22 + (1 : Int32))) * (q22 + (1 : Int32))) + (1 : Int32)))), (7, .int (q22 + (1 : Int32))), (0, .ref (G.2.1 0)), (4, .ref (G.2.1 r6)), (6, .int z6)]) hx hb dX11_spent_134 hl (by decide) rfl (fun ls hl => ?_)
        refine lv_iinc (v := (z6 + 1)) (lv' := [(6, .int (z6 + 1)), (5, .int (z5 + ((((2 : Int32) * (q22 + (1 : Int32))) * (q22 + (1 : Int32))) + (1 : Int32)))), (7, .int (q22 + (1 : Int32))), (0, .ref (G.2.1 0)), (4, .ref (G.2.1 r6))]) hx hb dX11_spent_136 hl (k := 4) rfl rfl (by decide) rfl (fun ls hl => ?_)
        refine lv_goto (tgt := 85) hx hb dX11_spent_139 (by decide) ?_
        exact ih q24.2 (z5 + ((((2 : Int32) * (q22 + (1 : Int32))) * (q22 + (1 : Int32))) + (1 : Int32))) (z6 + 1) h _ _ _ hP hD hS (lv_sub hl [3, 4, 1, 0] rfl)
set_option maxRecDepth 100000 in
set_option maxHeartbeats 8000000 in
theorem c_X11_spent (l : Launch) (D : va_G) (G : hG) (Z : hZ) (Y : va_W) (σ0 : hSt) (F : Nat) (x1 : Int32) (x2 : Int32) (res : (Int32 × hSt)) (h : f_X11_spent F Z σ0 x1 x2 = some res) : CT l yX11_spent cX11_spent 8 (some .int) rm_X11_spent D G 0 0 [.ref (G.2.1 0), .int x1, .int x2] (hW G Z Y σ0) (hW G Z Y res.2) (some (.int res.1)) := by
  unfold f_X11_spent at h
  refine CT.mk (cc := cX11_spent) (maxL := 8) (ret := (some .int)) (own := RX11) (plainFor_of_name (by decide)) rfl (Nat.le_of_ble_eq_true rfl) ?_
  intro p e s m args below meth c A ls C0 hnm hA hP hD hl
  obtain ⟨hx, hb, hr, hml, hown, hts, hlocks, hK, hE⟩ := id C0
  have hS : va_S A s.heap s.heap [] := va_S.rf
  have hl : lv_has ls 8 [(0, .ref (G.2.1 0)), (1, .int x1), (2, .int x2)] := hl
  refine lv_aload_n hx hb dX11_spent_0 rfl (lv_at hl 0 rfl) ?_
  refine lv_iload_n hx hb dX11_spent_1 rfl (lv_at hl 1 rfl) ?_
  obtain ⟨q1, hq1, h⟩ := f_b h
  refine cl_V (w := (hW G Z Y σ0)) (w' := (hW G Z Y σ0)) (rv := some (va_rf ((q1).map G.2.1))) (bytes := cX11_talkAt) (maxL := 2) (ret := (some (.object "LiarHall$Talk"))) (C := RX11) (As := [.int x1]) (rest := []) (stk := [va_rf ((q1).map G.2.1)]) ⟨hx, hb, hml, hown, hts⟩ hK hE hA hP hD hS (c_X11_talkAt l D G Z Y σ0 x1 q1 hq1) (cwV 1 hts (gwV wd_803 wd_805 wp_23 wd_1 wd_806) rfl rfl rfl hd_X11_talkAt ⟨Nat.le_of_ble_eq_true rfl, Nat.le_of_ble_eq_true rfl⟩) (hg_0 G Z Y σ0) rfl rfl rfl hl.1 rfl (Nat.le_of_ble_eq_true rfl) dX11_spent_2 ⟨Nat.zero_le _, Nat.zero_le _⟩ rfl (fun H locs hP hD hS => ?_)
  rcases f_o h with ⟨ho, h⟩ | ⟨r2, ho, h⟩
  · rw [ho]
    refine lv_astore_nN (lv' := [(3, .null), (0, .ref (G.2.1 0)), (1, .int x1), (2, .int x2)]) hx hb dX11_spent_5 rfl hl (by decide) rfl (fun ls hl => ?_)
    refine lv_aload_nN hx hb dX11_spent_6 rfl (lv_at hl 0 rfl) ?_
    refine lv_ifnullN (tgt := 19) hx hb dX11_spent_7 (by decide) ?_
    refine lv_iconst (v := (-1)) hx hb dX11_spent_19 (by decide) ?_
    obtain rfl := Option.some.inj h
    exact W.iret (v := (-1 : Int32)) hx hb hr (q_end hK hP hD hS) hS.2.2 dX11_spent_20
  · rw [ho]
    obtain ⟨hr2, h⟩ := f_c h
    refine lv_astore_n (lv' := [(3, .ref (G.2.1 r2)), (0, .ref (G.2.1 0)), (1, .int x1), (2, .int x2)]) hx hb dX11_spent_5 rfl hl (by decide) rfl (fun ls hl => ?_)
    refine lv_aload_n hx hb dX11_spent_6 rfl (lv_at hl 0 rfl) ?_
    refine lv_ifnull hx hb dX11_spent_7 ?_
    refine lv_iload_n hx hb dX11_spent_10 rfl (lv_at hl 3 rfl) ?_
    refine lv_if_lt (tgt := 19) hx hb dX11_spent_11 (by decide) (fun c3 => ?_) (fun c3 => ?_)
    · skip
      have h := f_t c3 h
      refine lv_iconst (v := (-1)) hx hb dX11_spent_19 (by decide) ?_
      obtain rfl := Option.some.inj h
      exact W.iret (v := (-1 : Int32)) hx hb hr (q_end hK hP hD hS) hS.2.2 dX11_spent_20
    · skip
      have h := f_f c3 h
      refine lv_iload_n hx hb dX11_spent_14 rfl (lv_at hl 3 rfl) ?_
      refine lv_iconst (v := 1) hx hb dX11_spent_15 (by decide) ?_
      refine lv_icmp_le (tgt := 21) hx hb dX11_spent_16 (by decide) (fun c4 => ?_) (fun c4 => ?_)
      · skip
        have h := f_t c4 h
        refine lv_aload_n hx hb dX11_spent_21 rfl (lv_at hl 0 rfl) ?_
        obtain ⟨qq5, hq5⟩ := hg_Ta G Z Y σ0 hr2
        refine va_getN (D := D) (ci := 7) (v := va_rf (((Z.2.2.2 r2 0)).map G.2.1)) (C := RX7) (T := TX7) (N := 4) hx hb hts inU_X7 hown hK hP _ hq5 rfl 0 (by decide) (nF_use 20 hE rfl) (fun _ h9 => h9) rfl dX11_spent_22 ?_
        rcases f_o h with ⟨ho, h⟩ | ⟨r6, ho, h⟩
        · rw [ho]
          refine lv_astoreN (lv' := [(4, .null), (3, .ref (G.2.1 r2)), (0, .ref (G.2.1 0)), (1, .int x1), (2, .int x2)]) hx hb dX11_spent_25 hl (by decide) rfl (fun ls hl => ?_)
          refine lv_iload_n hx hb dX11_spent_27 rfl (lv_at hl 4 rfl) ?_
          refine lv_iconst (v := 1) hx hb dX11_spent_28 (by decide) ?_
          refine lv_icmp_ne (tgt := 44) hx hb dX11_spent_29 (by decide) (fun c7 => ?_) (fun c7 => ?_)
          · skip
            have h := f_f c7 h
            refine lv_aload_n hx hb dX11_spent_44 rfl (lv_at hl 2 rfl) ?_
            refine va_get (D := D) (ci := 11) (v := .ref (G.2.1 12)) (C := RX11) (T := TX11) (N := 16) hx hb hts inU_X11 hown hK hP _ (hg_0 G Z Y σ0) rfl 5 (by decide) (hts _ wd_240) (fun _ h9 => h9) rfl dX11_spent_45 ?_
            refine lv_aloadN hx hb dX11_spent_48 (lv_at hl 0 rfl) ?_
            refine lv_aload_n hx hb dX11_spent_50 rfl (lv_at hl 1 rfl) ?_
            obtain ⟨qq8, hq8⟩ := hg_Ta G Z Y σ0 hr2
            refine va_getN (D := D) (ci := 7) (v := va_rf (((Z.2.2.2 r2 2)).map G.2.1)) (C := RX7) (T := TX7) (N := 4) hx hb hts inU_X7 hown hK hP _ hq8 rfl 2 (by decide) (nF_use 24 hE rfl) (fun _ h9 => h9) rfl dX11_spent_51 ?_
            rcases f_o h with ⟨ho, h⟩ | ⟨r9, ho, h⟩
            · rw [ho]
              refine lv_aload_n hx hb dX11_spent_54 rfl (lv_at hl 1 rfl) ?_
              obtain ⟨qq10, hq10⟩ := hg_Ta G Z Y σ0 hr2
              refine va_getN (D := D) (ci := 7) (v := .int (Z.2.2.1 r2 1)) (C := RX7) (T := TX7) (N := 4) hx hb hts inU_X7 hown hK hP _ hq10 rfl 1 (by decide) (nF_use 22 hE rfl) (fun _ h9 => h9) rfl dX11_spent_55 ?_
              cases h
            · rw [ho]
              obtain ⟨hr9, h⟩ := f_c h
              refine lv_aload_n hx hb dX11_spent_54 rfl (lv_at hl 1 rfl) ?_
              obtain ⟨qq11, hq11⟩ := hg_Ta G Z Y σ0 hr2
              refine va_getN (D := D) (ci := 7) (v := .int (Z.2.2.1 r2 1)) (C := RX7) (T := TX7) (N := 4) hx hb hts inU_X7 hown hK hP _ hq11 rfl 1 (by decide) (nF_use 22 hE rfl) (fun _ h9 => h9) rfl dX11_spent_55 ?_
              cases h
          · skip
            have h := f_t c7 h
            refine lv_aloadN hx hb dX11_spent_32 (lv_at hl 0 rfl) ?_
            cases h
        · rw [ho]
          obtain ⟨hr6, h⟩ := f_c h
          refine lv_astore (lv' := [(4, .ref (G.2.1 r6)), (3, .ref (G.2.1 r2)), (0, .ref (G.2.1 0)), (1, .int x1), (2, .int x2)]) hx hb dX11_spent_25 hl (by decide) rfl (fun ls hl => ?_)
          refine lv_iload_n hx hb dX11_spent_27 rfl (lv_at hl 4 rfl) ?_
          refine lv_iconst (v := 1) hx hb dX11_spent_28 (by decide) ?_
          refine lv_icmp_ne (tgt := 44) hx hb dX11_spent_29 (by decide) (fun c12 => ?_) (fun c12 => ?_)
          · skip
            have h := f_f c12 h
            refine lv_aload_n hx hb dX11_spent_44 rfl (lv_at hl 2 rfl) ?_
            refine va_get (D := D) (ci := 11) (v := .ref (G.2.1 12)) (C := RX11) (T := TX11) (N := 16) hx hb hts inU_X11 hown hK hP _ (hg_0 G Z Y σ0) rfl 5 (by decide) (hts _ wd_240) (fun _ h9 => h9) rfl dX11_spent_45 ?_
            refine lv_aload hx hb dX11_spent_48 (lv_at hl 0 rfl) ?_
            refine lv_aload_n hx hb dX11_spent_50 rfl (lv_at hl 1 rfl) ?_
            obtain ⟨qq13, hq13⟩ := hg_Ta G Z Y σ0 hr2
            refine va_getN (D := D) (ci := 7) (v := va_rf (((Z.2.2.2 r2 2)).map G.2.1)) (C := RX7) (T := TX7) (N := 4) hx hb hts inU_X7 hown hK hP _ hq13 rfl 2 (by decide) (nF_use 24 hE rfl) (fun _ h9 => h9) rfl dX11_spent_51 ?_
            rcases f_o h with ⟨ho, h⟩ | ⟨r14, ho, h⟩
            · rw [ho]
              refine lv_aload_n hx hb dX11_spent_54 rfl (lv_at hl 1 rfl) ?_
              obtain ⟨qq15, hq15⟩ := hg_Ta G Z Y σ0 hr2
              refine va_getN (D := D) (ci := 7) (v := .int (Z.2.2.1 r2 1)) (C := RX7) (T := TX7) (N := 4) hx hb hts inU_X7 hown hK hP _ hq15 rfl 1 (by decide) (nF_use 22 hE rfl) (fun _ h9 => h9) rfl dX11_spent_55 ?_
              cases h
            · rw [ho]
              obtain ⟨hr14, h⟩ := f_c h
              refine lv_aload_n hx hb dX11_spent_54 rfl (lv_at hl 1 rfl) ?_
              obtain ⟨qq16, hq16⟩ := hg_Ta G Z Y σ0 hr2
              refine va_getN (D := D) (ci := 7) (v := .int (Z.2.2.1 r2 1)) (C := RX7) (T := TX7) (N := 4) hx hb hts inU_X7 hown hK hP _ hq16 rfl 1 (by decide) (nF_use 22 hE rfl) (fun _ h9 => h9) rfl dX11_spent_55 ?_
              obtain ⟨q17, hq17, h⟩ := f_b h
              refine cl_V (w := (hW G Z Y σ0)) (w' := (hW G Z Y q17.2)) (rv := none) (bytes := cX0_sit) (maxL := 4) (ret := none) (C := RX0) (As := [.ref (G.2.1 r6), .ref (G.2.1 r14), .int (Z.2.2.1 r2 1)]) (rest := []) (stk := []) ⟨hx, hb, hml, hown, hts⟩ hK hE hA hP hD hS (c_X0_sit l D G Z Y σ0 r6 hr6 r14 hr14 (Z.2.2.1 r2 1) q17 hq17) (cwV 3 hts (gwV wd_959 wd_820 wd_821 wd_6 wd_822) rfl rfl rfl hd_X0_sit ⟨Nat.le_of_ble_eq_true rfl, Nat.le_of_ble_eq_true rfl⟩) (hg_12 G Z Y σ0) rfl rfl rfl hl.1 rfl (Nat.le_of_ble_eq_true rfl) dX11_spent_58 ⟨Nat.zero_le _, Nat.zero_le _⟩ rfl (fun H locs hP hD hS => ?_)
              refine lv_aload_n hx hb dX11_spent_61 rfl (lv_at hl 2 rfl) ?_
              refine va_get (D := D) (ci := 11) (v := .ref (G.2.1 12)) (C := RX11) (T := TX11) (N := 16) hx hb hts inU_X11 hown hK hP _ (hg_0 G Z Y q17.2) rfl 5 (by decide) (hts _ wd_240) (fun _ h9 => h9) rfl dX11_spent_62 ?_
              obtain ⟨q18, hq18, h⟩ := f_b h
              refine cl_V (w := (hW G Z Y q17.2)) (w' := (hW G Z Y q18.2)) (rv := some (.int q18.1)) (bytes := cX0_asksAtEnd) (maxL := 1) (ret := (some .boolean)) (C := RX0) (As := []) (rest := []) (stk := [.int q18.1]) ⟨hx, hb, hml, hown, hts⟩ hK hE hA hP hD hS (c_X0_asksAtEnd l D G Z Y q17.2 F q18 hq18) (cwV 0 hts (gwV wd_960 wd_927 wd_928 wd_6 wd_929) rfl rfl rfl hd_X0_asksAtEnd ⟨Nat.le_of_ble_eq_true rfl, Nat.le_of_ble_eq_true rfl⟩) (hg_12 G Z Y q17.2) rfl rfl rfl hl.1 rfl (Nat.le_of_ble_eq_true rfl) dX11_spent_65 ⟨Nat.zero_le _, Nat.zero_le _⟩ rfl (fun H locs hP hD hS => ?_)
              refine lv_if_eq (tgt := 79) hx hb dX11_spent_68 (by decide) (fun c19 => ?_) (fun c19 => ?_)
              · skip
                have h := f_t c19 h
                refine lv_iconst (v := 0) hx hb dX11_spent_79 (by decide) ?_
                refine lv_istore (lv' := [(5, .int (0 : Int32)), (4, .ref (G.2.1 r6)), (3, .ref (G.2.1 r2)), (0, .ref (G.2.1 0)), (1, .int x1), (2, .int x2)]) hx hb dX11_spent_80 hl (by decide) rfl (fun ls hl => ?_)
                refine lv_iconst (v := 0) hx hb dX11_spent_82 (by decide) ?_
                refine lv_istore (lv' := [(6, .int (0 : Int32)), (5, .int (0 : Int32)), (4, .ref (G.2.1 r6)), (3, .ref (G.2.1 r2)), (0, .ref (G.2.1 0)), (1, .int x1), (2, .int x2)]) hx hb dX11_spent_83 hl (by decide) rfl (fun ls hl => ?_)
                refine W_X11_spent_L85 l D G Z Y σ0 F x1 x2 r6 hr6 res C0 hA F q18.2 (0 : Int32) (0 : Int32) h _ _ _ hP hD hS (lv_sub hl [4, 2, 1, 0] rfl)
              · skip
                have h := f_f c19 h
                refine lv_aload hx hb dX11_spent_71 (lv_at hl 0 rfl) ?_
                obtain ⟨qq26, hq26⟩ := hg_Sa G Z Y q18.2 hr6
                refine va_getN (D := D) (ci := 5) (v := .int (Z.2.2.1 r6 3)) (C := RX4) (T := TX4) (N := 5) hx hb hts inU_X4 hown hK hP _ hq26 rfl 3 (by decide) (nF_use 15 hE rfl) (fun _ h9 => h9) rfl dX11_spent_73 ?_
                refine lv_goto (tgt := 80) hx hb dX11_spent_76 (by decide) ?_
                refine lv_istore (lv' := [(5, .int (Z.2.2.1 r6 3)), (4, .ref (G.2.1 r6)), (3, .ref (G.2.1 r2)), (0, .ref (G.2.1 0)), (1, .int x1), (2, .int x2)]) hx hb dX11_spent_80 hl (by decide) rfl (fun ls hl => ?_)
                refine lv_iconst (v := 0) hx hb dX11_spent_82 (by decide) ?_
                refine lv_istore (lv' := [(6, .int (0 : Int32)), (5, .int (Z.2.2.1 r6 3)), (4, .ref (G.2.1 r6)), (3, .ref (G.2.1 r2)), (0, .ref (G.2.1 0)), (1, .int x1), (2, .int x2)]) hx hb dX11_spent_83 hl (by decide) rfl (fun ls hl => ?_)
                refine W_X11_spent_L85 l D G Z Y σ0 F x1 x2 r6 hr6 res C0 hA F q18.2 (Z.2.2.1 r6 3) (0 : Int32) h _ _ _ hP hD hS (lv_sub hl [4, 2, 1, 0] rfl)
          · skip
            have h := f_t c12 h
            refine lv_aload hx hb dX11_spent_32 (lv_at hl 0 rfl) ?_
            obtain ⟨qq27, hq27⟩ := hg_Sa G Z Y σ0 hr6
            refine va_getN (D := D) (ci := 5) (v := .int (Z.2.2.1 r6 3)) (C := RX4) (T := TX4) (N := 5) hx hb hts inU_X4 hown hK hP _ hq27 rfl 3 (by decide) (nF_use 15 hE rfl) (fun _ h9 => h9) rfl dX11_spent_34 ?_
            refine lv_aload hx hb dX11_spent_37 (lv_at hl 0 rfl) ?_
            obtain ⟨qq28, hq28⟩ := hg_Sa G Z Y σ0 hr6
            refine va_getN (D := D) (ci := 5) (v := .int (Z.2.2.1 r6 2)) (C := RX4) (T := TX4) (N := 5) hx hb hts inU_X4 hown hK hP _ hq28 rfl 2 (by decide) (nF_use 13 hE rfl) (fun _ h9 => h9) rfl dX11_spent_39 ?_
            refine lv_ishl hx hb dX11_spent_42 ?_
            obtain rfl := Option.some.inj h
            exact W.iret (v := ((Z.2.2.1 r6 3) <<< ((Z.2.2.1 r6 2) &&& 31))) hx hb hr (q_end hK hP hD hS) hS.2.2 dX11_spent_43
      · skip
        have h := f_f c4 h
        refine lv_iconst (v := (-1)) hx hb dX11_spent_19 (by decide) ?_
        obtain rfl := Option.some.inj h
        exact W.iret (v := (-1 : Int32)) hx hb hr (q_end hK hP hD hS) hS.2.2 dX11_spent_20
abbrev rm_X11_odds : Room := { frames := 16, cells := 0, slots := 0, locals := 402 }
set_option maxRecDepth 100000 in
set_option maxHeartbeats 8000000 in
theorem c_X11_odds (l : Launch) (D : va_G) (G : hG) (Z : hZ) (Y : va_W) (σ0 : hSt) (F : Nat) (x1 : Int32) (x2 : Int32) (x3 : Int32) (res : (Int32 × hSt)) (h : f_X11_odds F Z σ0 x1 x2 x3 = some res) : CT l yX11_odds cX11_odds 6 (some .int) rm_X11_odds D G 0 0 [.ref (G.2.1 0), .int x1, .int x2, .int x3] (hW G Z Y σ0) (hW G Z Y res.2) (some (.int res.1)) := by
  unfold f_X11_odds at h
  refine CT.mk (cc := cX11_odds) (maxL := 6) (ret := (some .int)) (own := RX11) (plainFor_of_name (by decide)) rfl (Nat.le_of_ble_eq_true rfl) ?_
  intro p e s m args below meth c A ls C0 hnm hA hP hD hl
  obtain ⟨hx, hb, hr, hml, hown, hts, hlocks, hK, hE⟩ := id C0
  have hS : va_S A s.heap s.heap [] := va_S.rf
  have hl : lv_has ls 6 [(0, .ref (G.2.1 0)), (1, .int x1), (2, .int x2), (3, .int x3)] := hl
  refine lv_aload_n hx hb dX11_odds_0 rfl (lv_at hl 0 rfl) ?_
  refine lv_iload_n hx hb dX11_odds_1 rfl (lv_at hl 1 rfl) ?_
  obtain ⟨q1, hq1, h⟩ := f_b h
  refine cl_V (w := (hW G Z Y σ0)) (w' := (hW G Z Y σ0)) (rv := some (va_rf ((q1).map G.2.1))) (bytes := cX11_talkAt) (maxL := 2) (ret := (some (.object "LiarHall$Talk"))) (C := RX11) (As := [.int x1]) (rest := []) (stk := [va_rf ((q1).map G.2.1)]) ⟨hx, hb, hml, hown, hts⟩ hK hE hA hP hD hS (c_X11_talkAt l D G Z Y σ0 x1 q1 hq1) (cwV 1 hts (gwV wd_803 wd_805 wp_23 wd_1 wd_806) rfl rfl rfl hd_X11_talkAt ⟨Nat.le_of_ble_eq_true rfl, Nat.le_of_ble_eq_true rfl⟩) (hg_0 G Z Y σ0) rfl rfl rfl hl.1 rfl (Nat.le_of_ble_eq_true rfl) dX11_odds_2 ⟨Nat.zero_le _, Nat.zero_le _⟩ rfl (fun H locs hP hD hS => ?_)
  rcases f_o h with ⟨ho, h⟩ | ⟨r2, ho, h⟩
  · rw [ho]
    refine lv_astoreN (lv' := [(4, .null), (0, .ref (G.2.1 0)), (1, .int x1), (2, .int x2), (3, .int x3)]) hx hb dX11_odds_5 hl (by decide) rfl (fun ls hl => ?_)
    refine lv_aloadN hx hb dX11_odds_7 (lv_at hl 0 rfl) ?_
    refine lv_ifnullN (tgt := 28) hx hb dX11_odds_9 (by decide) ?_
    refine lv_iconst (v := (-1)) hx hb dX11_odds_28 (by decide) ?_
    obtain rfl := Option.some.inj h
    exact W.iret (v := (-1 : Int32)) hx hb hr (q_end hK hP hD hS) hS.2.2 dX11_odds_29
  · rw [ho]
    obtain ⟨hr2, h⟩ := f_c h
    refine lv_astore (lv' := [(4, .ref (G.2.1 r2)), (0, .ref (G.2.1 0)), (1, .int x1), (2, .int x2), (3, .int x3)]) hx hb dX11_odds_5 hl (by decide) rfl (fun ls hl => ?_)
    refine lv_aload hx hb dX11_odds_7 (lv_at hl 0 rfl) ?_
    refine lv_ifnull hx hb dX11_odds_9 ?_
    refine lv_iload_n hx hb dX11_odds_12 rfl (lv_at hl 3 rfl) ?_
    obtain ⟨q3, hq3, h⟩ := f_b h
    refine cl_S (w := (hW G Z Y σ0)) (w' := (hW G Z Y σ0)) (rv := some (.int q3)) (bytes := cX11_isOwnNumber) (maxL := 1) (ret := (some .boolean)) (As := [.int x2]) (rest := []) (stk := [.int q3]) ⟨hx, hb, hml, hown, hts⟩ hK hE hA hP hD hS (c_X11_isOwnNumber l D G (hW G Z Y σ0) x2 q3 hq3) (mkS hts wd_807 wd_808 wd_1 wd_809 rfl rfl hd_X11_isOwnNumber ⟨Nat.le_of_ble_eq_true rfl, Nat.le_of_ble_eq_true rfl⟩) rfl hl.1 rfl (Nat.le_of_ble_eq_true rfl) dX11_odds_13 ⟨Nat.zero_le _, Nat.zero_le _⟩ rfl (fun H locs hP hD hS => ?_)
    refine lv_if_eq (tgt := 28) hx hb dX11_odds_16 (by decide) (fun c4 => ?_) (fun c4 => ?_)
    · skip
      have h := f_t c4 h
      refine lv_iconst (v := (-1)) hx hb dX11_odds_28 (by decide) ?_
      obtain rfl := Option.some.inj h
      exact W.iret (v := (-1 : Int32)) hx hb hr (q_end hK hP hD hS) hS.2.2 dX11_odds_29
    · skip
      have h := f_f c4 h
      refine lv_iload_n hx hb dX11_odds_19 rfl (lv_at hl 4 rfl) ?_
      refine lv_if_lt (tgt := 28) hx hb dX11_odds_20 (by decide) (fun c5 => ?_) (fun c5 => ?_)
      · skip
        have h := f_t c5 h
        refine lv_iconst (v := (-1)) hx hb dX11_odds_28 (by decide) ?_
        obtain rfl := Option.some.inj h
        exact W.iret (v := (-1 : Int32)) hx hb hr (q_end hK hP hD hS) hS.2.2 dX11_odds_29
      · skip
        have h := f_f c5 h
        refine lv_iload_n hx hb dX11_odds_23 rfl (lv_at hl 4 rfl) ?_
        refine lv_iconst (v := 1) hx hb dX11_odds_24 (by decide) ?_
        refine lv_icmp_le (tgt := 30) hx hb dX11_odds_25 (by decide) (fun c6 => ?_) (fun c6 => ?_)
        · skip
          have h := f_t c6 h
          refine lv_aload_n hx hb dX11_odds_30 rfl (lv_at hl 1 rfl) ?_
          refine va_get (D := D) (ci := 11) (v := .ref (G.2.1 12)) (C := RX11) (T := TX11) (N := 16) hx hb hts inU_X11 hown hK hP _ (hg_0 G Z Y σ0) rfl 5 (by decide) (hts _ wd_240) (fun _ h9 => h9) rfl dX11_odds_31 ?_
          refine lv_aload hx hb dX11_odds_34 (lv_at hl 0 rfl) ?_
          obtain ⟨qq7, hq7⟩ := hg_Ta G Z Y σ0 hr2
          refine va_getN (D := D) (ci := 7) (v := va_rf (((Z.2.2.2 r2 0)).map G.2.1)) (C := RX7) (T := TX7) (N := 4) hx hb hts inU_X7 hown hK hP _ hq7 rfl 0 (by decide) (nF_use 20 hE rfl) (fun _ h9 => h9) rfl dX11_odds_36 ?_
          rcases f_o h with ⟨ho, h⟩ | ⟨r8, ho, h⟩
          · rw [ho]
            refine lv_aload hx hb dX11_odds_39 (lv_at hl 0 rfl) ?_
            obtain ⟨qq9, hq9⟩ := hg_Ta G Z Y σ0 hr2
            refine va_getN (D := D) (ci := 7) (v := va_rf (((Z.2.2.2 r2 2)).map G.2.1)) (C := RX7) (T := TX7) (N := 4) hx hb hts inU_X7 hown hK hP _ hq9 rfl 2 (by decide) (nF_use 24 hE rfl) (fun _ h9 => h9) rfl dX11_odds_41 ?_
            rcases f_o h with ⟨ho, h⟩ | ⟨r10, ho, h⟩
            · rw [ho]
              refine lv_aload hx hb dX11_odds_44 (lv_at hl 0 rfl) ?_
              obtain ⟨qq11, hq11⟩ := hg_Ta G Z Y σ0 hr2
              refine va_getN (D := D) (ci := 7) (v := .int (Z.2.2.1 r2 1)) (C := RX7) (T := TX7) (N := 4) hx hb hts inU_X7 hown hK hP _ hq11 rfl 1 (by decide) (nF_use 22 hE rfl) (fun _ h9 => h9) rfl dX11_odds_46 ?_
              cases h
            · rw [ho]
              obtain ⟨hr10, h⟩ := f_c h
              refine lv_aload hx hb dX11_odds_44 (lv_at hl 0 rfl) ?_
              obtain ⟨qq12, hq12⟩ := hg_Ta G Z Y σ0 hr2
              refine va_getN (D := D) (ci := 7) (v := .int (Z.2.2.1 r2 1)) (C := RX7) (T := TX7) (N := 4) hx hb hts inU_X7 hown hK hP _ hq12 rfl 1 (by decide) (nF_use 22 hE rfl) (fun _ h9 => h9) rfl dX11_odds_46 ?_
              cases h
          · rw [ho]
            obtain ⟨hr8, h⟩ := f_c h
            refine lv_aload hx hb dX11_odds_39 (lv_at hl 0 rfl) ?_
            obtain ⟨qq13, hq13⟩ := hg_Ta G Z Y σ0 hr2
            refine va_getN (D := D) (ci := 7) (v := va_rf (((Z.2.2.2 r2 2)).map G.2.1)) (C := RX7) (T := TX7) (N := 4) hx hb hts inU_X7 hown hK hP _ hq13 rfl 2 (by decide) (nF_use 24 hE rfl) (fun _ h9 => h9) rfl dX11_odds_41 ?_
            rcases f_o h with ⟨ho, h⟩ | ⟨r14, ho, h⟩
            · rw [ho]
              refine lv_aload hx hb dX11_odds_44 (lv_at hl 0 rfl) ?_
              obtain ⟨qq15, hq15⟩ := hg_Ta G Z Y σ0 hr2
              refine va_getN (D := D) (ci := 7) (v := .int (Z.2.2.1 r2 1)) (C := RX7) (T := TX7) (N := 4) hx hb hts inU_X7 hown hK hP _ hq15 rfl 1 (by decide) (nF_use 22 hE rfl) (fun _ h9 => h9) rfl dX11_odds_46 ?_
              cases h
            · rw [ho]
              obtain ⟨hr14, h⟩ := f_c h
              refine lv_aload hx hb dX11_odds_44 (lv_at hl 0 rfl) ?_
              obtain ⟨qq16, hq16⟩ := hg_Ta G Z Y σ0 hr2
              refine va_getN (D := D) (ci := 7) (v := .int (Z.2.2.1 r2 1)) (C := RX7) (T := TX7) (N := 4) hx hb hts inU_X7 hown hK hP _ hq16 rfl 1 (by decide) (nF_use 22 hE rfl) (fun _ h9 => h9) rfl dX11_odds_46 ?_
              obtain ⟨q17, hq17, h⟩ := f_b h
              refine cl_V (w := (hW G Z Y σ0)) (w' := (hW G Z Y q17.2)) (rv := none) (bytes := cX0_sit) (maxL := 4) (ret := none) (C := RX0) (As := [.ref (G.2.1 r8), .ref (G.2.1 r14), .int (Z.2.2.1 r2 1)]) (rest := []) (stk := []) ⟨hx, hb, hml, hown, hts⟩ hK hE hA hP hD hS (c_X0_sit l D G Z Y σ0 r8 hr8 r14 hr14 (Z.2.2.1 r2 1) q17 hq17) (cwV 3 hts (gwV wd_959 wd_820 wd_821 wd_6 wd_822) rfl rfl rfl hd_X0_sit ⟨Nat.le_of_ble_eq_true rfl, Nat.le_of_ble_eq_true rfl⟩) (hg_12 G Z Y σ0) rfl rfl rfl hl.1 rfl (Nat.le_of_ble_eq_true rfl) dX11_odds_49 ⟨Nat.zero_le _, Nat.zero_le _⟩ rfl (fun H locs hP hD hS => ?_)
              refine lv_aload_n hx hb dX11_odds_52 rfl (lv_at hl 1 rfl) ?_
              refine va_get (D := D) (ci := 11) (v := .ref (G.2.1 12)) (C := RX11) (T := TX11) (N := 16) hx hb hts inU_X11 hown hK hP _ (hg_0 G Z Y q17.2) rfl 5 (by decide) (hts _ wd_240) (fun _ h9 => h9) rfl dX11_odds_53 ?_
              obtain ⟨q18, hq18, h⟩ := f_b h
              refine cl_V (w := (hW G Z Y q17.2)) (w' := (hW G Z Y q18.2)) (rv := some (.int q18.1)) (bytes := cX0_allRows) (maxL := 4) (ret := (some .int)) (C := RX0) (As := []) (rest := []) (stk := [.int q18.1]) ⟨hx, hb, hml, hown, hts⟩ hK hE hA hP hD hS (c_X0_allRows l D G Z Y q17.2 F q18 hq18) (cwV 0 hts (gwV wd_966 wd_967 wd_968 wd_6 wd_969) rfl rfl rfl hd_X0_allRows ⟨Nat.le_of_ble_eq_true rfl, Nat.le_of_ble_eq_true rfl⟩) (hg_12 G Z Y q17.2) rfl rfl rfl hl.1 rfl (Nat.le_of_ble_eq_true rfl) dX11_odds_56 ⟨Nat.zero_le _, Nat.zero_le _⟩ rfl (fun H locs hP hD hS => ?_)
              refine lv_istore (lv' := [(5, .int q18.1), (4, .ref (G.2.1 r2)), (0, .ref (G.2.1 0)), (1, .int x1), (2, .int x2), (3, .int x3)]) hx hb dX11_odds_59 hl (by decide) rfl (fun ls hl => ?_)
              refine lv_iload hx hb dX11_odds_61 (lv_at hl 0 rfl) ?_
              refine lv_iconst (v := (-1)) hx hb dX11_odds_63 (by decide) ?_
              refine lv_icmp_eq (tgt := 72) hx hb dX11_odds_64 (by decide) (fun c19 => ?_) (fun c19 => ?_)
              · skip
                have h := f_t c19 h
                refine lv_iload hx hb dX11_odds_72 (lv_at hl 0 rfl) ?_
                obtain rfl := Option.some.inj h
                exact W.iret (v := q18.1) hx hb hr (q_end hK hP hD hS) hS.2.2 dX11_odds_74
              · skip
                have h := f_f c19 h
                refine lv_iload_n hx hb dX11_odds_67 rfl (lv_at hl 5 rfl) ?_
                refine lv_iconst (v := 1) hx hb dX11_odds_68 (by decide) ?_
                refine lv_icmp_ne (tgt := 75) hx hb dX11_odds_69 (by decide) (fun c20 => ?_) (fun c20 => ?_)
                · skip
                  have h := f_f c20 h
                  refine lv_aload_n hx hb dX11_odds_75 rfl (lv_at hl 2 rfl) ?_
                  refine va_get (D := D) (ci := 11) (v := .ref (G.2.1 15)) (C := RX11) (T := TX11) (N := 16) hx hb hts inU_X11 hown hK hP _ (hg_0 G Z Y q18.2) rfl 7 (by decide) (hts _ wd_242) (fun _ h9 => h9) rfl dX11_odds_76 ?_
                  refine lv_aload hx hb dX11_odds_79 (lv_at hl 1 rfl) ?_
                  refine lv_iload_n hx hb dX11_odds_81 rfl (lv_at hl 4 rfl) ?_
                  obtain ⟨q21, hq21, h⟩ := f_b h
                  refine cl_V (w := (hW G Z Y q18.2)) (w' := (hW G Z Y q21.2)) (rv := none) (bytes := cX1_open) (maxL := 5) (ret := none) (C := RX1) (As := [.ref (G.2.1 r2), .int x2]) (rest := []) (stk := []) ⟨hx, hb, hml, hown, hts⟩ hK hE hA hP hD hS (c_X1_open l D G Z Y q18.2 F 15 (rfl : isCo 15 = true) r2 hr2 x2 q21 hq21) (cwV 2 hts (gwV wd_972 wd_816 wd_817 wd_7 wd_818) rfl rfl rfl hd_X1_open ⟨Nat.le_of_ble_eq_true rfl, Nat.le_of_ble_eq_true rfl⟩) (hg_15 G Z Y q18.2) rfl rfl rfl hl.1 rfl (Nat.le_of_ble_eq_true rfl) dX11_odds_82 ⟨Nat.zero_le _, Nat.zero_le _⟩ rfl (fun H locs hP hD hS => ?_)
                  refine lv_aload_n hx hb dX11_odds_85 rfl (lv_at hl 2 rfl) ?_
                  refine va_get (D := D) (ci := 11) (v := .ref (G.2.1 15)) (C := RX11) (T := TX11) (N := 16) hx hb hts inU_X11 hown hK hP _ (hg_0 G Z Y q21.2) rfl 7 (by decide) (hts _ wd_242) (fun _ h9 => h9) rfl dX11_odds_86 ?_
                  refine lv_aload hx hb dX11_odds_89 (lv_at hl 1 rfl) ?_
                  refine lv_iconst (v := 0) hx hb dX11_odds_91 (by decide) ?_
                  obtain ⟨q22, hq22, h⟩ := f_b h
                  refine cl_VN (w := (hW G Z Y q21.2)) (w' := (hW G Z Y q22.2)) (rv := some (.int q22.1)) (bytes := cX1_believedFrom) (maxL := 6) (ret := (some .int)) (C := RX1) (As := [.ref (G.2.1 r2), .int (0 : Int32)]) (rest := []) (stk := [.int q22.1]) ⟨hx, hb, hml, hown, hts⟩ hK hE hA hP hD hS (c_X1_believedFrom l D G Z Y q21.2 F 15 (rfl : isCo 15 = true) r2 hr2 (0 : Int32) q22 hq22) (mkVN hts (hE.2.2.2.2.2.1 _ (List.mem_of_getElem? (i := 2) rfl)) wd_975 wp_38 wd_7 wd_976 rfl rfl hd_X1_believedFrom ⟨Nat.le_of_ble_eq_true rfl, Nat.le_of_ble_eq_true rfl⟩) (hg_15 G Z Y q21.2) rfl rfl rfl hl.1 rfl (Nat.le_of_ble_eq_true rfl) dX11_odds_92 ⟨Nat.zero_le _, Nat.zero_le _⟩ rfl (fun H locs hP hD hS => ?_)
                  obtain rfl := Option.some.inj h
                  exact W.iret (v := q22.1) hx hb hr (q_end hK hP hD hS) hS.2.2 dX11_odds_95
                · skip
                  have h := f_t c20 h
                  refine lv_iload hx hb dX11_odds_72 (lv_at hl 0 rfl) ?_
                  obtain rfl := Option.some.inj h
                  exact W.iret (v := q18.1) hx hb hr (q_end hK hP hD hS) hS.2.2 dX11_odds_74
        · skip
          have h := f_f c6 h
          refine lv_iconst (v := (-1)) hx hb dX11_odds_28 (by decide) ?_
          obtain rfl := Option.some.inj h
          exact W.iret (v := (-1 : Int32)) hx hb hr (q_end hK hP hD hS) hS.2.2 dX11_odds_29
abbrev rm_X11_best : Room := { frames := 8, cells := 0, slots := 0, locals := 201 }
set_option maxRecDepth 100000 in
set_option maxHeartbeats 8000000 in
theorem c_X11_best (l : Launch) (D : va_G) (G : hG) (Z : hZ) (Y : va_W) (σ0 : hSt) (F : Nat) (x1 : Int32) (x2 : Int32) (res : (Int64 × hSt)) (h : f_X11_best F Z σ0 x1 x2 = some res) : CT l yX11_best cX11_best 4 (some .long) rm_X11_best D G 0 0 [.ref (G.2.1 0), .int x1, .int x2] (hW G Z Y σ0) (hW G Z Y res.2) (some (.long res.1)) := by
  unfold f_X11_best at h
  refine CT.mk (cc := cX11_best) (maxL := 4) (ret := (some .long)) (own := RX11) (plainFor_of_name (by decide)) rfl (Nat.le_of_ble_eq_true rfl) ?_
  intro p e s m args below meth c A ls C0 hnm hA hP hD hl
  obtain ⟨hx, hb, hr, hml, hown, hts, hlocks, hK, hE⟩ := id C0
  have hS : va_S A s.heap s.heap [] := va_S.rf
  have hl : lv_has ls 4 [(0, .ref (G.2.1 0)), (1, .int x1), (2, .int x2)] := hl
  refine lv_aload_n hx hb dX11_best_0 rfl (lv_at hl 0 rfl) ?_
  refine lv_iload_n hx hb dX11_best_1 rfl (lv_at hl 1 rfl) ?_
  obtain ⟨q1, hq1, h⟩ := f_b h
  refine cl_V (w := (hW G Z Y σ0)) (w' := (hW G Z Y σ0)) (rv := some (va_rf ((q1).map G.2.1))) (bytes := cX11_talkAt) (maxL := 2) (ret := (some (.object "LiarHall$Talk"))) (C := RX11) (As := [.int x1]) (rest := []) (stk := [va_rf ((q1).map G.2.1)]) ⟨hx, hb, hml, hown, hts⟩ hK hE hA hP hD hS (c_X11_talkAt l D G Z Y σ0 x1 q1 hq1) (cwV 1 hts (gwV wd_803 wd_805 wp_23 wd_1 wd_806) rfl rfl rfl hd_X11_talkAt ⟨Nat.le_of_ble_eq_true rfl, Nat.le_of_ble_eq_true rfl⟩) (hg_0 G Z Y σ0) rfl rfl rfl hl.1 rfl (Nat.le_of_ble_eq_true rfl) dX11_best_2 ⟨Nat.zero_le _, Nat.zero_le _⟩ rfl (fun H locs hP hD hS => ?_)
  rcases f_o h with ⟨ho, h⟩ | ⟨r2, ho, h⟩
  · rw [ho]
    refine lv_astore_nN (lv' := [(3, .null), (0, .ref (G.2.1 0)), (1, .int x1), (2, .int x2)]) hx hb dX11_best_5 rfl hl (by decide) rfl (fun ls hl => ?_)
    refine lv_aload_nN hx hb dX11_best_6 rfl (lv_at hl 0 rfl) ?_
    refine lv_ifnonnullN hx hb dX11_best_7 ?_
    refine lv_ldc2 (v := (-1)) hx hb hown (hts _ wd_982) dX11_best_10 ?_
    obtain rfl := Option.some.inj h
    exact W.lret (v := (-1 : Int64)) hx hb hr (q_end hK hP hD hS) hS.2.2 dX11_best_13
  · rw [ho]
    obtain ⟨hr2, h⟩ := f_c h
    refine lv_astore_n (lv' := [(3, .ref (G.2.1 r2)), (0, .ref (G.2.1 0)), (1, .int x1), (2, .int x2)]) hx hb dX11_best_5 rfl hl (by decide) rfl (fun ls hl => ?_)
    refine lv_aload_n hx hb dX11_best_6 rfl (lv_at hl 0 rfl) ?_
    refine lv_ifnonnull (tgt := 14) hx hb dX11_best_7 (by decide) ?_
    refine lv_aload_n hx hb dX11_best_14 rfl (lv_at hl 1 rfl) ?_
    refine va_get (D := D) (ci := 11) (v := .ref (G.2.1 12)) (C := RX11) (T := TX11) (N := 16) hx hb hts inU_X11 hown hK hP _ (hg_0 G Z Y σ0) rfl 5 (by decide) (hts _ wd_240) (fun _ h9 => h9) rfl dX11_best_15 ?_
    refine lv_aload_n hx hb dX11_best_18 rfl (lv_at hl 0 rfl) ?_
    obtain ⟨qq3, hq3⟩ := hg_Ta G Z Y σ0 hr2
    refine va_getN (D := D) (ci := 7) (v := va_rf (((Z.2.2.2 r2 0)).map G.2.1)) (C := RX7) (T := TX7) (N := 4) hx hb hts inU_X7 hown hK hP _ hq3 rfl 0 (by decide) (nF_use 20 hE rfl) (fun _ h9 => h9) rfl dX11_best_19 ?_
    rcases f_o h with ⟨ho, h⟩ | ⟨r4, ho, h⟩
    · rw [ho]
      refine lv_aload_n hx hb dX11_best_22 rfl (lv_at hl 0 rfl) ?_
      obtain ⟨qq5, hq5⟩ := hg_Ta G Z Y σ0 hr2
      refine va_getN (D := D) (ci := 7) (v := va_rf (((Z.2.2.2 r2 2)).map G.2.1)) (C := RX7) (T := TX7) (N := 4) hx hb hts inU_X7 hown hK hP _ hq5 rfl 2 (by decide) (nF_use 24 hE rfl) (fun _ h9 => h9) rfl dX11_best_23 ?_
      rcases f_o h with ⟨ho, h⟩ | ⟨r6, ho, h⟩
      · rw [ho]
        refine lv_aload_n hx hb dX11_best_26 rfl (lv_at hl 0 rfl) ?_
        obtain ⟨qq7, hq7⟩ := hg_Ta G Z Y σ0 hr2
        refine va_getN (D := D) (ci := 7) (v := .int (Z.2.2.1 r2 1)) (C := RX7) (T := TX7) (N := 4) hx hb hts inU_X7 hown hK hP _ hq7 rfl 1 (by decide) (nF_use 22 hE rfl) (fun _ h9 => h9) rfl dX11_best_27 ?_
        cases h
      · rw [ho]
        obtain ⟨hr6, h⟩ := f_c h
        refine lv_aload_n hx hb dX11_best_26 rfl (lv_at hl 0 rfl) ?_
        obtain ⟨qq8, hq8⟩ := hg_Ta G Z Y σ0 hr2
        refine va_getN (D := D) (ci := 7) (v := .int (Z.2.2.1 r2 1)) (C := RX7) (T := TX7) (N := 4) hx hb hts inU_X7 hown hK hP _ hq8 rfl 1 (by decide) (nF_use 22 hE rfl) (fun _ h9 => h9) rfl dX11_best_27 ?_
        cases h
    · rw [ho]
      obtain ⟨hr4, h⟩ := f_c h
      refine lv_aload_n hx hb dX11_best_22 rfl (lv_at hl 0 rfl) ?_
      obtain ⟨qq9, hq9⟩ := hg_Ta G Z Y σ0 hr2
      refine va_getN (D := D) (ci := 7) (v := va_rf (((Z.2.2.2 r2 2)).map G.2.1)) (C := RX7) (T := TX7) (N := 4) hx hb hts inU_X7 hown hK hP _ hq9 rfl 2 (by decide) (nF_use 24 hE rfl) (fun _ h9 => h9) rfl dX11_best_23 ?_
      rcases f_o h with ⟨ho, h⟩ | ⟨r10, ho, h⟩
      · rw [ho]
        refine lv_aload_n hx hb dX11_best_26 rfl (lv_at hl 0 rfl) ?_
        obtain ⟨qq11, hq11⟩ := hg_Ta G Z Y σ0 hr2
        refine va_getN (D := D) (ci := 7) (v := .int (Z.2.2.1 r2 1)) (C := RX7) (T := TX7) (N := 4) hx hb hts inU_X7 hown hK hP _ hq11 rfl 1 (by decide) (nF_use 22 hE rfl) (fun _ h9 => h9) rfl dX11_best_27 ?_
        cases h
      · rw [ho]
        obtain ⟨hr10, h⟩ := f_c h
        refine lv_aload_n hx hb dX11_best_26 rfl (lv_at hl 0 rfl) ?_
        obtain ⟨qq12, hq12⟩ := hg_Ta G Z Y σ0 hr2
        refine va_getN (D := D) (ci := 7) (v := .int (Z.2.2.1 r2 1)) (C := RX7) (T := TX7) (N := 4) hx hb hts inU_X7 hown hK hP _ hq12 rfl 1 (by decide) (nF_use 22 hE rfl) (fun _ h9 => h9) rfl dX11_best_27 ?_
        obtain ⟨q13, hq13, h⟩ := f_b h
        refine cl_V (w := (hW G Z Y σ0)) (w' := (hW G Z Y q13.2)) (rv := none) (bytes := cX0_sit) (maxL := 4) (ret := none) (C := RX0) (As := [.ref (G.2.1 r4), .ref (G.2.1 r10), .int (Z.2.2.1 r2 1)]) (rest := []) (stk := []) ⟨hx, hb, hml, hown, hts⟩ hK hE hA hP hD hS (c_X0_sit l D G Z Y σ0 r4 hr4 r10 hr10 (Z.2.2.1 r2 1) q13 hq13) (cwV 3 hts (gwV wd_959 wd_820 wd_821 wd_6 wd_822) rfl rfl rfl hd_X0_sit ⟨Nat.le_of_ble_eq_true rfl, Nat.le_of_ble_eq_true rfl⟩) (hg_12 G Z Y σ0) rfl rfl rfl hl.1 rfl (Nat.le_of_ble_eq_true rfl) dX11_best_30 ⟨Nat.zero_le _, Nat.zero_le _⟩ rfl (fun H locs hP hD hS => ?_)
        refine lv_aload_n hx hb dX11_best_33 rfl (lv_at hl 1 rfl) ?_
        refine va_get (D := D) (ci := 11) (v := .ref (G.2.1 12)) (C := RX11) (T := TX11) (N := 16) hx hb hts inU_X11 hown hK hP _ (hg_0 G Z Y q13.2) rfl 5 (by decide) (hts _ wd_240) (fun _ h9 => h9) rfl dX11_best_34 ?_
        obtain ⟨q14, hq14, h⟩ := f_b h
        refine cl_V (w := (hW G Z Y q13.2)) (w' := (hW G Z Y q14.2)) (rv := some (.int q14.1)) (bytes := cX0_tellsBest) (maxL := 7) (ret := (some .boolean)) (C := RX0) (As := []) (rest := []) (stk := [.int q14.1]) ⟨hx, hb, hml, hown, hts⟩ hK hE hA hP hD hS (c_X0_tellsBest l D G Z Y q13.2 F q14 hq14) (cwV 0 hts (gwV wd_983 wd_984 wd_985 wd_6 wd_986) rfl rfl rfl hd_X0_tellsBest ⟨Nat.le_of_ble_eq_true rfl, Nat.le_of_ble_eq_true rfl⟩) (hg_12 G Z Y q13.2) rfl rfl rfl hl.1 rfl (Nat.le_of_ble_eq_true rfl) dX11_best_37 ⟨Nat.zero_le _, Nat.zero_le _⟩ rfl (fun H locs hP hD hS => ?_)
        refine lv_if_eq (tgt := 54) hx hb dX11_best_40 (by decide) (fun c15 => ?_) (fun c15 => ?_)
        · skip
          have h := f_t c15 h
          refine lv_ldc2 (v := (-1)) hx hb hown (hts _ wd_982) dX11_best_54 ?_
          obtain rfl := Option.some.inj h
          exact W.lret (v := (-1 : Int64)) hx hb hr (q_end hK hP hD hS) hS.2.2 dX11_best_57
        · skip
          have h := f_f c15 h
          refine lv_aload_n hx hb dX11_best_43 rfl (lv_at hl 1 rfl) ?_
          refine va_get (D := D) (ci := 11) (v := .ref (G.2.1 12)) (C := RX11) (T := TX11) (N := 16) hx hb hts inU_X11 hown hK hP _ (hg_0 G Z Y q14.2) rfl 5 (by decide) (hts _ wd_240) (fun _ h9 => h9) rfl dX11_best_44 ?_
          refine lv_iload_n hx hb dX11_best_47 rfl (lv_at hl 3 rfl) ?_
          obtain ⟨q16, hq16, h⟩ := f_b h
          refine cl_V (w := (hW G Z Y q14.2)) (w' := (hW G Z Y q14.2)) (rv := some (.long q16)) (bytes := cX0_fraction) (maxL := 2) (ret := (some .long)) (C := RX0) (As := [.int x2]) (rest := []) (stk := [.long q16]) ⟨hx, hb, hml, hown, hts⟩ hK hE hA hP hD hS (c_X0_fraction l D G Z Y q14.2 x2 q16 hq16) (cwV 1 hts (gwV wd_1000 wd_1001 wd_1002 wd_6 wd_1003) rfl rfl rfl hd_X0_fraction ⟨Nat.le_of_ble_eq_true rfl, Nat.le_of_ble_eq_true rfl⟩) (hg_12 G Z Y q14.2) rfl rfl rfl hl.1 rfl (Nat.le_of_ble_eq_true rfl) dX11_best_48 ⟨Nat.zero_le _, Nat.zero_le _⟩ rfl (fun H locs hP hD hS => ?_)
          refine lv_goto (tgt := 57) hx hb dX11_best_51 (by decide) ?_
          obtain rfl := Option.some.inj h
          exact W.lret (v := q16) hx hb hr (q_end hK hP hD hS) hS.2.2 dX11_best_57
abbrev rm_X11_bound : Room := { frames := 7, cells := 0, slots := 0, locals := 180 }
set_option maxRecDepth 100000 in
set_option maxHeartbeats 8000000 in
theorem c_X11_bound (l : Launch) (D : va_G) (G : hG) (Z : hZ) (Y : va_W) (σ0 : hSt) (F : Nat) (x1 : Int32) (x2 : Int32) (res : (Int64 × hSt)) (h : f_X11_bound F Z σ0 x1 x2 = some res) : CT l yX11_bound cX11_bound 4 (some .long) rm_X11_bound D G 0 0 [.ref (G.2.1 0), .int x1, .int x2] (hW G Z Y σ0) (hW G Z Y res.2) (some (.long res.1)) := by
  unfold f_X11_bound at h
  refine CT.mk (cc := cX11_bound) (maxL := 4) (ret := (some .long)) (own := RX11) (plainFor_of_name (by decide)) rfl (Nat.le_of_ble_eq_true rfl) ?_
  intro p e s m args below meth c A ls C0 hnm hA hP hD hl
  obtain ⟨hx, hb, hr, hml, hown, hts, hlocks, hK, hE⟩ := id C0
  have hS : va_S A s.heap s.heap [] := va_S.rf
  have hl : lv_has ls 4 [(0, .ref (G.2.1 0)), (1, .int x1), (2, .int x2)] := hl
  refine lv_aload_n hx hb dX11_bound_0 rfl (lv_at hl 0 rfl) ?_
  refine lv_iload_n hx hb dX11_bound_1 rfl (lv_at hl 1 rfl) ?_
  obtain ⟨q1, hq1, h⟩ := f_b h
  refine cl_V (w := (hW G Z Y σ0)) (w' := (hW G Z Y σ0)) (rv := some (va_rf ((q1).map G.2.1))) (bytes := cX11_talkAt) (maxL := 2) (ret := (some (.object "LiarHall$Talk"))) (C := RX11) (As := [.int x1]) (rest := []) (stk := [va_rf ((q1).map G.2.1)]) ⟨hx, hb, hml, hown, hts⟩ hK hE hA hP hD hS (c_X11_talkAt l D G Z Y σ0 x1 q1 hq1) (cwV 1 hts (gwV wd_803 wd_805 wp_23 wd_1 wd_806) rfl rfl rfl hd_X11_talkAt ⟨Nat.le_of_ble_eq_true rfl, Nat.le_of_ble_eq_true rfl⟩) (hg_0 G Z Y σ0) rfl rfl rfl hl.1 rfl (Nat.le_of_ble_eq_true rfl) dX11_bound_2 ⟨Nat.zero_le _, Nat.zero_le _⟩ rfl (fun H locs hP hD hS => ?_)
  rcases f_o h with ⟨ho, h⟩ | ⟨r2, ho, h⟩
  · rw [ho]
    refine lv_astore_nN (lv' := [(3, .null), (0, .ref (G.2.1 0)), (1, .int x1), (2, .int x2)]) hx hb dX11_bound_5 rfl hl (by decide) rfl (fun ls hl => ?_)
    refine lv_aload_nN hx hb dX11_bound_6 rfl (lv_at hl 0 rfl) ?_
    refine lv_ifnonnullN hx hb dX11_bound_7 ?_
    refine lv_ldc2 (v := (-1)) hx hb hown (hts _ wd_982) dX11_bound_10 ?_
    obtain rfl := Option.some.inj h
    exact W.lret (v := (-1 : Int64)) hx hb hr (q_end hK hP hD hS) hS.2.2 dX11_bound_13
  · rw [ho]
    obtain ⟨hr2, h⟩ := f_c h
    refine lv_astore_n (lv' := [(3, .ref (G.2.1 r2)), (0, .ref (G.2.1 0)), (1, .int x1), (2, .int x2)]) hx hb dX11_bound_5 rfl hl (by decide) rfl (fun ls hl => ?_)
    refine lv_aload_n hx hb dX11_bound_6 rfl (lv_at hl 0 rfl) ?_
    refine lv_ifnonnull (tgt := 14) hx hb dX11_bound_7 (by decide) ?_
    refine lv_aload_n hx hb dX11_bound_14 rfl (lv_at hl 1 rfl) ?_
    refine va_get (D := D) (ci := 11) (v := .ref (G.2.1 12)) (C := RX11) (T := TX11) (N := 16) hx hb hts inU_X11 hown hK hP _ (hg_0 G Z Y σ0) rfl 5 (by decide) (hts _ wd_240) (fun _ h9 => h9) rfl dX11_bound_15 ?_
    refine lv_aload_n hx hb dX11_bound_18 rfl (lv_at hl 0 rfl) ?_
    obtain ⟨qq3, hq3⟩ := hg_Ta G Z Y σ0 hr2
    refine va_getN (D := D) (ci := 7) (v := va_rf (((Z.2.2.2 r2 0)).map G.2.1)) (C := RX7) (T := TX7) (N := 4) hx hb hts inU_X7 hown hK hP _ hq3 rfl 0 (by decide) (nF_use 20 hE rfl) (fun _ h9 => h9) rfl dX11_bound_19 ?_
    rcases f_o h with ⟨ho, h⟩ | ⟨r4, ho, h⟩
    · rw [ho]
      refine lv_aload_n hx hb dX11_bound_22 rfl (lv_at hl 0 rfl) ?_
      obtain ⟨qq5, hq5⟩ := hg_Ta G Z Y σ0 hr2
      refine va_getN (D := D) (ci := 7) (v := va_rf (((Z.2.2.2 r2 2)).map G.2.1)) (C := RX7) (T := TX7) (N := 4) hx hb hts inU_X7 hown hK hP _ hq5 rfl 2 (by decide) (nF_use 24 hE rfl) (fun _ h9 => h9) rfl dX11_bound_23 ?_
      rcases f_o h with ⟨ho, h⟩ | ⟨r6, ho, h⟩
      · rw [ho]
        refine lv_aload_n hx hb dX11_bound_26 rfl (lv_at hl 0 rfl) ?_
        obtain ⟨qq7, hq7⟩ := hg_Ta G Z Y σ0 hr2
        refine va_getN (D := D) (ci := 7) (v := .int (Z.2.2.1 r2 1)) (C := RX7) (T := TX7) (N := 4) hx hb hts inU_X7 hown hK hP _ hq7 rfl 1 (by decide) (nF_use 22 hE rfl) (fun _ h9 => h9) rfl dX11_bound_27 ?_
        cases h
      · rw [ho]
        obtain ⟨hr6, h⟩ := f_c h
        refine lv_aload_n hx hb dX11_bound_26 rfl (lv_at hl 0 rfl) ?_
        obtain ⟨qq8, hq8⟩ := hg_Ta G Z Y σ0 hr2
        refine va_getN (D := D) (ci := 7) (v := .int (Z.2.2.1 r2 1)) (C := RX7) (T := TX7) (N := 4) hx hb hts inU_X7 hown hK hP _ hq8 rfl 1 (by decide) (nF_use 22 hE rfl) (fun _ h9 => h9) rfl dX11_bound_27 ?_
        cases h
    · rw [ho]
      obtain ⟨hr4, h⟩ := f_c h
      refine lv_aload_n hx hb dX11_bound_22 rfl (lv_at hl 0 rfl) ?_
      obtain ⟨qq9, hq9⟩ := hg_Ta G Z Y σ0 hr2
      refine va_getN (D := D) (ci := 7) (v := va_rf (((Z.2.2.2 r2 2)).map G.2.1)) (C := RX7) (T := TX7) (N := 4) hx hb hts inU_X7 hown hK hP _ hq9 rfl 2 (by decide) (nF_use 24 hE rfl) (fun _ h9 => h9) rfl dX11_bound_23 ?_
      rcases f_o h with ⟨ho, h⟩ | ⟨r10, ho, h⟩
      · rw [ho]
        refine lv_aload_n hx hb dX11_bound_26 rfl (lv_at hl 0 rfl) ?_
        obtain ⟨qq11, hq11⟩ := hg_Ta G Z Y σ0 hr2
        refine va_getN (D := D) (ci := 7) (v := .int (Z.2.2.1 r2 1)) (C := RX7) (T := TX7) (N := 4) hx hb hts inU_X7 hown hK hP _ hq11 rfl 1 (by decide) (nF_use 22 hE rfl) (fun _ h9 => h9) rfl dX11_bound_27 ?_
        cases h
      · rw [ho]
        obtain ⟨hr10, h⟩ := f_c h
        refine lv_aload_n hx hb dX11_bound_26 rfl (lv_at hl 0 rfl) ?_
        obtain ⟨qq12, hq12⟩ := hg_Ta G Z Y σ0 hr2
        refine va_getN (D := D) (ci := 7) (v := .int (Z.2.2.1 r2 1)) (C := RX7) (T := TX7) (N := 4) hx hb hts inU_X7 hown hK hP _ hq12 rfl 1 (by decide) (nF_use 22 hE rfl) (fun _ h9 => h9) rfl dX11_bound_27 ?_
        obtain ⟨q13, hq13, h⟩ := f_b h
        refine cl_V (w := (hW G Z Y σ0)) (w' := (hW G Z Y q13.2)) (rv := none) (bytes := cX0_sit) (maxL := 4) (ret := none) (C := RX0) (As := [.ref (G.2.1 r4), .ref (G.2.1 r10), .int (Z.2.2.1 r2 1)]) (rest := []) (stk := []) ⟨hx, hb, hml, hown, hts⟩ hK hE hA hP hD hS (c_X0_sit l D G Z Y σ0 r4 hr4 r10 hr10 (Z.2.2.1 r2 1) q13 hq13) (cwV 3 hts (gwV wd_959 wd_820 wd_821 wd_6 wd_822) rfl rfl rfl hd_X0_sit ⟨Nat.le_of_ble_eq_true rfl, Nat.le_of_ble_eq_true rfl⟩) (hg_12 G Z Y σ0) rfl rfl rfl hl.1 rfl (Nat.le_of_ble_eq_true rfl) dX11_bound_30 ⟨Nat.zero_le _, Nat.zero_le _⟩ rfl (fun H locs hP hD hS => ?_)
        refine lv_aload_n hx hb dX11_bound_33 rfl (lv_at hl 1 rfl) ?_
        refine va_get (D := D) (ci := 11) (v := .ref (G.2.1 12)) (C := RX11) (T := TX11) (N := 16) hx hb hts inU_X11 hown hK hP _ (hg_0 G Z Y q13.2) rfl 5 (by decide) (hts _ wd_240) (fun _ h9 => h9) rfl dX11_bound_34 ?_
        obtain ⟨q14, hq14, h⟩ := f_b h
        refine cl_V (w := (hW G Z Y q13.2)) (w' := (hW G Z Y q14.2)) (rv := some (.int q14.1)) (bytes := cX0_tellsBound) (maxL := 8) (ret := (some .boolean)) (C := RX0) (As := []) (rest := []) (stk := [.int q14.1]) ⟨hx, hb, hml, hown, hts⟩ hK hE hA hP hD hS (c_X0_tellsBound l D G Z Y q13.2 F q14 hq14) (cwV 0 hts (gwV wd_1009 wd_1010 wd_1011 wd_6 wd_1012) rfl rfl rfl hd_X0_tellsBound ⟨Nat.le_of_ble_eq_true rfl, Nat.le_of_ble_eq_true rfl⟩) (hg_12 G Z Y q13.2) rfl rfl rfl hl.1 rfl (Nat.le_of_ble_eq_true rfl) dX11_bound_37 ⟨Nat.zero_le _, Nat.zero_le _⟩ rfl (fun H locs hP hD hS => ?_)
        refine lv_if_eq (tgt := 54) hx hb dX11_bound_40 (by decide) (fun c15 => ?_) (fun c15 => ?_)
        · skip
          have h := f_t c15 h
          refine lv_ldc2 (v := (-1)) hx hb hown (hts _ wd_982) dX11_bound_54 ?_
          obtain rfl := Option.some.inj h
          exact W.lret (v := (-1 : Int64)) hx hb hr (q_end hK hP hD hS) hS.2.2 dX11_bound_57
        · skip
          have h := f_f c15 h
          refine lv_aload_n hx hb dX11_bound_43 rfl (lv_at hl 1 rfl) ?_
          refine va_get (D := D) (ci := 11) (v := .ref (G.2.1 12)) (C := RX11) (T := TX11) (N := 16) hx hb hts inU_X11 hown hK hP _ (hg_0 G Z Y q14.2) rfl 5 (by decide) (hts _ wd_240) (fun _ h9 => h9) rfl dX11_bound_44 ?_
          refine lv_iload_n hx hb dX11_bound_47 rfl (lv_at hl 3 rfl) ?_
          obtain ⟨q16, hq16, h⟩ := f_b h
          refine cl_V (w := (hW G Z Y q14.2)) (w' := (hW G Z Y q14.2)) (rv := some (.long q16)) (bytes := cX0_fraction) (maxL := 2) (ret := (some .long)) (C := RX0) (As := [.int x2]) (rest := []) (stk := [.long q16]) ⟨hx, hb, hml, hown, hts⟩ hK hE hA hP hD hS (c_X0_fraction l D G Z Y q14.2 x2 q16 hq16) (cwV 1 hts (gwV wd_1000 wd_1001 wd_1002 wd_6 wd_1003) rfl rfl rfl hd_X0_fraction ⟨Nat.le_of_ble_eq_true rfl, Nat.le_of_ble_eq_true rfl⟩) (hg_12 G Z Y q14.2) rfl rfl rfl hl.1 rfl (Nat.le_of_ble_eq_true rfl) dX11_bound_48 ⟨Nat.zero_le _, Nat.zero_le _⟩ rfl (fun H locs hP hD hS => ?_)
          refine lv_goto (tgt := 57) hx hb dX11_bound_51 (by decide) ?_
          obtain rfl := Option.some.inj h
          exact W.lret (v := q16) hx hb hr (q_end hK hP hD hS) hS.2.2 dX11_bound_57
abbrev rm_X11_roots : Room := { frames := 8, cells := 0, slots := 0, locals := 201 }
set_option maxRecDepth 100000 in
set_option maxHeartbeats 8000000 in
theorem c_X11_roots (l : Launch) (D : va_G) (G : hG) (Z : hZ) (Y : va_W) (σ0 : hSt) (F : Nat) (x1 : Int32) (x2 : Int32) (res : (Int32 × hSt)) (h : f_X11_roots F Z σ0 x1 x2 = some res) : CT l yX11_roots cX11_roots 4 (some .int) rm_X11_roots D G 0 0 [.ref (G.2.1 0), .int x1, .int x2] (hW G Z Y σ0) (hW G Z Y res.2) (some (.int res.1)) := by
  unfold f_X11_roots at h
  refine CT.mk (cc := cX11_roots) (maxL := 4) (ret := (some .int)) (own := RX11) (plainFor_of_name (by decide)) rfl (Nat.le_of_ble_eq_true rfl) ?_
  intro p e s m args below meth c A ls C0 hnm hA hP hD hl
  obtain ⟨hx, hb, hr, hml, hown, hts, hlocks, hK, hE⟩ := id C0
  have hS : va_S A s.heap s.heap [] := va_S.rf
  have hl : lv_has ls 4 [(0, .ref (G.2.1 0)), (1, .int x1), (2, .int x2)] := hl
  refine lv_aload_n hx hb dX11_roots_0 rfl (lv_at hl 0 rfl) ?_
  refine lv_iload_n hx hb dX11_roots_1 rfl (lv_at hl 1 rfl) ?_
  obtain ⟨q1, hq1, h⟩ := f_b h
  refine cl_V (w := (hW G Z Y σ0)) (w' := (hW G Z Y σ0)) (rv := some (va_rf ((q1).map G.2.1))) (bytes := cX11_talkAt) (maxL := 2) (ret := (some (.object "LiarHall$Talk"))) (C := RX11) (As := [.int x1]) (rest := []) (stk := [va_rf ((q1).map G.2.1)]) ⟨hx, hb, hml, hown, hts⟩ hK hE hA hP hD hS (c_X11_talkAt l D G Z Y σ0 x1 q1 hq1) (cwV 1 hts (gwV wd_803 wd_805 wp_23 wd_1 wd_806) rfl rfl rfl hd_X11_talkAt ⟨Nat.le_of_ble_eq_true rfl, Nat.le_of_ble_eq_true rfl⟩) (hg_0 G Z Y σ0) rfl rfl rfl hl.1 rfl (Nat.le_of_ble_eq_true rfl) dX11_roots_2 ⟨Nat.zero_le _, Nat.zero_le _⟩ rfl (fun H locs hP hD hS => ?_)
  rcases f_o h with ⟨ho, h⟩ | ⟨r2, ho, h⟩
  · rw [ho]
    refine lv_astore_nN (lv' := [(3, .null), (0, .ref (G.2.1 0)), (1, .int x1), (2, .int x2)]) hx hb dX11_roots_5 rfl hl (by decide) rfl (fun ls hl => ?_)
    refine lv_aload_nN hx hb dX11_roots_6 rfl (lv_at hl 0 rfl) ?_
    refine lv_ifnullN (tgt := 25) hx hb dX11_roots_7 (by decide) ?_
    refine lv_iconst (v := (-1)) hx hb dX11_roots_25 (by decide) ?_
    obtain rfl := Option.some.inj h
    exact W.iret (v := (-1 : Int32)) hx hb hr (q_end hK hP hD hS) hS.2.2 dX11_roots_26
  · rw [ho]
    obtain ⟨hr2, h⟩ := f_c h
    refine lv_astore_n (lv' := [(3, .ref (G.2.1 r2)), (0, .ref (G.2.1 0)), (1, .int x1), (2, .int x2)]) hx hb dX11_roots_5 rfl hl (by decide) rfl (fun ls hl => ?_)
    refine lv_aload_n hx hb dX11_roots_6 rfl (lv_at hl 0 rfl) ?_
    refine lv_ifnull hx hb dX11_roots_7 ?_
    refine lv_iload_n hx hb dX11_roots_10 rfl (lv_at hl 3 rfl) ?_
    refine lv_if_lt (tgt := 25) hx hb dX11_roots_11 (by decide) (fun c3 => ?_) (fun c3 => ?_)
    · skip
      have h := f_t c3 h
      refine lv_iconst (v := (-1)) hx hb dX11_roots_25 (by decide) ?_
      obtain rfl := Option.some.inj h
      exact W.iret (v := (-1 : Int32)) hx hb hr (q_end hK hP hD hS) hS.2.2 dX11_roots_26
    · skip
      have h := f_f c3 h
      refine lv_iload_n hx hb dX11_roots_14 rfl (lv_at hl 3 rfl) ?_
      refine lv_aload_n hx hb dX11_roots_15 rfl (lv_at hl 0 rfl) ?_
      obtain ⟨qq4, hq4⟩ := hg_Ta G Z Y σ0 hr2
      refine va_getN (D := D) (ci := 7) (v := va_rf (((Z.2.2.2 r2 0)).map G.2.1)) (C := RX7) (T := TX7) (N := 4) hx hb hts inU_X7 hown hK hP _ hq4 rfl 0 (by decide) (nF_use 20 hE rfl) (fun _ h9 => h9) rfl dX11_roots_16 ?_
      rcases f_o h with ⟨ho, h⟩ | ⟨r5, ho, h⟩
      · rw [ho]
        cases h
      · rw [ho]
        obtain ⟨hr5, h⟩ := f_c h
        obtain ⟨qq6, hq6⟩ := hg_Sa G Z Y σ0 hr5
        refine va_getN (D := D) (ci := 5) (v := .int (Z.2.2.1 r5 2)) (C := RX4) (T := TX4) (N := 5) hx hb hts inU_X4 hown hK hP _ hq6 rfl 2 (by decide) (nF_use 13 hE rfl) (fun _ h9 => h9) rfl dX11_roots_19 ?_
        refine lv_icmp_lt (tgt := 27) hx hb dX11_roots_22 (by decide) (fun c7 => ?_) (fun c7 => ?_)
        · skip
          have h := f_t c7 h
          refine lv_aload_n hx hb dX11_roots_27 rfl (lv_at hl 1 rfl) ?_
          refine va_get (D := D) (ci := 11) (v := .ref (G.2.1 12)) (C := RX11) (T := TX11) (N := 16) hx hb hts inU_X11 hown hK hP _ (hg_0 G Z Y σ0) rfl 5 (by decide) (hts _ wd_240) (fun _ h9 => h9) rfl dX11_roots_28 ?_
          refine lv_aload_n hx hb dX11_roots_31 rfl (lv_at hl 0 rfl) ?_
          obtain ⟨qq8, hq8⟩ := hg_Ta G Z Y σ0 hr2
          refine va_getN (D := D) (ci := 7) (v := va_rf (((Z.2.2.2 r2 0)).map G.2.1)) (C := RX7) (T := TX7) (N := 4) hx hb hts inU_X7 hown hK hP _ hq8 rfl 0 (by decide) (nF_use 20 hE rfl) (fun _ h9 => h9) rfl dX11_roots_32 ?_
          rcases f_o h with ⟨ho, h⟩ | ⟨r9, ho, h⟩
          · rw [ho]
            refine lv_aload_n hx hb dX11_roots_35 rfl (lv_at hl 0 rfl) ?_
            obtain ⟨qq10, hq10⟩ := hg_Ta G Z Y σ0 hr2
            refine va_getN (D := D) (ci := 7) (v := va_rf (((Z.2.2.2 r2 2)).map G.2.1)) (C := RX7) (T := TX7) (N := 4) hx hb hts inU_X7 hown hK hP _ hq10 rfl 2 (by decide) (nF_use 24 hE rfl) (fun _ h9 => h9) rfl dX11_roots_36 ?_
            rcases f_o h with ⟨ho, h⟩ | ⟨r11, ho, h⟩
            · rw [ho]
              refine lv_aload_n hx hb dX11_roots_39 rfl (lv_at hl 0 rfl) ?_
              obtain ⟨qq12, hq12⟩ := hg_Ta G Z Y σ0 hr2
              refine va_getN (D := D) (ci := 7) (v := .int (Z.2.2.1 r2 1)) (C := RX7) (T := TX7) (N := 4) hx hb hts inU_X7 hown hK hP _ hq12 rfl 1 (by decide) (nF_use 22 hE rfl) (fun _ h9 => h9) rfl dX11_roots_40 ?_
              cases h
            · rw [ho]
              obtain ⟨hr11, h⟩ := f_c h
              refine lv_aload_n hx hb dX11_roots_39 rfl (lv_at hl 0 rfl) ?_
              obtain ⟨qq13, hq13⟩ := hg_Ta G Z Y σ0 hr2
              refine va_getN (D := D) (ci := 7) (v := .int (Z.2.2.1 r2 1)) (C := RX7) (T := TX7) (N := 4) hx hb hts inU_X7 hown hK hP _ hq13 rfl 1 (by decide) (nF_use 22 hE rfl) (fun _ h9 => h9) rfl dX11_roots_40 ?_
              cases h
          · rw [ho]
            obtain ⟨hr9, h⟩ := f_c h
            refine lv_aload_n hx hb dX11_roots_35 rfl (lv_at hl 0 rfl) ?_
            obtain ⟨qq14, hq14⟩ := hg_Ta G Z Y σ0 hr2
            refine va_getN (D := D) (ci := 7) (v := va_rf (((Z.2.2.2 r2 2)).map G.2.1)) (C := RX7) (T := TX7) (N := 4) hx hb hts inU_X7 hown hK hP _ hq14 rfl 2 (by decide) (nF_use 24 hE rfl) (fun _ h9 => h9) rfl dX11_roots_36 ?_
            rcases f_o h with ⟨ho, h⟩ | ⟨r15, ho, h⟩
            · rw [ho]
              refine lv_aload_n hx hb dX11_roots_39 rfl (lv_at hl 0 rfl) ?_
              obtain ⟨qq16, hq16⟩ := hg_Ta G Z Y σ0 hr2
              refine va_getN (D := D) (ci := 7) (v := .int (Z.2.2.1 r2 1)) (C := RX7) (T := TX7) (N := 4) hx hb hts inU_X7 hown hK hP _ hq16 rfl 1 (by decide) (nF_use 22 hE rfl) (fun _ h9 => h9) rfl dX11_roots_40 ?_
              cases h
            · rw [ho]
              obtain ⟨hr15, h⟩ := f_c h
              refine lv_aload_n hx hb dX11_roots_39 rfl (lv_at hl 0 rfl) ?_
              obtain ⟨qq17, hq17⟩ := hg_Ta G Z Y σ0 hr2
              refine va_getN (D := D) (ci := 7) (v := .int (Z.2.2.1 r2 1)) (C := RX7) (T := TX7) (N := 4) hx hb hts inU_X7 hown hK hP _ hq17 rfl 1 (by decide) (nF_use 22 hE rfl) (fun _ h9 => h9) rfl dX11_roots_40 ?_
              obtain ⟨q18, hq18, h⟩ := f_b h
              refine cl_V (w := (hW G Z Y σ0)) (w' := (hW G Z Y q18.2)) (rv := none) (bytes := cX0_sit) (maxL := 4) (ret := none) (C := RX0) (As := [.ref (G.2.1 r9), .ref (G.2.1 r15), .int (Z.2.2.1 r2 1)]) (rest := []) (stk := []) ⟨hx, hb, hml, hown, hts⟩ hK hE hA hP hD hS (c_X0_sit l D G Z Y σ0 r9 hr9 r15 hr15 (Z.2.2.1 r2 1) q18 hq18) (cwV 3 hts (gwV wd_959 wd_820 wd_821 wd_6 wd_822) rfl rfl rfl hd_X0_sit ⟨Nat.le_of_ble_eq_true rfl, Nat.le_of_ble_eq_true rfl⟩) (hg_12 G Z Y σ0) rfl rfl rfl hl.1 rfl (Nat.le_of_ble_eq_true rfl) dX11_roots_43 ⟨Nat.zero_le _, Nat.zero_le _⟩ rfl (fun H locs hP hD hS => ?_)
              refine lv_aload_n hx hb dX11_roots_46 rfl (lv_at hl 1 rfl) ?_
              refine va_get (D := D) (ci := 11) (v := .ref (G.2.1 12)) (C := RX11) (T := TX11) (N := 16) hx hb hts inU_X11 hown hK hP _ (hg_0 G Z Y q18.2) rfl 5 (by decide) (hts _ wd_240) (fun _ h9 => h9) rfl dX11_roots_47 ?_
              obtain ⟨q19, hq19, h⟩ := f_b h
              refine cl_V (w := (hW G Z Y q18.2)) (w' := (hW G Z Y q19.2)) (rv := some (.int q19.1)) (bytes := cX0_tellsBest) (maxL := 7) (ret := (some .boolean)) (C := RX0) (As := []) (rest := []) (stk := [.int q19.1]) ⟨hx, hb, hml, hown, hts⟩ hK hE hA hP hD hS (c_X0_tellsBest l D G Z Y q18.2 F q19 hq19) (cwV 0 hts (gwV wd_983 wd_984 wd_985 wd_6 wd_986) rfl rfl rfl hd_X0_tellsBest ⟨Nat.le_of_ble_eq_true rfl, Nat.le_of_ble_eq_true rfl⟩) (hg_12 G Z Y q18.2) rfl rfl rfl hl.1 rfl (Nat.le_of_ble_eq_true rfl) dX11_roots_50 ⟨Nat.zero_le _, Nat.zero_le _⟩ rfl (fun H locs hP hD hS => ?_)
              refine lv_if_eq (tgt := 67) hx hb dX11_roots_53 (by decide) (fun c20 => ?_) (fun c20 => ?_)
              · skip
                have h := f_t c20 h
                refine lv_iconst (v := (-1)) hx hb dX11_roots_67 (by decide) ?_
                obtain rfl := Option.some.inj h
                exact W.iret (v := (-1 : Int32)) hx hb hr (q_end hK hP hD hS) hS.2.2 dX11_roots_68
              · skip
                have h := f_f c20 h
                refine lv_aload_n hx hb dX11_roots_56 rfl (lv_at hl 1 rfl) ?_
                refine va_get (D := D) (ci := 11) (v := .ref (G.2.1 12)) (C := RX11) (T := TX11) (N := 16) hx hb hts inU_X11 hown hK hP _ (hg_0 G Z Y q19.2) rfl 5 (by decide) (hts _ wd_240) (fun _ h9 => h9) rfl dX11_roots_57 ?_
                refine lv_iload_n hx hb dX11_roots_60 rfl (lv_at hl 3 rfl) ?_
                obtain ⟨q21, hq21, h⟩ := f_b h
                refine cl_V (w := (hW G Z Y q19.2)) (w' := (hW G Z Y q21.2)) (rv := some (.int q21.1)) (bytes := cX0_mostRoots) (maxL := 3) (ret := (some .int)) (C := RX0) (As := [.int x2]) (rest := []) (stk := [.int q21.1]) ⟨hx, hb, hml, hown, hts⟩ hK hE hA hP hD hS (c_X0_mostRoots l D G Z Y q19.2 F x2 q21 hq21) (cwV 1 hts (gwV wd_1017 wd_989 wd_990 wd_6 wd_991) rfl rfl rfl hd_X0_mostRoots ⟨Nat.le_of_ble_eq_true rfl, Nat.le_of_ble_eq_true rfl⟩) (hg_12 G Z Y q19.2) rfl rfl rfl hl.1 rfl (Nat.le_of_ble_eq_true rfl) dX11_roots_61 ⟨Nat.zero_le _, Nat.zero_le _⟩ rfl (fun H locs hP hD hS => ?_)
                refine lv_goto (tgt := 68) hx hb dX11_roots_64 (by decide) ?_
                obtain rfl := Option.some.inj h
                exact W.iret (v := q21.1) hx hb hr (q_end hK hP hD hS) hS.2.2 dX11_roots_68
        · skip
          have h := f_f c7 h
          refine lv_iconst (v := (-1)) hx hb dX11_roots_25 (by decide) ?_
          obtain rfl := Option.some.inj h
          exact W.iret (v := (-1 : Int32)) hx hb hr (q_end hK hP hD hS) hS.2.2 dX11_roots_26
abbrev rm_X11_small : Room := { frames := 8, cells := 0, slots := 0, locals := 201 }
set_option maxRecDepth 100000 in
set_option maxHeartbeats 8000000 in
theorem W_X11_small_L54 {p : Program} {e : Env} {s : State} {m : MethodId} {args : Array Value} {below : List Frame} {meth : Method} {c : Code} {A : Nat → Prop} (l : Launch) (D : va_G) (G : hG) (Z : hZ) (Y : va_W) (σ0 : hSt) (F : Nat) (x1 : Int32) (x2 : Int32) (x3 : Int32) (r2 : Nat) (hr2 : isSa Z r2 = true) (r6 : Nat) (hr6 : isTe Z r6 = true) (y3 : Int32) (res : (Int32 × hSt)) (C0 : Cx p s m args meth c cX11_small (some .int) RX11 7 D G A) (hA : ∀ q : Nat, s.heap.size ≤ q → A q) : ∀ (n : Nat) (σ1 : hSt) (z6 : Int32), f_X11_small_L54 F Z r2 r6 y3 n σ1 z6 = some res → ∀ (H : Heap) (locs : List Loc) (ls : Array Slot), va_P D vwCl (hW G Z Y σ1) H → va_D A (hW G Z Y σ1) → va_S A s.heap H locs → lv_has ls 7 [(0, .ref (G.2.1 0)), (3, .int y3), (4, .ref (G.2.1 r2)), (5, .ref (G.2.1 r6)), (6, .int z6)] → W p l e rm_X11_small s m args below meth c H locs 0 0 (MQ below (Qg (some (.int res.1)) D (tysG G) (hW G Z Y res.2) A) args s 0 0 A) (F0 m 54 ls []) := by
  obtain ⟨hx, hb, hr, hml, hown, hts, hlocks, hK, hE⟩ := id C0
  intro n
  induction n with
  | zero =>
    intro σ1 z6 h
    cases h
  | succ n ih =>
    intro σ1 z6 h H locs ls hP hD hS hl
    rw [f_X11_small_L54] at h
    refine lv_iload hx hb dX11_small_54 (lv_at hl 4 rfl) ?_
    refine lv_sipush (v := 1000) hx hb dX11_small_56 (by decide) ?_
    refine lv_icmp_gt (tgt := 113) hx hb dX11_small_59 (by decide) (fun c11 => ?_) (fun c11 => ?_)
    · skip
      have h := f_t c11 h
      refine lv_iconst (v := (-1)) hx hb dX11_small_113 (by decide) ?_
      obtain rfl := Option.some.inj h
      exact W.iret (v := (-1 : Int32)) hx hb hr (q_end hK hP hD hS) hS.2.2 dX11_small_114
    · skip
      have h := f_f c11 h
      refine lv_iload hx hb dX11_small_62 (lv_at hl 4 rfl) ?_
      obtain ⟨q12, hq12, h⟩ := f_b h
      refine cl_S (w := (hW G Z Y σ1)) (w' := (hW G Z Y σ1)) (rv := some (.int q12)) (bytes := cX11_isModulus) (maxL := 1) (ret := (some .boolean)) (As := [.int z6]) (rest := []) (stk := [.int q12]) ⟨hx, hb, hml, hown, hts⟩ hK hE hA hP hD hS (c_X11_isModulus l D G (hW G Z Y σ1) F z6 q12 hq12) (mkS hts wd_697 wd_698 wd_1 wd_699 rfl rfl hd_X11_isModulus ⟨Nat.le_of_ble_eq_true rfl, Nat.le_of_ble_eq_true rfl⟩) rfl hl.1 rfl (Nat.le_of_ble_eq_true rfl) dX11_small_64 ⟨Nat.zero_le _, Nat.zero_le _⟩ rfl (fun H locs hP hD hS => ?_)
      refine lv_if_eq (tgt := 107) hx hb dX11_small_67 (by decide) (fun c13 => ?_) (fun c13 => ?_)
      · skip
        have h := f_t c13 h
        refine lv_iinc (v := (z6 + 1)) (lv' := [(6, .int (z6 + 1)), (0, .ref (G.2.1 0)), (3, .int y3), (4, .ref (G.2.1 r2)), (5, .ref (G.2.1 r6))]) hx hb dX11_small_107 hl (k := 4) rfl rfl (by decide) rfl (fun ls hl => ?_)
        refine lv_goto (tgt := 54) hx hb dX11_small_110 (by decide) ?_
        exact ih σ1 (z6 + 1) h _ _ _ hP hD hS (lv_sub hl [1, 2, 3, 4, 0] rfl)
      · skip
        have h := f_f c13 h
        refine lv_aload_n hx hb dX11_small_70 rfl (lv_at hl 0 rfl) ?_
        refine va_get (D := D) (ci := 11) (v := .ref (G.2.1 12)) (C := RX11) (T := TX11) (N := 16) hx hb hts inU_X11 hown hK hP _ (hg_0 G Z Y σ1) rfl 5 (by decide) (hts _ wd_240) (fun _ h9 => h9) rfl dX11_small_71 ?_
        refine lv_aload hx hb dX11_small_74 (lv_at hl 2 rfl) ?_
        refine lv_aload hx hb dX11_small_76 (lv_at hl 3 rfl) ?_
        refine lv_iload hx hb dX11_small_78 (lv_at hl 4 rfl) ?_
        obtain ⟨q14, hq14, h⟩ := f_b h
        refine cl_V (w := (hW G Z Y σ1)) (w' := (hW G Z Y q14.2)) (rv := none) (bytes := cX0_sit) (maxL := 4) (ret := none) (C := RX0) (As := [.ref (G.2.1 r2), .ref (G.2.1 r6), .int z6]) (rest := []) (stk := []) ⟨hx, hb, hml, hown, hts⟩ hK hE hA hP hD hS (c_X0_sit l D G Z Y σ1 r2 hr2 r6 hr6 z6 q14 hq14) (cwV 3 hts (gwV wd_959 wd_820 wd_821 wd_6 wd_822) rfl rfl rfl hd_X0_sit ⟨Nat.le_of_ble_eq_true rfl, Nat.le_of_ble_eq_true rfl⟩) (hg_12 G Z Y σ1) rfl rfl rfl hl.1 rfl (Nat.le_of_ble_eq_true rfl) dX11_small_80 ⟨Nat.zero_le _, Nat.zero_le _⟩ rfl (fun H locs hP hD hS => ?_)
        refine lv_aload_n hx hb dX11_small_83 rfl (lv_at hl 0 rfl) ?_
        refine va_get (D := D) (ci := 11) (v := .ref (G.2.1 12)) (C := RX11) (T := TX11) (N := 16) hx hb hts inU_X11 hown hK hP _ (hg_0 G Z Y q14.2) rfl 5 (by decide) (hts _ wd_240) (fun _ h9 => h9) rfl dX11_small_84 ?_
        obtain ⟨q15, hq15, h⟩ := f_b h
        refine cl_V (w := (hW G Z Y q14.2)) (w' := (hW G Z Y q15.2)) (rv := some (.int q15.1)) (bytes := cX0_tellsBest) (maxL := 7) (ret := (some .boolean)) (C := RX0) (As := []) (rest := []) (stk := [.int q15.1]) ⟨hx, hb, hml, hown, hts⟩ hK hE hA hP hD hS (c_X0_tellsBest l D G Z Y q14.2 F q15 hq15) (cwV 0 hts (gwV wd_983 wd_984 wd_985 wd_6 wd_986) rfl rfl rfl hd_X0_tellsBest ⟨Nat.le_of_ble_eq_true rfl, Nat.le_of_ble_eq_true rfl⟩) (hg_12 G Z Y q14.2) rfl rfl rfl hl.1 rfl (Nat.le_of_ble_eq_true rfl) dX11_small_87 ⟨Nat.zero_le _, Nat.zero_le _⟩ rfl (fun H locs hP hD hS => ?_)
        refine lv_if_eq (tgt := 107) hx hb dX11_small_90 (by decide) (fun c16 => ?_) (fun c16 => ?_)
        · skip
          have h := f_t c16 h
          refine lv_iinc (v := (z6 + 1)) (lv' := [(6, .int (z6 + 1)), (0, .ref (G.2.1 0)), (3, .int y3), (4, .ref (G.2.1 r2)), (5, .ref (G.2.1 r6))]) hx hb dX11_small_107 hl (k := 4) rfl rfl (by decide) rfl (fun ls hl => ?_)
          refine lv_goto (tgt := 54) hx hb dX11_small_110 (by decide) ?_
          exact ih q15.2 (z6 + 1) h _ _ _ hP hD hS (lv_sub hl [1, 2, 3, 4, 0] rfl)
        · skip
          have h := f_f c16 h
          refine lv_aload_n hx hb dX11_small_93 rfl (lv_at hl 0 rfl) ?_
          refine va_get (D := D) (ci := 11) (v := .ref (G.2.1 12)) (C := RX11) (T := TX11) (N := 16) hx hb hts inU_X11 hown hK hP _ (hg_0 G Z Y q15.2) rfl 5 (by decide) (hts _ wd_240) (fun _ h9 => h9) rfl dX11_small_94 ?_
          refine lv_iload_n hx hb dX11_small_97 rfl (lv_at hl 1 rfl) ?_
          obtain ⟨q17, hq17, h⟩ := f_b h
          refine cl_V (w := (hW G Z Y q15.2)) (w' := (hW G Z Y q15.2)) (rv := some (.int q17)) (bytes := cX0_isAtMostOneBy) (maxL := 2) (ret := (some .boolean)) (C := RX0) (As := [.int y3]) (rest := []) (stk := [.int q17]) ⟨hx, hb, hml, hown, hts⟩ hK hE hA hP hD hS (c_X0_isAtMostOneBy l D G Z Y q15.2 y3 q17 hq17) (cwV 1 hts (gwV wd_1023 wd_1024 wd_1025 wd_6 wd_1026) rfl rfl rfl hd_X0_isAtMostOneBy ⟨Nat.le_of_ble_eq_true rfl, Nat.le_of_ble_eq_true rfl⟩) (hg_12 G Z Y q15.2) rfl rfl rfl hl.1 rfl (Nat.le_of_ble_eq_true rfl) dX11_small_98 ⟨Nat.zero_le _, Nat.zero_le _⟩ rfl (fun H locs hP hD hS => ?_)
          refine lv_if_eq (tgt := 107) hx hb dX11_small_101 (by decide) (fun c18 => ?_) (fun c18 => ?_)
          · skip
            have h := f_t c18 h
            refine lv_iinc (v := (z6 + 1)) (lv' := [(6, .int (z6 + 1)), (0, .ref (G.2.1 0)), (3, .int y3), (4, .ref (G.2.1 r2)), (5, .ref (G.2.1 r6))]) hx hb dX11_small_107 hl (k := 4) rfl rfl (by decide) rfl (fun ls hl => ?_)
            refine lv_goto (tgt := 54) hx hb dX11_small_110 (by decide) ?_
            exact ih q15.2 (z6 + 1) h _ _ _ hP hD hS (lv_sub hl [1, 2, 3, 4, 0] rfl)
          · skip
            have h := f_f c18 h
            refine lv_iload hx hb dX11_small_104 (lv_at hl 4 rfl) ?_
            obtain rfl := Option.some.inj h
            exact W.iret (v := z6) hx hb hr (q_end hK hP hD hS) hS.2.2 dX11_small_106
set_option maxRecDepth 100000 in
set_option maxHeartbeats 8000000 in
theorem c_X11_small (l : Launch) (D : va_G) (G : hG) (Z : hZ) (Y : va_W) (σ0 : hSt) (F : Nat) (x1 : Int32) (x2 : Int32) (x3 : Int32) (res : (Int32 × hSt)) (h : f_X11_small F Z σ0 x1 x2 x3 = some res) : CT l yX11_small cX11_small 7 (some .int) rm_X11_small D G 0 0 [.ref (G.2.1 0), .int x1, .int x2, .int x3] (hW G Z Y σ0) (hW G Z Y res.2) (some (.int res.1)) := by
  unfold f_X11_small at h
  refine CT.mk (cc := cX11_small) (maxL := 7) (ret := (some .int)) (own := RX11) (plainFor_of_name (by decide)) rfl (Nat.le_of_ble_eq_true rfl) ?_
  intro p e s m args below meth c A ls C0 hnm hA hP hD hl
  obtain ⟨hx, hb, hr, hml, hown, hts, hlocks, hK, hE⟩ := id C0
  have hS : va_S A s.heap s.heap [] := va_S.rf
  have hl : lv_has ls 7 [(0, .ref (G.2.1 0)), (1, .int x1), (2, .int x2), (3, .int x3)] := hl
  refine lv_aload_n hx hb dX11_small_0 rfl (lv_at hl 0 rfl) ?_
  refine lv_iload_n hx hb dX11_small_1 rfl (lv_at hl 1 rfl) ?_
  obtain ⟨q1, hq1, h⟩ := f_b h
  refine cl_V (w := (hW G Z Y σ0)) (w' := (hW G Z Y σ0)) (rv := some (va_rf ((q1).map G.2.1))) (bytes := cX11_sayingAt) (maxL := 2) (ret := (some (.object "LiarHall$Saying"))) (C := RX11) (As := [.int x1]) (rest := []) (stk := [va_rf ((q1).map G.2.1)]) ⟨hx, hb, hml, hown, hts⟩ hK hE hA hP hD hS (c_X11_sayingAt l D G Z Y σ0 x1 q1 hq1) (cwV 1 hts (gwV wd_657 wd_659 wp_19 wd_1 wd_660) rfl rfl rfl hd_X11_sayingAt ⟨Nat.le_of_ble_eq_true rfl, Nat.le_of_ble_eq_true rfl⟩) (hg_0 G Z Y σ0) rfl rfl rfl hl.1 rfl (Nat.le_of_ble_eq_true rfl) dX11_small_2 ⟨Nat.zero_le _, Nat.zero_le _⟩ rfl (fun H locs hP hD hS => ?_)
  rcases f_o h with ⟨ho, h⟩ | ⟨r2, ho, h⟩
  · rw [ho]
    refine lv_astoreN (lv' := [(4, .null), (0, .ref (G.2.1 0)), (1, .int x1), (2, .int x2), (3, .int x3)]) hx hb dX11_small_5 hl (by decide) rfl (fun ls hl => ?_)
    refine lv_aload_n hx hb dX11_small_7 rfl (lv_at hl 1 rfl) ?_
    refine va_get (D := D) (ci := 11) (v := .ref (G.2.1 39)) (C := RX11) (T := TX11) (N := 16) hx hb hts inU_X11 hown hK hP _ (hg_0 G Z Y σ0) rfl 9 (by decide) (hts _ wd_244) (fun _ h9 => h9) rfl dX11_small_8 ?_
    refine lv_iload_n hx hb dX11_small_11 rfl (lv_at hl 3 rfl) ?_
    obtain ⟨q3, hq3, h⟩ := f_b h
    refine cl_S (w := (hW G Z Y σ0)) (w' := (hW G Z Y σ0)) (rv := some (va_rf ((q3).map G.2.1))) (bytes := cX11_textAt) (maxL := 2) (ret := (some (.object "LiarHall$Text"))) (As := [.ref (G.2.1 39), .int x2]) (rest := []) (stk := [va_rf ((q3).map G.2.1)]) ⟨hx, hb, hml, hown, hts⟩ hK hE hA hP hD hS (c_X11_textAt l D G Z Y σ0 39 (rfl : isLi 39 = true) x2 q3 hq3) (mkS hts wd_766 wd_767 wd_1 wd_768 rfl rfl hd_X11_textAt ⟨Nat.le_of_ble_eq_true rfl, Nat.le_of_ble_eq_true rfl⟩) rfl hl.1 rfl (Nat.le_of_ble_eq_true rfl) dX11_small_12 ⟨Nat.zero_le _, Nat.zero_le _⟩ rfl (fun H locs hP hD hS => ?_)
    rcases f_o h with ⟨ho, h⟩ | ⟨r4, ho, h⟩
    · rw [ho]
      refine lv_astoreN (lv' := [(5, .null), (4, .null), (0, .ref (G.2.1 0)), (1, .int x1), (2, .int x2), (3, .int x3)]) hx hb dX11_small_15 hl (by decide) rfl (fun ls hl => ?_)
      refine lv_aloadN hx hb dX11_small_17 (lv_at hl 1 rfl) ?_
      refine lv_ifnullN (tgt := 39) hx hb dX11_small_19 (by decide) ?_
      refine lv_iconst (v := (-1)) hx hb dX11_small_39 (by decide) ?_
      obtain rfl := Option.some.inj h
      exact W.iret (v := (-1 : Int32)) hx hb hr (q_end hK hP hD hS) hS.2.2 dX11_small_40
    · rw [ho]
      obtain ⟨hr4, h⟩ := f_c h
      refine lv_astore (lv' := [(5, .ref (G.2.1 r4)), (4, .null), (0, .ref (G.2.1 0)), (1, .int x1), (2, .int x2), (3, .int x3)]) hx hb dX11_small_15 hl (by decide) rfl (fun ls hl => ?_)
      refine lv_aloadN hx hb dX11_small_17 (lv_at hl 1 rfl) ?_
      refine lv_ifnullN (tgt := 39) hx hb dX11_small_19 (by decide) ?_
      refine lv_iconst (v := (-1)) hx hb dX11_small_39 (by decide) ?_
      obtain rfl := Option.some.inj h
      exact W.iret (v := (-1 : Int32)) hx hb hr (q_end hK hP hD hS) hS.2.2 dX11_small_40
  · rw [ho]
    obtain ⟨hr2, h⟩ := f_c h
    refine lv_astore (lv' := [(4, .ref (G.2.1 r2)), (0, .ref (G.2.1 0)), (1, .int x1), (2, .int x2), (3, .int x3)]) hx hb dX11_small_5 hl (by decide) rfl (fun ls hl => ?_)
    refine lv_aload_n hx hb dX11_small_7 rfl (lv_at hl 1 rfl) ?_
    refine va_get (D := D) (ci := 11) (v := .ref (G.2.1 39)) (C := RX11) (T := TX11) (N := 16) hx hb hts inU_X11 hown hK hP _ (hg_0 G Z Y σ0) rfl 9 (by decide) (hts _ wd_244) (fun _ h9 => h9) rfl dX11_small_8 ?_
    refine lv_iload_n hx hb dX11_small_11 rfl (lv_at hl 3 rfl) ?_
    obtain ⟨q5, hq5, h⟩ := f_b h
    refine cl_S (w := (hW G Z Y σ0)) (w' := (hW G Z Y σ0)) (rv := some (va_rf ((q5).map G.2.1))) (bytes := cX11_textAt) (maxL := 2) (ret := (some (.object "LiarHall$Text"))) (As := [.ref (G.2.1 39), .int x2]) (rest := []) (stk := [va_rf ((q5).map G.2.1)]) ⟨hx, hb, hml, hown, hts⟩ hK hE hA hP hD hS (c_X11_textAt l D G Z Y σ0 39 (rfl : isLi 39 = true) x2 q5 hq5) (mkS hts wd_766 wd_767 wd_1 wd_768 rfl rfl hd_X11_textAt ⟨Nat.le_of_ble_eq_true rfl, Nat.le_of_ble_eq_true rfl⟩) rfl hl.1 rfl (Nat.le_of_ble_eq_true rfl) dX11_small_12 ⟨Nat.zero_le _, Nat.zero_le _⟩ rfl (fun H locs hP hD hS => ?_)
    rcases f_o h with ⟨ho, h⟩ | ⟨r6, ho, h⟩
    · rw [ho]
      refine lv_astoreN (lv' := [(5, .null), (4, .ref (G.2.1 r2)), (0, .ref (G.2.1 0)), (1, .int x1), (2, .int x2), (3, .int x3)]) hx hb dX11_small_15 hl (by decide) rfl (fun ls hl => ?_)
      refine lv_aload hx hb dX11_small_17 (lv_at hl 1 rfl) ?_
      refine lv_ifnull hx hb dX11_small_19 ?_
      refine lv_aloadN hx hb dX11_small_22 (lv_at hl 0 rfl) ?_
      refine lv_ifnullN (tgt := 39) hx hb dX11_small_24 (by decide) ?_
      refine lv_iconst (v := (-1)) hx hb dX11_small_39 (by decide) ?_
      obtain rfl := Option.some.inj h
      exact W.iret (v := (-1 : Int32)) hx hb hr (q_end hK hP hD hS) hS.2.2 dX11_small_40
    · rw [ho]
      obtain ⟨hr6, h⟩ := f_c h
      refine lv_astore (lv' := [(5, .ref (G.2.1 r6)), (4, .ref (G.2.1 r2)), (0, .ref (G.2.1 0)), (1, .int x1), (2, .int x2), (3, .int x3)]) hx hb dX11_small_15 hl (by decide) rfl (fun ls hl => ?_)
      refine lv_aload hx hb dX11_small_17 (lv_at hl 1 rfl) ?_
      refine lv_ifnull hx hb dX11_small_19 ?_
      refine lv_aload hx hb dX11_small_22 (lv_at hl 0 rfl) ?_
      refine lv_ifnull hx hb dX11_small_24 ?_
      refine lv_iload_n hx hb dX11_small_27 rfl (lv_at hl 5 rfl) ?_
      refine lv_iconst (v := 1) hx hb dX11_small_28 (by decide) ?_
      refine lv_icmp_lt (tgt := 39) hx hb dX11_small_29 (by decide) (fun c7 => ?_) (fun c7 => ?_)
      · skip
        have h := f_t c7 h
        refine lv_iconst (v := (-1)) hx hb dX11_small_39 (by decide) ?_
        obtain rfl := Option.some.inj h
        exact W.iret (v := (-1 : Int32)) hx hb hr (q_end hK hP hD hS) hS.2.2 dX11_small_40
      · skip
        have h := f_f c7 h
        refine lv_iload_n hx hb dX11_small_32 rfl (lv_at hl 5 rfl) ?_
        refine lv_ldcw (v := 1000000) hx hb hown (hts _ wd_810) dX11_small_33 ?_
        refine lv_icmp_le (tgt := 41) hx hb dX11_small_36 (by decide) (fun c8 => ?_) (fun c8 => ?_)
        · skip
          have h := f_t c8 h
          refine lv_iconst (v := 2) hx hb dX11_small_41 (by decide) ?_
          refine lv_aload hx hb dX11_small_42 (lv_at hl 1 rfl) ?_
          obtain ⟨q9, hq9, h⟩ := f_b h
          obtain ⟨qq10, hq10⟩ := hg_Sa G Z Y σ0 hr2
          refine cl_V (w := (hW G Z Y σ0)) (w' := (hW G Z Y σ0)) (rv := some (.int q9)) (bytes := cX4_mostSteep) (maxL := 6) (ret := (some .int)) (C := RX4) (As := []) (rest := [.int (2 : Int32)]) (stk := [.int q9, .int (2 : Int32)]) ⟨hx, hb, hml, hown, hts⟩ hK hE hA hP hD hS (c_X4_mostSteep l D G Z Y σ0 F r2 hr2 q9 hq9) (cwV 0 hts (gwV wd_769 wd_770 wd_771 wd_18 wd_772) rfl rfl rfl hd_X4_mostSteep ⟨Nat.le_of_ble_eq_true rfl, Nat.le_of_ble_eq_true rfl⟩) hq10 rfl rfl rfl hl.1 rfl (Nat.le_of_ble_eq_true rfl) dX11_small_44 ⟨Nat.zero_le _, Nat.zero_le _⟩ rfl (fun H locs hP hD hS => ?_)
          refine va_mmax hx hb (hml.trans hl.1.symm) hown (hts _ wd_1022) (hts _ wd_328) (hts _ wd_12) (hts _ wd_329) (Nat.le_of_ble_eq_true rfl) (Nat.le_of_ble_eq_true rfl) (Nat.zero_le _) (Nat.zero_le _) dX11_small_47 ?_
          refine lv_iconst (v := 1) hx hb dX11_small_50 (by decide) ?_
          refine lv_iadd hx hb dX11_small_51 ?_
          refine lv_istore (lv' := [(6, .int ((if (2 : Int32) < q9 then q9 else (2 : Int32)) + (1 : Int32))), (5, .ref (G.2.1 r6)), (4, .ref (G.2.1 r2)), (0, .ref (G.2.1 0)), (1, .int x1), (2, .int x2), (3, .int x3)]) hx hb dX11_small_52 hl (by decide) rfl (fun ls hl => ?_)
          refine W_X11_small_L54 l D G Z Y σ0 F x1 x2 x3 r2 hr2 r6 hr6 x3 res C0 hA F σ0 ((if (2 : Int32) < q9 then q9 else (2 : Int32)) + (1 : Int32)) h _ _ _ hP hD hS (lv_sub hl [3, 6, 2, 1, 0] rfl)
        · skip
          have h := f_f c8 h
          refine lv_iconst (v := (-1)) hx hb dX11_small_39 (by decide) ?_
          obtain rfl := Option.some.inj h
          exact W.iret (v := (-1 : Int32)) hx hb hr (q_end hK hP hD hS) hS.2.2 dX11_small_40
abbrev rm_X11_won : Room := { frames := 11, cells := 0, slots := 0, locals := 340 }
set_option maxRecDepth 100000 in
set_option maxHeartbeats 8000000 in
theorem c_X11_won (l : Launch) (D : va_G) (G : hG) (Z : hZ) (Y : va_W) (σ0 : hSt) (F : Nat) (x1 : Int32) (x2 : Int32) (res : (Int32 × hSt)) (h : f_X11_won F Z σ0 x1 x2 = some res) : CT l yX11_won cX11_won 4 (some .int) rm_X11_won D G 0 0 [.ref (G.2.1 0), .int x1, .int x2] (hW G Z Y σ0) (hW G Z Y res.2) (some (.int res.1)) := by
  unfold f_X11_won at h
  refine CT.mk (cc := cX11_won) (maxL := 4) (ret := (some .int)) (own := RX11) (plainFor_of_name (by decide)) rfl (Nat.le_of_ble_eq_true rfl) ?_
  intro p e s m args below meth c A ls C0 hnm hA hP hD hl
  obtain ⟨hx, hb, hr, hml, hown, hts, hlocks, hK, hE⟩ := id C0
  have hS : va_S A s.heap s.heap [] := va_S.rf
  have hl : lv_has ls 4 [(0, .ref (G.2.1 0)), (1, .int x1), (2, .int x2)] := hl
  refine lv_aload_n hx hb dX11_won_0 rfl (lv_at hl 0 rfl) ?_
  refine lv_iload_n hx hb dX11_won_1 rfl (lv_at hl 1 rfl) ?_
  obtain ⟨q1, hq1, h⟩ := f_b h
  refine cl_V (w := (hW G Z Y σ0)) (w' := (hW G Z Y σ0)) (rv := some (va_rf ((q1).map G.2.1))) (bytes := cX11_sayingAt) (maxL := 2) (ret := (some (.object "LiarHall$Saying"))) (C := RX11) (As := [.int x1]) (rest := []) (stk := [va_rf ((q1).map G.2.1)]) ⟨hx, hb, hml, hown, hts⟩ hK hE hA hP hD hS (c_X11_sayingAt l D G Z Y σ0 x1 q1 hq1) (cwV 1 hts (gwV wd_657 wd_659 wp_19 wd_1 wd_660) rfl rfl rfl hd_X11_sayingAt ⟨Nat.le_of_ble_eq_true rfl, Nat.le_of_ble_eq_true rfl⟩) (hg_0 G Z Y σ0) rfl rfl rfl hl.1 rfl (Nat.le_of_ble_eq_true rfl) dX11_won_2 ⟨Nat.zero_le _, Nat.zero_le _⟩ rfl (fun H locs hP hD hS => ?_)
  rcases f_o h with ⟨ho, h⟩ | ⟨r2, ho, h⟩
  · rw [ho]
    refine lv_astore_nN (lv' := [(3, .null), (0, .ref (G.2.1 0)), (1, .int x1), (2, .int x2)]) hx hb dX11_won_5 rfl hl (by decide) rfl (fun ls hl => ?_)
    refine lv_aload_nN hx hb dX11_won_6 rfl (lv_at hl 0 rfl) ?_
    refine lv_ifnullN (tgt := 17) hx hb dX11_won_7 (by decide) ?_
    refine lv_iconst (v := (-1)) hx hb dX11_won_17 (by decide) ?_
    obtain rfl := Option.some.inj h
    exact W.iret (v := (-1 : Int32)) hx hb hr (q_end hK hP hD hS) hS.2.2 dX11_won_18
  · rw [ho]
    obtain ⟨hr2, h⟩ := f_c h
    refine lv_astore_n (lv' := [(3, .ref (G.2.1 r2)), (0, .ref (G.2.1 0)), (1, .int x1), (2, .int x2)]) hx hb dX11_won_5 rfl hl (by decide) rfl (fun ls hl => ?_)
    refine lv_aload_n hx hb dX11_won_6 rfl (lv_at hl 0 rfl) ?_
    refine lv_ifnull hx hb dX11_won_7 ?_
    refine lv_iload_n hx hb dX11_won_10 rfl (lv_at hl 3 rfl) ?_
    obtain ⟨q3, hq3, h⟩ := f_b h
    refine cl_S (w := (hW G Z Y σ0)) (w' := (hW G Z Y σ0)) (rv := some (.int q3)) (bytes := cX11_areTurns) (maxL := 1) (ret := (some .boolean)) (As := [.int x2]) (rest := []) (stk := [.int q3]) ⟨hx, hb, hml, hown, hts⟩ hK hE hA hP hD hS (c_X11_areTurns l D G (hW G Z Y σ0) x2 q3 hq3) (mkS hts wd_1031 wd_1032 wd_1 wd_1033 rfl rfl hd_X11_areTurns ⟨Nat.le_of_ble_eq_true rfl, Nat.le_of_ble_eq_true rfl⟩) rfl hl.1 rfl (Nat.le_of_ble_eq_true rfl) dX11_won_11 ⟨Nat.zero_le _, Nat.zero_le _⟩ rfl (fun H locs hP hD hS => ?_)
    refine lv_if_ne (tgt := 19) hx hb dX11_won_14 (by decide) (fun c4 => ?_) (fun c4 => ?_)
    · skip
      have h := f_f c4 h
      refine lv_aload_n hx hb dX11_won_19 rfl (lv_at hl 1 rfl) ?_
      refine va_get (D := D) (ci := 11) (v := .ref (G.2.1 7)) (C := RX11) (T := TX11) (N := 16) hx hb hts inU_X11 hown hK hP _ (hg_0 G Z Y σ0) rfl 4 (by decide) (hts _ wd_239) (fun _ h9 => h9) rfl dX11_won_20 ?_
      refine lv_aload_n hx hb dX11_won_23 rfl (lv_at hl 0 rfl) ?_
      refine lv_iload_n hx hb dX11_won_24 rfl (lv_at hl 3 rfl) ?_
      refine lv_ldc2 (v := 1000000007) hx hb hown (hts _ wd_576) dX11_won_25 ?_
      refine lv_iconst (v := 0) hx hb dX11_won_28 (by decide) ?_
      obtain ⟨q5, hq5, h⟩ := f_b h
      refine cl_VN (w := (hW G Z Y σ0)) (w' := (hW G Z Y q5.2)) (rv := some (.long q5.1)) (bytes := cX3_gameWorth) (maxL := 12) (ret := (some .long)) (C := RX3) (As := [.ref (G.2.1 r2), .int x2, .long (1000000007 : Int64), .int (0 : Int32)]) (rest := []) (stk := [.long q5.1]) ⟨hx, hb, hml, hown, hts⟩ hK hE hA hP hD hS (c_X3_gameWorth l D G Z Y σ0 F r2 hr2 x2 (1000000007 : Int64) (0 : Int32) q5 hq5) (mkVN hts (hE.2.2.2.2.2.1 _ (List.mem_of_getElem? (i := 3) rfl)) wd_1036 wp_40 wd_5 wd_1037 rfl rfl hd_X3_gameWorth ⟨Nat.le_of_ble_eq_true rfl, Nat.le_of_ble_eq_true rfl⟩) (hg_7 G Z Y σ0) rfl rfl rfl hl.1 rfl (Nat.le_of_ble_eq_true rfl) dX11_won_29 ⟨Nat.zero_le _, Nat.zero_le _⟩ rfl (fun H locs hP hD hS => ?_)
      refine lv_l2i (v := (q5.1 : Int64).toInt32) hx hb dX11_won_32 rfl ?_
      obtain rfl := Option.some.inj h
      exact W.iret (v := (q5.1 : Int64).toInt32) hx hb hr (q_end hK hP hD hS) hS.2.2 dX11_won_33
    · skip
      have h := f_t c4 h
      refine lv_iconst (v := (-1)) hx hb dX11_won_17 (by decide) ?_
      obtain rfl := Option.some.inj h
      exact W.iret (v := (-1 : Int32)) hx hb hr (q_end hK hP hD hS) hS.2.2 dX11_won_18
abbrev rm_X11_game : Room := { frames := 11, cells := 0, slots := 0, locals := 340 }
set_option maxRecDepth 100000 in
set_option maxHeartbeats 8000000 in
theorem c_X11_game (l : Launch) (D : va_G) (G : hG) (Z : hZ) (Y : va_W) (σ0 : hSt) (F : Nat) (x1 : Int32) (x2 : Int32) (x3 : Int32) (res : (Int32 × hSt)) (h : f_X11_game F Z σ0 x1 x2 x3 = some res) : CT l yX11_game cX11_game 5 (some .int) rm_X11_game D G 0 0 [.ref (G.2.1 0), .int x1, .int x2, .int x3] (hW G Z Y σ0) (hW G Z Y res.2) (some (.int res.1)) := by
  unfold f_X11_game at h
  refine CT.mk (cc := cX11_game) (maxL := 5) (ret := (some .int)) (own := RX11) (plainFor_of_name (by decide)) rfl (Nat.le_of_ble_eq_true rfl) ?_
  intro p e s m args below meth c A ls C0 hnm hA hP hD hl
  obtain ⟨hx, hb, hr, hml, hown, hts, hlocks, hK, hE⟩ := id C0
  have hS : va_S A s.heap s.heap [] := va_S.rf
  have hl : lv_has ls 5 [(0, .ref (G.2.1 0)), (1, .int x1), (2, .int x2), (3, .int x3)] := hl
  refine lv_aload_n hx hb dX11_game_0 rfl (lv_at hl 0 rfl) ?_
  refine lv_iload_n hx hb dX11_game_1 rfl (lv_at hl 1 rfl) ?_
  obtain ⟨q1, hq1, h⟩ := f_b h
  refine cl_V (w := (hW G Z Y σ0)) (w' := (hW G Z Y σ0)) (rv := some (va_rf ((q1).map G.2.1))) (bytes := cX11_sayingAt) (maxL := 2) (ret := (some (.object "LiarHall$Saying"))) (C := RX11) (As := [.int x1]) (rest := []) (stk := [va_rf ((q1).map G.2.1)]) ⟨hx, hb, hml, hown, hts⟩ hK hE hA hP hD hS (c_X11_sayingAt l D G Z Y σ0 x1 q1 hq1) (cwV 1 hts (gwV wd_657 wd_659 wp_19 wd_1 wd_660) rfl rfl rfl hd_X11_sayingAt ⟨Nat.le_of_ble_eq_true rfl, Nat.le_of_ble_eq_true rfl⟩) (hg_0 G Z Y σ0) rfl rfl rfl hl.1 rfl (Nat.le_of_ble_eq_true rfl) dX11_game_2 ⟨Nat.zero_le _, Nat.zero_le _⟩ rfl (fun H locs hP hD hS => ?_)
  rcases f_o h with ⟨ho, h⟩ | ⟨r2, ho, h⟩
  · rw [ho]
    refine lv_astoreN (lv' := [(4, .null), (0, .ref (G.2.1 0)), (1, .int x1), (2, .int x2), (3, .int x3)]) hx hb dX11_game_5 hl (by decide) rfl (fun ls hl => ?_)
    refine lv_aloadN hx hb dX11_game_7 (lv_at hl 0 rfl) ?_
    refine lv_ifnullN (tgt := 26) hx hb dX11_game_9 (by decide) ?_
    refine lv_iconst (v := (-1)) hx hb dX11_game_26 (by decide) ?_
    obtain rfl := Option.some.inj h
    exact W.iret (v := (-1 : Int32)) hx hb hr (q_end hK hP hD hS) hS.2.2 dX11_game_27
  · rw [ho]
    obtain ⟨hr2, h⟩ := f_c h
    refine lv_astore (lv' := [(4, .ref (G.2.1 r2)), (0, .ref (G.2.1 0)), (1, .int x1), (2, .int x2), (3, .int x3)]) hx hb dX11_game_5 hl (by decide) rfl (fun ls hl => ?_)
    refine lv_aload hx hb dX11_game_7 (lv_at hl 0 rfl) ?_
    refine lv_ifnull hx hb dX11_game_9 ?_
    refine lv_iload_n hx hb dX11_game_12 rfl (lv_at hl 3 rfl) ?_
    obtain ⟨q3, hq3, h⟩ := f_b h
    refine cl_S (w := (hW G Z Y σ0)) (w' := (hW G Z Y σ0)) (rv := some (.int q3)) (bytes := cX11_areTurns) (maxL := 1) (ret := (some .boolean)) (As := [.int x2]) (rest := []) (stk := [.int q3]) ⟨hx, hb, hml, hown, hts⟩ hK hE hA hP hD hS (c_X11_areTurns l D G (hW G Z Y σ0) x2 q3 hq3) (mkS hts wd_1031 wd_1032 wd_1 wd_1033 rfl rfl hd_X11_areTurns ⟨Nat.le_of_ble_eq_true rfl, Nat.le_of_ble_eq_true rfl⟩) rfl hl.1 rfl (Nat.le_of_ble_eq_true rfl) dX11_game_13 ⟨Nat.zero_le _, Nat.zero_le _⟩ rfl (fun H locs hP hD hS => ?_)
    refine lv_if_eq (tgt := 26) hx hb dX11_game_16 (by decide) (fun c4 => ?_) (fun c4 => ?_)
    · skip
      have h := f_t c4 h
      refine lv_iconst (v := (-1)) hx hb dX11_game_26 (by decide) ?_
      obtain rfl := Option.some.inj h
      exact W.iret (v := (-1 : Int32)) hx hb hr (q_end hK hP hD hS) hS.2.2 dX11_game_27
    · skip
      have h := f_f c4 h
      refine lv_iload_n hx hb dX11_game_19 rfl (lv_at hl 4 rfl) ?_
      obtain ⟨q5, hq5, h⟩ := f_b h
      refine cl_S (w := (hW G Z Y σ0)) (w' := (hW G Z Y σ0)) (rv := some (.int q5)) (bytes := cX11_isModulus) (maxL := 1) (ret := (some .boolean)) (As := [.int x3]) (rest := []) (stk := [.int q5]) ⟨hx, hb, hml, hown, hts⟩ hK hE hA hP hD hS (c_X11_isModulus l D G (hW G Z Y σ0) F x3 q5 hq5) (mkS hts wd_697 wd_698 wd_1 wd_699 rfl rfl hd_X11_isModulus ⟨Nat.le_of_ble_eq_true rfl, Nat.le_of_ble_eq_true rfl⟩) rfl hl.1 rfl (Nat.le_of_ble_eq_true rfl) dX11_game_20 ⟨Nat.zero_le _, Nat.zero_le _⟩ rfl (fun H locs hP hD hS => ?_)
      refine lv_if_ne (tgt := 28) hx hb dX11_game_23 (by decide) (fun c6 => ?_) (fun c6 => ?_)
      · skip
        have h := f_f c6 h
        refine lv_aload_n hx hb dX11_game_28 rfl (lv_at hl 1 rfl) ?_
        refine lv_iload_n hx hb dX11_game_29 rfl (lv_at hl 4 rfl) ?_
        obtain ⟨q7, hq7, h⟩ := f_b h
        refine cl_V (w := (hW G Z Y σ0)) (w' := (hW G Z Y q7.2)) (rv := none) (bytes := cX11_putPoint) (maxL := 3) (ret := none) (C := RX11) (As := [.int x3]) (rest := []) (stk := []) ⟨hx, hb, hml, hown, hts⟩ hK hE hA hP hD hS (c_X11_putPoint l D G Z Y σ0 F x3 q7 hq7) (cwV 1 hts (gwV wd_713 wd_715 wp_20 wd_1 wd_716) rfl rfl rfl hd_X11_putPoint ⟨Nat.le_of_ble_eq_true rfl, Nat.le_of_ble_eq_true rfl⟩) (hg_0 G Z Y σ0) rfl rfl rfl hl.1 rfl (Nat.le_of_ble_eq_true rfl) dX11_game_30 ⟨Nat.zero_le _, Nat.zero_le _⟩ rfl (fun H locs hP hD hS => ?_)
        refine lv_aload_n hx hb dX11_game_33 rfl (lv_at hl 1 rfl) ?_
        refine va_get (D := D) (ci := 11) (v := .ref (G.2.1 7)) (C := RX11) (T := TX11) (N := 16) hx hb hts inU_X11 hown hK hP _ (hg_0 G Z Y q7.2) rfl 4 (by decide) (hts _ wd_239) (fun _ h9 => h9) rfl dX11_game_34 ?_
        refine lv_aload hx hb dX11_game_37 (lv_at hl 0 rfl) ?_
        refine lv_iload_n hx hb dX11_game_39 rfl (lv_at hl 3 rfl) ?_
        refine lv_iload_n hx hb dX11_game_40 rfl (lv_at hl 4 rfl) ?_
        refine lv_i2l (v := (x3 : Int32).toInt64) hx hb dX11_game_41 rfl ?_
        refine lv_aload_n hx hb dX11_game_42 rfl (lv_at hl 1 rfl) ?_
        refine va_get (D := D) (ci := 11) (v := .int (q7.2.1 0 15)) (C := RX11) (T := TX11) (N := 16) hx hb hts inU_X11 hown hK hP _ (hg_0 G Z Y q7.2) rfl 15 (by decide) (hts _ wd_250) (fun _ h9 => h9) rfl dX11_game_43 ?_
        refine lv_aload hx hb dX11_game_46 (lv_at hl 0 rfl) ?_
        obtain ⟨qq8, hq8⟩ := hg_Sa G Z Y q7.2 hr2
        refine va_getN (D := D) (ci := 5) (v := .int (Z.2.2.1 r2 2)) (C := RX4) (T := TX4) (N := 5) hx hb hts inU_X4 hown hK hP _ hq8 rfl 2 (by decide) (nF_use 13 hE rfl) (fun _ h9 => h9) rfl dX11_game_48 ?_
        refine va_mmin hx hb (hml.trans hl.1.symm) hown (hts _ wd_1043) (hts _ wd_400) (hts _ wd_12) (hts _ wd_401) (Nat.le_of_ble_eq_true rfl) (Nat.le_of_ble_eq_true rfl) (Nat.zero_le _) (Nat.zero_le _) dX11_game_51 ?_
        obtain ⟨q9, hq9, h⟩ := f_b h
        refine cl_VN (w := (hW G Z Y q7.2)) (w' := (hW G Z Y q9.2)) (rv := some (.long q9.1)) (bytes := cX3_gameWorth) (maxL := 12) (ret := (some .long)) (C := RX3) (As := [.ref (G.2.1 r2), .int x2, .long (x3 : Int32).toInt64, .int (if (Z.2.2.1 r2 2) < (q7.2.1 0 15) then (Z.2.2.1 r2 2) else (q7.2.1 0 15))]) (rest := []) (stk := [.long q9.1]) ⟨hx, hb, hml, hown, hts⟩ hK hE hA hP hD hS (c_X3_gameWorth l D G Z Y q7.2 F r2 hr2 x2 ((x3 : Int32).toInt64) (if (Z.2.2.1 r2 2) < (q7.2.1 0 15) then (Z.2.2.1 r2 2) else (q7.2.1 0 15)) q9 hq9) (mkVN hts (hE.2.2.2.2.2.1 _ (List.mem_of_getElem? (i := 3) rfl)) wd_1036 wp_40 wd_5 wd_1037 rfl rfl hd_X3_gameWorth ⟨Nat.le_of_ble_eq_true rfl, Nat.le_of_ble_eq_true rfl⟩) (hg_7 G Z Y q7.2) rfl rfl rfl hl.1 rfl (Nat.le_of_ble_eq_true rfl) dX11_game_54 ⟨Nat.zero_le _, Nat.zero_le _⟩ rfl (fun H locs hP hD hS => ?_)
        refine lv_l2i (v := (q9.1 : Int64).toInt32) hx hb dX11_game_57 rfl ?_
        obtain rfl := Option.some.inj h
        exact W.iret (v := (q9.1 : Int64).toInt32) hx hb hr (q_end hK hP hD hS) hS.2.2 dX11_game_58
      · skip
        have h := f_t c6 h
        refine lv_iconst (v := (-1)) hx hb dX11_game_26 (by decide) ?_
        obtain rfl := Option.some.inj h
        exact W.iret (v := (-1 : Int32)) hx hb hr (q_end hK hP hD hS) hS.2.2 dX11_game_27
abbrev rm_X11_steep : Room := { frames := 5, cells := 0, slots := 0, locals := 115 }
set_option maxRecDepth 100000 in
set_option maxHeartbeats 8000000 in
theorem c_X11_steep (l : Launch) (D : va_G) (G : hG) (Z : hZ) (Y : va_W) (σ0 : hSt) (x1 : Int32) (x2 : Int32) (x3 : Int32) (x4 : Int32) (res : Int32) (h : f_X11_steep Z σ0 x1 x2 x3 x4 = some res) : CT l yX11_steep cX11_steep 8 (some .int) rm_X11_steep D G 0 0 [.ref (G.2.1 0), .int x1, .int x2, .int x3, .int x4] (hW G Z Y σ0) (hW G Z Y σ0) (some (.int res)) := by
  unfold f_X11_steep at h
  refine CT.mk (cc := cX11_steep) (maxL := 8) (ret := (some .int)) (own := RX11) (plainFor_of_name (by decide)) rfl (Nat.le_of_ble_eq_true rfl) ?_
  intro p e s m args below meth c A ls C0 hnm hA hP hD hl
  obtain ⟨hx, hb, hr, hml, hown, hts, hlocks, hK, hE⟩ := id C0
  have hS : va_S A s.heap s.heap [] := va_S.rf
  have hl : lv_has ls 8 [(0, .ref (G.2.1 0)), (1, .int x1), (2, .int x2), (3, .int x3), (4, .int x4)] := hl
  refine lv_aload_n hx hb dX11_steep_0 rfl (lv_at hl 0 rfl) ?_
  refine lv_iload_n hx hb dX11_steep_1 rfl (lv_at hl 1 rfl) ?_
  obtain ⟨q1, hq1, h⟩ := f_b h
  refine cl_V (w := (hW G Z Y σ0)) (w' := (hW G Z Y σ0)) (rv := some (va_rf ((q1).map G.2.1))) (bytes := cX11_sayingAt) (maxL := 2) (ret := (some (.object "LiarHall$Saying"))) (C := RX11) (As := [.int x1]) (rest := []) (stk := [va_rf ((q1).map G.2.1)]) ⟨hx, hb, hml, hown, hts⟩ hK hE hA hP hD hS (c_X11_sayingAt l D G Z Y σ0 x1 q1 hq1) (cwV 1 hts (gwV wd_657 wd_659 wp_19 wd_1 wd_660) rfl rfl rfl hd_X11_sayingAt ⟨Nat.le_of_ble_eq_true rfl, Nat.le_of_ble_eq_true rfl⟩) (hg_0 G Z Y σ0) rfl rfl rfl hl.1 rfl (Nat.le_of_ble_eq_true rfl) dX11_steep_2 ⟨Nat.zero_le _, Nat.zero_le _⟩ rfl (fun H locs hP hD hS => ?_)
  rcases f_o h with ⟨ho, h⟩ | ⟨r2, ho, h⟩
  · rw [ho]
    refine lv_astoreN (lv' := [(5, .null), (0, .ref (G.2.1 0)), (1, .int x1), (2, .int x2), (3, .int x3), (4, .int x4)]) hx hb dX11_steep_5 hl (by decide) rfl (fun ls hl => ?_)
    refine lv_aloadN hx hb dX11_steep_7 (lv_at hl 0 rfl) ?_
    refine lv_ifnullN (tgt := 38) hx hb dX11_steep_9 (by decide) ?_
    refine lv_iconst (v := (-1)) hx hb dX11_steep_38 (by decide) ?_
    obtain rfl := Option.some.inj h
    exact W.iret (v := (-1 : Int32)) hx hb hr (q_end hK hP hD hS) hS.2.2 dX11_steep_39
  · rw [ho]
    obtain ⟨hr2, h⟩ := f_c h
    refine lv_astore (lv' := [(5, .ref (G.2.1 r2)), (0, .ref (G.2.1 0)), (1, .int x1), (2, .int x2), (3, .int x3), (4, .int x4)]) hx hb dX11_steep_5 hl (by decide) rfl (fun ls hl => ?_)
    refine lv_aload hx hb dX11_steep_7 (lv_at hl 0 rfl) ?_
    refine lv_ifnull hx hb dX11_steep_9 ?_
    refine lv_iload_n hx hb dX11_steep_12 rfl (lv_at hl 3 rfl) ?_
    refine lv_if_lt (tgt := 38) hx hb dX11_steep_13 (by decide) (fun c3 => ?_) (fun c3 => ?_)
    · skip
      have h := f_t c3 h
      refine lv_iconst (v := (-1)) hx hb dX11_steep_38 (by decide) ?_
      obtain rfl := Option.some.inj h
      exact W.iret (v := (-1 : Int32)) hx hb hr (q_end hK hP hD hS) hS.2.2 dX11_steep_39
    · skip
      have h := f_f c3 h
      refine lv_iload_n hx hb dX11_steep_16 rfl (lv_at hl 3 rfl) ?_
      refine lv_aload hx hb dX11_steep_17 (lv_at hl 0 rfl) ?_
      obtain ⟨qq4, hq4⟩ := hg_Sa G Z Y σ0 hr2
      refine va_getN (D := D) (ci := 5) (v := .int (Z.2.2.1 r2 2)) (C := RX4) (T := TX4) (N := 5) hx hb hts inU_X4 hown hK hP _ hq4 rfl 2 (by decide) (nF_use 13 hE rfl) (fun _ h9 => h9) rfl dX11_steep_19 ?_
      refine lv_icmp_ge (tgt := 38) hx hb dX11_steep_22 (by decide) (fun c5 => ?_) (fun c5 => ?_)
      · skip
        have h := f_t c5 h
        refine lv_iconst (v := (-1)) hx hb dX11_steep_38 (by decide) ?_
        obtain rfl := Option.some.inj h
        exact W.iret (v := (-1 : Int32)) hx hb hr (q_end hK hP hD hS) hS.2.2 dX11_steep_39
      · skip
        have h := f_f c5 h
        refine lv_iload_n hx hb dX11_steep_25 rfl (lv_at hl 4 rfl) ?_
        refine lv_if_lt (tgt := 38) hx hb dX11_steep_26 (by decide) (fun c6 => ?_) (fun c6 => ?_)
        · skip
          have h := f_t c6 h
          refine lv_iconst (v := (-1)) hx hb dX11_steep_38 (by decide) ?_
          obtain rfl := Option.some.inj h
          exact W.iret (v := (-1 : Int32)) hx hb hr (q_end hK hP hD hS) hS.2.2 dX11_steep_39
        · skip
          have h := f_f c6 h
          refine lv_iload_n hx hb dX11_steep_29 rfl (lv_at hl 4 rfl) ?_
          refine lv_aload hx hb dX11_steep_30 (lv_at hl 0 rfl) ?_
          obtain ⟨qq7, hq7⟩ := hg_Sa G Z Y σ0 hr2
          refine va_getN (D := D) (ci := 5) (v := .int (Z.2.2.1 r2 2)) (C := RX4) (T := TX4) (N := 5) hx hb hts inU_X4 hown hK hP _ hq7 rfl 2 (by decide) (nF_use 13 hE rfl) (fun _ h9 => h9) rfl dX11_steep_32 ?_
          refine lv_icmp_le (tgt := 40) hx hb dX11_steep_35 (by decide) (fun c8 => ?_) (fun c8 => ?_)
          · skip
            have h := f_t c8 h
            refine lv_aload hx hb dX11_steep_40 (lv_at hl 0 rfl) ?_
            refine lv_iload_n hx hb dX11_steep_42 rfl (lv_at hl 3 rfl) ?_
            obtain ⟨q9, hq9, h⟩ := f_b h
            obtain ⟨qq10, hq10⟩ := hg_Sa G Z Y σ0 hr2
            refine cl_V (w := (hW G Z Y σ0)) (w' := (hW G Z Y σ0)) (rv := some (.int q9)) (bytes := cX4_steepOf) (maxL := 2) (ret := (some .int)) (C := RX4) (As := [.int x2]) (rest := []) (stk := [.int q9]) ⟨hx, hb, hml, hown, hts⟩ hK hE hA hP hD hS (c_X4_steepOf l D G Z Y σ0 r2 hr2 x2 q9 hq9) (cwV 1 hts (gwV wd_675 wd_676 wd_677 wd_18 wd_678) rfl rfl rfl hd_X4_steepOf ⟨Nat.le_of_ble_eq_true rfl, Nat.le_of_ble_eq_true rfl⟩) hq10 rfl rfl rfl hl.1 rfl (Nat.le_of_ble_eq_true rfl) dX11_steep_43 ⟨Nat.zero_le _, Nat.zero_le _⟩ rfl (fun H locs hP hD hS => ?_)
            refine lv_istore (lv' := [(6, .int q9), (5, .ref (G.2.1 r2)), (0, .ref (G.2.1 0)), (1, .int x1), (2, .int x2), (3, .int x3), (4, .int x4)]) hx hb dX11_steep_46 hl (by decide) rfl (fun ls hl => ?_)
            refine lv_aload hx hb dX11_steep_48 (lv_at hl 1 rfl) ?_
            obtain ⟨qq11, hq11⟩ := hg_Sa G Z Y σ0 hr2
            refine va_getN (D := D) (ci := 5) (v := .int (Z.2.2.1 r2 2)) (C := RX4) (T := TX4) (N := 5) hx hb hts inU_X4 hown hK hP _ hq11 rfl 2 (by decide) (nF_use 13 hE rfl) (fun _ h9 => h9) rfl dX11_steep_50 ?_
            refine lv_iload_n hx hb dX11_steep_53 rfl (lv_at hl 4 rfl) ?_
            refine lv_iconst (v := 1) hx hb dX11_steep_54 (by decide) ?_
            refine lv_iadd hx hb dX11_steep_55 ?_
            refine lv_iload_n hx hb dX11_steep_56 rfl (lv_at hl 5 rfl) ?_
            refine va_mmax hx hb (hml.trans hl.1.symm) hown (hts _ wd_1022) (hts _ wd_328) (hts _ wd_12) (hts _ wd_329) (Nat.le_of_ble_eq_true rfl) (Nat.le_of_ble_eq_true rfl) (Nat.zero_le _) (Nat.zero_le _) dX11_steep_57 ?_
            refine lv_isub hx hb dX11_steep_60 ?_
            refine lv_istore (lv' := [(7, .int ((Z.2.2.1 r2 2) - (if (x2 + (1 : Int32)) < x3 then x3 else (x2 + (1 : Int32))))), (6, .int q9), (5, .ref (G.2.1 r2)), (0, .ref (G.2.1 0)), (1, .int x1), (2, .int x2), (3, .int x3), (4, .int x4)]) hx hb dX11_steep_61 hl (by decide) rfl (fun ls hl => ?_)
            refine lv_iload hx hb dX11_steep_63 (lv_at hl 0 rfl) ?_
            refine lv_if_le (tgt := 73) hx hb dX11_steep_65 (by decide) (fun c12 => ?_) (fun c12 => ?_)
            · skip
              have h := f_t c12 h
              refine lv_iload hx hb dX11_steep_73 (lv_at hl 1 rfl) ?_
              obtain rfl := Option.some.inj h
              exact W.iret (v := q9) hx hb hr (q_end hK hP hD hS) hS.2.2 dX11_steep_75
            · skip
              have h := f_f c12 h
              refine lv_iload hx hb dX11_steep_68 (lv_at hl 1 rfl) ?_
              refine lv_if_ne (tgt := 76) hx hb dX11_steep_70 (by decide) (fun c13 => ?_) (fun c13 => ?_)
              · skip
                have h := f_f c13 h
                refine lv_iload hx hb dX11_steep_76 (lv_at hl 7 rfl) ?_
                refine lv_if_eq (tgt := 85) hx hb dX11_steep_78 (by decide) (fun c14 => ?_) (fun c14 => ?_)
                · skip
                  have h := f_t c14 h
                  refine lv_iload hx hb dX11_steep_85 (lv_at hl 1 rfl) ?_
                  refine lv_iload hx hb dX11_steep_87 (lv_at hl 0 rfl) ?_
                  refine lv_ishl hx hb dX11_steep_89 ?_
                  obtain rfl := Option.some.inj h
                  exact W.iret (v := (q9 <<< (((Z.2.2.1 r2 2) - (if (x2 + (1 : Int32)) < x3 then x3 else (x2 + (1 : Int32)))) &&& 31))) hx hb hr (q_end hK hP hD hS) hS.2.2 dX11_steep_90
                · skip
                  have h := f_f c14 h
                  refine lv_iconst (v := 2) hx hb dX11_steep_81 (by decide) ?_
                  refine lv_goto (tgt := 90) hx hb dX11_steep_82 (by decide) ?_
                  obtain rfl := Option.some.inj h
                  exact W.iret (v := (2 : Int32)) hx hb hr (q_end hK hP hD hS) hS.2.2 dX11_steep_90
              · skip
                have h := f_t c13 h
                refine lv_iload hx hb dX11_steep_73 (lv_at hl 1 rfl) ?_
                obtain rfl := Option.some.inj h
                exact W.iret (v := q9) hx hb hr (q_end hK hP hD hS) hS.2.2 dX11_steep_75
          · skip
            have h := f_f c8 h
            refine lv_iconst (v := (-1)) hx hb dX11_steep_38 (by decide) ?_
            obtain rfl := Option.some.inj h
            exact W.iret (v := (-1 : Int32)) hx hb hr (q_end hK hP hD hS) hS.2.2 dX11_steep_39
abbrev rm_X11_alike : Room := { frames := 13, cells := 0, slots := 0, locals := 326 }
set_option maxRecDepth 100000 in
set_option maxHeartbeats 8000000 in
theorem c_X11_alike (l : Launch) (D : va_G) (G : hG) (Z : hZ) (Y : va_W) (σ0 : hSt) (F : Nat) (x1 : Int32) (x2 : Int32) (res : (Int32 × hSt)) (h : f_X11_alike F Z σ0 x1 x2 = some res) : CT l yX11_alike cX11_alike 5 (some .int) rm_X11_alike D G 0 0 [.ref (G.2.1 0), .int x1, .int x2] (hW G Z Y σ0) (hW G Z Y res.2) (some (.int res.1)) := by
  unfold f_X11_alike at h
  refine CT.mk (cc := cX11_alike) (maxL := 5) (ret := (some .int)) (own := RX11) (plainFor_of_name (by decide)) rfl (Nat.le_of_ble_eq_true rfl) ?_
  intro p e s m args below meth c A ls C0 hnm hA hP hD hl
  obtain ⟨hx, hb, hr, hml, hown, hts, hlocks, hK, hE⟩ := id C0
  have hS : va_S A s.heap s.heap [] := va_S.rf
  have hl : lv_has ls 5 [(0, .ref (G.2.1 0)), (1, .int x1), (2, .int x2)] := hl
  refine lv_aload_n hx hb dX11_alike_0 rfl (lv_at hl 0 rfl) ?_
  refine lv_iload_n hx hb dX11_alike_1 rfl (lv_at hl 1 rfl) ?_
  obtain ⟨q1, hq1, h⟩ := f_b h
  refine cl_V (w := (hW G Z Y σ0)) (w' := (hW G Z Y σ0)) (rv := some (va_rf ((q1).map G.2.1))) (bytes := cX11_netAt) (maxL := 2) (ret := (some (.object "LiarHall$Net"))) (C := RX11) (As := [.int x1]) (rest := []) (stk := [va_rf ((q1).map G.2.1)]) ⟨hx, hb, hml, hown, hts⟩ hK hE hA hP hD hS (c_X11_netAt l D G Z Y σ0 x1 q1 hq1) (cwV 1 hts (gwV wd_1070 wd_1072 wp_41 wd_1 wd_1073) rfl rfl rfl hd_X11_netAt ⟨Nat.le_of_ble_eq_true rfl, Nat.le_of_ble_eq_true rfl⟩) (hg_0 G Z Y σ0) rfl rfl rfl hl.1 rfl (Nat.le_of_ble_eq_true rfl) dX11_alike_2 ⟨Nat.zero_le _, Nat.zero_le _⟩ rfl (fun H locs hP hD hS => ?_)
  rcases f_o h with ⟨ho, h⟩ | ⟨r2, ho, h⟩
  · rw [ho]
    refine lv_astore_nN (lv' := [(3, .null), (0, .ref (G.2.1 0)), (1, .int x1), (2, .int x2)]) hx hb dX11_alike_5 rfl hl (by decide) rfl (fun ls hl => ?_)
    refine lv_aload_n hx hb dX11_alike_6 rfl (lv_at hl 1 rfl) ?_
    refine lv_iload_n hx hb dX11_alike_7 rfl (lv_at hl 3 rfl) ?_
    obtain ⟨q3, hq3, h⟩ := f_b h
    refine cl_V (w := (hW G Z Y σ0)) (w' := (hW G Z Y σ0)) (rv := some (va_rf ((q3).map G.2.1))) (bytes := cX11_netAt) (maxL := 2) (ret := (some (.object "LiarHall$Net"))) (C := RX11) (As := [.int x2]) (rest := []) (stk := [va_rf ((q3).map G.2.1)]) ⟨hx, hb, hml, hown, hts⟩ hK hE hA hP hD hS (c_X11_netAt l D G Z Y σ0 x2 q3 hq3) (cwV 1 hts (gwV wd_1070 wd_1072 wp_41 wd_1 wd_1073) rfl rfl rfl hd_X11_netAt ⟨Nat.le_of_ble_eq_true rfl, Nat.le_of_ble_eq_true rfl⟩) (hg_0 G Z Y σ0) rfl rfl rfl hl.1 rfl (Nat.le_of_ble_eq_true rfl) dX11_alike_8 ⟨Nat.zero_le _, Nat.zero_le _⟩ rfl (fun H locs hP hD hS => ?_)
    rcases f_o h with ⟨ho, h⟩ | ⟨r4, ho, h⟩
    · rw [ho]
      refine lv_astoreN (lv' := [(4, .null), (3, .null), (0, .ref (G.2.1 0)), (1, .int x1), (2, .int x2)]) hx hb dX11_alike_11 hl (by decide) rfl (fun ls hl => ?_)
      refine lv_aload_nN hx hb dX11_alike_13 rfl (lv_at hl 1 rfl) ?_
      refine lv_ifnullN (tgt := 22) hx hb dX11_alike_14 (by decide) ?_
      refine lv_iconst (v := (-1)) hx hb dX11_alike_22 (by decide) ?_
      obtain rfl := Option.some.inj h
      exact W.iret (v := (-1 : Int32)) hx hb hr (q_end hK hP hD hS) hS.2.2 dX11_alike_23
    · rw [ho]
      obtain ⟨hr4, h⟩ := f_c h
      refine lv_astore (lv' := [(4, .ref (G.2.1 r4)), (3, .null), (0, .ref (G.2.1 0)), (1, .int x1), (2, .int x2)]) hx hb dX11_alike_11 hl (by decide) rfl (fun ls hl => ?_)
      refine lv_aload_nN hx hb dX11_alike_13 rfl (lv_at hl 1 rfl) ?_
      refine lv_ifnullN (tgt := 22) hx hb dX11_alike_14 (by decide) ?_
      refine lv_iconst (v := (-1)) hx hb dX11_alike_22 (by decide) ?_
      obtain rfl := Option.some.inj h
      exact W.iret (v := (-1 : Int32)) hx hb hr (q_end hK hP hD hS) hS.2.2 dX11_alike_23
  · rw [ho]
    obtain ⟨hr2, h⟩ := f_c h
    refine lv_astore_n (lv' := [(3, .ref (G.2.1 r2)), (0, .ref (G.2.1 0)), (1, .int x1), (2, .int x2)]) hx hb dX11_alike_5 rfl hl (by decide) rfl (fun ls hl => ?_)
    refine lv_aload_n hx hb dX11_alike_6 rfl (lv_at hl 1 rfl) ?_
    refine lv_iload_n hx hb dX11_alike_7 rfl (lv_at hl 3 rfl) ?_
    obtain ⟨q5, hq5, h⟩ := f_b h
    refine cl_V (w := (hW G Z Y σ0)) (w' := (hW G Z Y σ0)) (rv := some (va_rf ((q5).map G.2.1))) (bytes := cX11_netAt) (maxL := 2) (ret := (some (.object "LiarHall$Net"))) (C := RX11) (As := [.int x2]) (rest := []) (stk := [va_rf ((q5).map G.2.1)]) ⟨hx, hb, hml, hown, hts⟩ hK hE hA hP hD hS (c_X11_netAt l D G Z Y σ0 x2 q5 hq5) (cwV 1 hts (gwV wd_1070 wd_1072 wp_41 wd_1 wd_1073) rfl rfl rfl hd_X11_netAt ⟨Nat.le_of_ble_eq_true rfl, Nat.le_of_ble_eq_true rfl⟩) (hg_0 G Z Y σ0) rfl rfl rfl hl.1 rfl (Nat.le_of_ble_eq_true rfl) dX11_alike_8 ⟨Nat.zero_le _, Nat.zero_le _⟩ rfl (fun H locs hP hD hS => ?_)
    rcases f_o h with ⟨ho, h⟩ | ⟨r6, ho, h⟩
    · rw [ho]
      refine lv_astoreN (lv' := [(4, .null), (3, .ref (G.2.1 r2)), (0, .ref (G.2.1 0)), (1, .int x1), (2, .int x2)]) hx hb dX11_alike_11 hl (by decide) rfl (fun ls hl => ?_)
      refine lv_aload_n hx hb dX11_alike_13 rfl (lv_at hl 1 rfl) ?_
      refine lv_ifnull hx hb dX11_alike_14 ?_
      refine lv_aloadN hx hb dX11_alike_17 (lv_at hl 0 rfl) ?_
      refine lv_ifnonnullN hx hb dX11_alike_19 ?_
      refine lv_iconst (v := (-1)) hx hb dX11_alike_22 (by decide) ?_
      obtain rfl := Option.some.inj h
      exact W.iret (v := (-1 : Int32)) hx hb hr (q_end hK hP hD hS) hS.2.2 dX11_alike_23
    · rw [ho]
      obtain ⟨hr6, h⟩ := f_c h
      refine lv_astore (lv' := [(4, .ref (G.2.1 r6)), (3, .ref (G.2.1 r2)), (0, .ref (G.2.1 0)), (1, .int x1), (2, .int x2)]) hx hb dX11_alike_11 hl (by decide) rfl (fun ls hl => ?_)
      refine lv_aload_n hx hb dX11_alike_13 rfl (lv_at hl 1 rfl) ?_
      refine lv_ifnull hx hb dX11_alike_14 ?_
      refine lv_aload hx hb dX11_alike_17 (lv_at hl 0 rfl) ?_
      refine lv_ifnonnull (tgt := 24) hx hb dX11_alike_19 (by decide) ?_
      refine lv_aload_n hx hb dX11_alike_24 rfl (lv_at hl 1 rfl) ?_
      refine lv_aload hx hb dX11_alike_25 (lv_at hl 0 rfl) ?_
      refine lv_aload_n hx hb dX11_alike_27 rfl (lv_at hl 2 rfl) ?_
      refine va_get (D := D) (ci := 11) (v := .ref (G.2.1 44)) (C := RX11) (T := TX11) (N := 16) hx hb hts inU_X11 hown hK hP _ (hg_0 G Z Y σ0) rfl 14 (by decide) (hts _ wd_249) (fun _ h9 => h9) rfl dX11_alike_28 ?_
      obtain ⟨q7, hq7, h⟩ := f_b h
      obtain ⟨qq8, hq8⟩ := hg_Ne G Z Y σ0 hr2
      refine cl_V (w := (hW G Z Y σ0)) (w' := (hW G Z Y q7.2)) (rv := some (.int q7.1)) (bytes := cX2_isAlike) (maxL := 3) (ret := (some .boolean)) (C := RX2) (As := [.ref (G.2.1 r6), .ref (G.2.1 44)]) (rest := []) (stk := [.int q7.1]) ⟨hx, hb, hml, hown, hts⟩ hK hE hA hP hD hS (c_X2_isAlike l D G Z Y σ0 F r2 hr2 r6 hr6 q7 hq7) (cwV 2 hts (gwV wd_1074 wd_1075 wd_1076 wd_29 wd_1077) rfl rfl rfl hd_X2_isAlike ⟨Nat.le_of_ble_eq_true rfl, Nat.le_of_ble_eq_true rfl⟩) hq8 rfl rfl rfl hl.1 rfl (Nat.le_of_ble_eq_true rfl) dX11_alike_31 ⟨Nat.zero_le _, Nat.zero_le _⟩ rfl (fun H locs hP hD hS => ?_)
      refine lv_if_eq (tgt := 41) hx hb dX11_alike_34 (by decide) (fun c9 => ?_) (fun c9 => ?_)
      · skip
        have h := f_t c9 h
        refine lv_iconst (v := 0) hx hb dX11_alike_41 (by decide) ?_
        obtain rfl := Option.some.inj h
        exact W.iret (v := (0 : Int32)) hx hb hr (q_end hK hP hD hS) hS.2.2 dX11_alike_42
      · skip
        have h := f_f c9 h
        refine lv_iconst (v := 1) hx hb dX11_alike_37 (by decide) ?_
        refine lv_goto (tgt := 42) hx hb dX11_alike_38 (by decide) ?_
        obtain rfl := Option.some.inj h
        exact W.iret (v := (1 : Int32)) hx hb hr (q_end hK hP hD hS) hS.2.2 dX11_alike_42
abbrev rm_X11_shuffle : Room := { frames := 13, cells := 0, slots := 0, locals := 326 }
set_option maxRecDepth 100000 in
set_option maxHeartbeats 8000000 in
theorem c_X11_shuffle (l : Launch) (D : va_G) (G : hG) (Z : hZ) (Y : va_W) (σ0 : hSt) (F : Nat) (x1 : Int32) (x2 : Int32) (x3 : Int32) (res : (Int32 × hSt)) (h : f_X11_shuffle F Z σ0 x1 x2 x3 = some res) : CT l yX11_shuffle cX11_shuffle 6 (some .int) rm_X11_shuffle D G 0 0 [.ref (G.2.1 0), .int x1, .int x2, .int x3] (hW G Z Y σ0) (hW G Z Y res.2) (some (.int res.1)) := by
  unfold f_X11_shuffle at h
  refine CT.mk (cc := cX11_shuffle) (maxL := 6) (ret := (some .int)) (own := RX11) (plainFor_of_name (by decide)) rfl (Nat.le_of_ble_eq_true rfl) ?_
  intro p e s m args below meth c A ls C0 hnm hA hP hD hl
  obtain ⟨hx, hb, hr, hml, hown, hts, hlocks, hK, hE⟩ := id C0
  have hS : va_S A s.heap s.heap [] := va_S.rf
  have hl : lv_has ls 6 [(0, .ref (G.2.1 0)), (1, .int x1), (2, .int x2), (3, .int x3)] := hl
  refine lv_aload_n hx hb dX11_shuffle_0 rfl (lv_at hl 0 rfl) ?_
  refine lv_iload_n hx hb dX11_shuffle_1 rfl (lv_at hl 1 rfl) ?_
  obtain ⟨q1, hq1, h⟩ := f_b h
  refine cl_V (w := (hW G Z Y σ0)) (w' := (hW G Z Y σ0)) (rv := some (va_rf ((q1).map G.2.1))) (bytes := cX11_netAt) (maxL := 2) (ret := (some (.object "LiarHall$Net"))) (C := RX11) (As := [.int x1]) (rest := []) (stk := [va_rf ((q1).map G.2.1)]) ⟨hx, hb, hml, hown, hts⟩ hK hE hA hP hD hS (c_X11_netAt l D G Z Y σ0 x1 q1 hq1) (cwV 1 hts (gwV wd_1070 wd_1072 wp_41 wd_1 wd_1073) rfl rfl rfl hd_X11_netAt ⟨Nat.le_of_ble_eq_true rfl, Nat.le_of_ble_eq_true rfl⟩) (hg_0 G Z Y σ0) rfl rfl rfl hl.1 rfl (Nat.le_of_ble_eq_true rfl) dX11_shuffle_2 ⟨Nat.zero_le _, Nat.zero_le _⟩ rfl (fun H locs hP hD hS => ?_)
  rcases f_o h with ⟨ho, h⟩ | ⟨r2, ho, h⟩
  · rw [ho]
    refine lv_astoreN (lv' := [(4, .null), (0, .ref (G.2.1 0)), (1, .int x1), (2, .int x2), (3, .int x3)]) hx hb dX11_shuffle_5 hl (by decide) rfl (fun ls hl => ?_)
    refine lv_aload_n hx hb dX11_shuffle_7 rfl (lv_at hl 1 rfl) ?_
    refine lv_iload_n hx hb dX11_shuffle_8 rfl (lv_at hl 3 rfl) ?_
    obtain ⟨q3, hq3, h⟩ := f_b h
    refine cl_V (w := (hW G Z Y σ0)) (w' := (hW G Z Y σ0)) (rv := some (va_rf ((q3).map G.2.1))) (bytes := cX11_netAt) (maxL := 2) (ret := (some (.object "LiarHall$Net"))) (C := RX11) (As := [.int x2]) (rest := []) (stk := [va_rf ((q3).map G.2.1)]) ⟨hx, hb, hml, hown, hts⟩ hK hE hA hP hD hS (c_X11_netAt l D G Z Y σ0 x2 q3 hq3) (cwV 1 hts (gwV wd_1070 wd_1072 wp_41 wd_1 wd_1073) rfl rfl rfl hd_X11_netAt ⟨Nat.le_of_ble_eq_true rfl, Nat.le_of_ble_eq_true rfl⟩) (hg_0 G Z Y σ0) rfl rfl rfl hl.1 rfl (Nat.le_of_ble_eq_true rfl) dX11_shuffle_9 ⟨Nat.zero_le _, Nat.zero_le _⟩ rfl (fun H locs hP hD hS => ?_)
    rcases f_o h with ⟨ho, h⟩ | ⟨r4, ho, h⟩
    · rw [ho]
      refine lv_astoreN (lv' := [(5, .null), (4, .null), (0, .ref (G.2.1 0)), (1, .int x1), (2, .int x2), (3, .int x3)]) hx hb dX11_shuffle_12 hl (by decide) rfl (fun ls hl => ?_)
      refine lv_aloadN hx hb dX11_shuffle_14 (lv_at hl 1 rfl) ?_
      refine lv_ifnullN (tgt := 37) hx hb dX11_shuffle_16 (by decide) ?_
      refine lv_iconst (v := (-1)) hx hb dX11_shuffle_37 (by decide) ?_
      obtain rfl := Option.some.inj h
      exact W.iret (v := (-1 : Int32)) hx hb hr (q_end hK hP hD hS) hS.2.2 dX11_shuffle_38
    · rw [ho]
      obtain ⟨hr4, h⟩ := f_c h
      refine lv_astore (lv' := [(5, .ref (G.2.1 r4)), (4, .null), (0, .ref (G.2.1 0)), (1, .int x1), (2, .int x2), (3, .int x3)]) hx hb dX11_shuffle_12 hl (by decide) rfl (fun ls hl => ?_)
      refine lv_aloadN hx hb dX11_shuffle_14 (lv_at hl 1 rfl) ?_
      refine lv_ifnullN (tgt := 37) hx hb dX11_shuffle_16 (by decide) ?_
      refine lv_iconst (v := (-1)) hx hb dX11_shuffle_37 (by decide) ?_
      obtain rfl := Option.some.inj h
      exact W.iret (v := (-1 : Int32)) hx hb hr (q_end hK hP hD hS) hS.2.2 dX11_shuffle_38
  · rw [ho]
    obtain ⟨hr2, h⟩ := f_c h
    refine lv_astore (lv' := [(4, .ref (G.2.1 r2)), (0, .ref (G.2.1 0)), (1, .int x1), (2, .int x2), (3, .int x3)]) hx hb dX11_shuffle_5 hl (by decide) rfl (fun ls hl => ?_)
    refine lv_aload_n hx hb dX11_shuffle_7 rfl (lv_at hl 1 rfl) ?_
    refine lv_iload_n hx hb dX11_shuffle_8 rfl (lv_at hl 3 rfl) ?_
    obtain ⟨q5, hq5, h⟩ := f_b h
    refine cl_V (w := (hW G Z Y σ0)) (w' := (hW G Z Y σ0)) (rv := some (va_rf ((q5).map G.2.1))) (bytes := cX11_netAt) (maxL := 2) (ret := (some (.object "LiarHall$Net"))) (C := RX11) (As := [.int x2]) (rest := []) (stk := [va_rf ((q5).map G.2.1)]) ⟨hx, hb, hml, hown, hts⟩ hK hE hA hP hD hS (c_X11_netAt l D G Z Y σ0 x2 q5 hq5) (cwV 1 hts (gwV wd_1070 wd_1072 wp_41 wd_1 wd_1073) rfl rfl rfl hd_X11_netAt ⟨Nat.le_of_ble_eq_true rfl, Nat.le_of_ble_eq_true rfl⟩) (hg_0 G Z Y σ0) rfl rfl rfl hl.1 rfl (Nat.le_of_ble_eq_true rfl) dX11_shuffle_9 ⟨Nat.zero_le _, Nat.zero_le _⟩ rfl (fun H locs hP hD hS => ?_)
    rcases f_o h with ⟨ho, h⟩ | ⟨r6, ho, h⟩
    · rw [ho]
      refine lv_astoreN (lv' := [(5, .null), (4, .ref (G.2.1 r2)), (0, .ref (G.2.1 0)), (1, .int x1), (2, .int x2), (3, .int x3)]) hx hb dX11_shuffle_12 hl (by decide) rfl (fun ls hl => ?_)
      refine lv_aload hx hb dX11_shuffle_14 (lv_at hl 1 rfl) ?_
      refine lv_ifnull hx hb dX11_shuffle_16 ?_
      refine lv_aloadN hx hb dX11_shuffle_19 (lv_at hl 0 rfl) ?_
      refine lv_ifnullN (tgt := 37) hx hb dX11_shuffle_21 (by decide) ?_
      refine lv_iconst (v := (-1)) hx hb dX11_shuffle_37 (by decide) ?_
      obtain rfl := Option.some.inj h
      exact W.iret (v := (-1 : Int32)) hx hb hr (q_end hK hP hD hS) hS.2.2 dX11_shuffle_38
    · rw [ho]
      obtain ⟨hr6, h⟩ := f_c h
      refine lv_astore (lv' := [(5, .ref (G.2.1 r6)), (4, .ref (G.2.1 r2)), (0, .ref (G.2.1 0)), (1, .int x1), (2, .int x2), (3, .int x3)]) hx hb dX11_shuffle_12 hl (by decide) rfl (fun ls hl => ?_)
      refine lv_aload hx hb dX11_shuffle_14 (lv_at hl 1 rfl) ?_
      refine lv_ifnull hx hb dX11_shuffle_16 ?_
      refine lv_aload hx hb dX11_shuffle_19 (lv_at hl 0 rfl) ?_
      refine lv_ifnull hx hb dX11_shuffle_21 ?_
      refine lv_iload_n hx hb dX11_shuffle_24 rfl (lv_at hl 5 rfl) ?_
      refine lv_if_lt (tgt := 37) hx hb dX11_shuffle_25 (by decide) (fun c7 => ?_) (fun c7 => ?_)
      · skip
        have h := f_t c7 h
        refine lv_iconst (v := (-1)) hx hb dX11_shuffle_37 (by decide) ?_
        obtain rfl := Option.some.inj h
        exact W.iret (v := (-1 : Int32)) hx hb hr (q_end hK hP hD hS) hS.2.2 dX11_shuffle_38
      · skip
        have h := f_f c7 h
        refine lv_iload_n hx hb dX11_shuffle_28 rfl (lv_at hl 5 rfl) ?_
        refine lv_aload hx hb dX11_shuffle_29 (lv_at hl 1 rfl) ?_
        obtain ⟨qq8, hq8⟩ := hg_Ne G Z Y σ0 hr2
        refine va_getN (D := D) (ci := 3) (v := .int (Z.2.2.1 r2 0)) (C := RX2) (T := TX2) (N := 2) hx hb hts inU_X2 hown hK hP _ hq8 rfl 0 (by decide) (nF_use 26 hE rfl) (fun _ h9 => h9) rfl dX11_shuffle_31 ?_
        refine lv_icmp_lt (tgt := 39) hx hb dX11_shuffle_34 (by decide) (fun c9 => ?_) (fun c9 => ?_)
        · skip
          have h := f_t c9 h
          refine lv_iload_n hx hb dX11_shuffle_39 rfl (lv_at hl 5 rfl) ?_
          refine lv_aload_n hx hb dX11_shuffle_40 rfl (lv_at hl 2 rfl) ?_
          refine va_get (D := D) (ci := 11) (v := .ref (G.2.1 44)) (C := RX11) (T := TX11) (N := 16) hx hb hts inU_X11 hown hK hP _ (hg_0 G Z Y σ0) rfl 14 (by decide) (hts _ wd_249) (fun _ h9 => h9) rfl dX11_shuffle_41 ?_
          refine va_alen (ty := .int) (v := (6 : Int32)) hx hb hK hP _ 0 (hg_44 G Z Y σ0) rfl rfl dX11_shuffle_44 ?_
          refine lv_icmp_ge (tgt := 71) hx hb dX11_shuffle_45 (by decide) (fun c10 => ?_) (fun c10 => ?_)
          · skip
            have h := f_t c10 h
            refine lv_iconst (v := (-1)) hx hb dX11_shuffle_71 (by decide) ?_
            obtain rfl := Option.some.inj h
            exact W.iret (v := (-1 : Int32)) hx hb hr (q_end hK hP hD hS) hS.2.2 dX11_shuffle_72
          · skip
            have h := f_f c10 h
            refine lv_aload hx hb dX11_shuffle_48 (lv_at hl 1 rfl) ?_
            refine lv_aload hx hb dX11_shuffle_50 (lv_at hl 0 rfl) ?_
            refine lv_aload_n hx hb dX11_shuffle_52 rfl (lv_at hl 2 rfl) ?_
            refine va_get (D := D) (ci := 11) (v := .ref (G.2.1 44)) (C := RX11) (T := TX11) (N := 16) hx hb hts inU_X11 hown hK hP _ (hg_0 G Z Y σ0) rfl 14 (by decide) (hts _ wd_249) (fun _ h9 => h9) rfl dX11_shuffle_53 ?_
            obtain ⟨q11, hq11, h⟩ := f_b h
            obtain ⟨qq12, hq12⟩ := hg_Ne G Z Y σ0 hr2
            refine cl_V (w := (hW G Z Y σ0)) (w' := (hW G Z Y q11.2)) (rv := some (.int q11.1)) (bytes := cX2_isAlike) (maxL := 3) (ret := (some .boolean)) (C := RX2) (As := [.ref (G.2.1 r6), .ref (G.2.1 44)]) (rest := []) (stk := [.int q11.1]) ⟨hx, hb, hml, hown, hts⟩ hK hE hA hP hD hS (c_X2_isAlike l D G Z Y σ0 F r2 hr2 r6 hr6 q11 hq11) (cwV 2 hts (gwV wd_1074 wd_1075 wd_1076 wd_29 wd_1077) rfl rfl rfl hd_X2_isAlike ⟨Nat.le_of_ble_eq_true rfl, Nat.le_of_ble_eq_true rfl⟩) hq12 rfl rfl rfl hl.1 rfl (Nat.le_of_ble_eq_true rfl) dX11_shuffle_56 ⟨Nat.zero_le _, Nat.zero_le _⟩ rfl (fun H locs hP hD hS => ?_)
            refine lv_if_eq (tgt := 71) hx hb dX11_shuffle_59 (by decide) (fun c13 => ?_) (fun c13 => ?_)
            · skip
              have h := f_t c13 h
              refine lv_iconst (v := (-1)) hx hb dX11_shuffle_71 (by decide) ?_
              obtain rfl := Option.some.inj h
              exact W.iret (v := (-1 : Int32)) hx hb hr (q_end hK hP hD hS) hS.2.2 dX11_shuffle_72
            · skip
              have h := f_f c13 h
              refine lv_aload_n hx hb dX11_shuffle_62 rfl (lv_at hl 2 rfl) ?_
              refine va_get (D := D) (ci := 11) (v := .ref (G.2.1 44)) (C := RX11) (T := TX11) (N := 16) hx hb hts inU_X11 hown hK hP _ (hg_0 G Z Y q11.2) rfl 14 (by decide) (hts _ wd_249) (fun _ h9 => h9) rfl dX11_shuffle_63 ?_
              refine lv_iload_n hx hb dX11_shuffle_66 rfl (lv_at hl 5 rfl) ?_
              obtain ⟨c14, h⟩ := f_n h
              refine va_ialdE (v := (q11.2.1 44 ((x3 : Int32).toNatClampNeg))) hx hb hK hP _ 0 (hg_44 G Z Y q11.2) rfl c14 dX11_shuffle_67 rfl ?_
              refine lv_goto (tgt := 72) hx hb dX11_shuffle_68 (by decide) ?_
              obtain rfl := Option.some.inj h
              exact W.iret (v := (q11.2.1 44 ((x3 : Int32).toNatClampNeg))) hx hb hr (q_end hK hP hD hS) hS.2.2 dX11_shuffle_72
        · skip
          have h := f_f c9 h
          refine lv_iconst (v := (-1)) hx hb dX11_shuffle_37 (by decide) ?_
          obtain rfl := Option.some.inj h
          exact W.iret (v := (-1 : Int32)) hx hb hr (q_end hK hP hD hS) hS.2.2 dX11_shuffle_38
abbrev rm_X11_unlike : Room := { frames := 13, cells := 0, slots := 0, locals := 326 }
set_option maxRecDepth 100000 in
set_option maxHeartbeats 8000000 in
theorem W_X11_unlike_L93 {p : Program} {e : Env} {s : State} {m : MethodId} {args : Array Value} {below : List Frame} {meth : Method} {c : Code} {A : Nat → Prop} (l : Launch) (D : va_G) (G : hG) (Z : hZ) (Y : va_W) (σ0 : hSt) (F : Nat) (x1 : Int32) (x2 : Int32) (x3 : Int64) (x5 : Int32) (σ1 : hSt) (y5 : Int32) (y8 : Int32) (y9 : Int32) (res : (Int32 × hSt)) (C0 : Cx p s m args meth c cX11_unlike (some .int) RX11 14 D G A) (hA : ∀ q : Nat, s.heap.size ≤ q → A q) : ∀ (n : Nat) (z10 : Int64) (z12 : Int32) (z13 : Int32), f_X11_unlike_L93 σ1 y5 y8 y9 n z10 z12 z13 = some res → ∀ (H : Heap) (locs : List Loc) (ls : Array Slot), va_P D vwCl (hW G Z Y σ1) H → va_D A (hW G Z Y σ1) → va_S A s.heap H locs → lv_has ls 14 [(5, .int y5), (8, .int y8), (9, .int y9), (10, .long z10), (12, .int z12), (13, .int z13)] → W p l e rm_X11_unlike s m args below meth c H locs 0 0 (MQ below (Qg (some (.int res.1)) D (tysG G) (hW G Z Y res.2) A) args s 0 0 A) (F0 m 93 ls []) := by
  obtain ⟨hx, hb, hr, hml, hown, hts, hlocks, hK, hE⟩ := id C0
  intro n
  induction n with
  | zero =>
    intro z10 z12 z13 h
    cases h
  | succ n ih =>
    intro z10 z12 z13 h H locs ls hP hD hS hl
    rw [f_X11_unlike_L93] at h
    refine lv_iload hx hb dX11_unlike_93 (lv_at hl 5 rfl) ?_
    refine lv_iload hx hb dX11_unlike_95 (lv_at hl 0 rfl) ?_
    refine lv_icmp_ge (tgt := 140) hx hb dX11_unlike_97 (by decide) (fun c16 => ?_) (fun c16 => ?_)
    · skip
      have h := f_t c16 h
      refine lv_iload hx hb dX11_unlike_140 (lv_at hl 4 rfl) ?_
      obtain rfl := Option.some.inj h
      exact W.iret (v := z12) hx hb hr (q_end hK hP hD hS) hS.2.2 dX11_unlike_142
    · skip
      have h := f_f c16 h
      refine lv_lload hx hb dX11_unlike_100 (lv_at hl 3 rfl) ?_
      refine lv_ldc2 (v := 6364136223846793005) hx hb hown (hts _ wd_1100) dX11_unlike_102 ?_
      refine lv_lmul hx hb dX11_unlike_105 ?_
      refine lv_ldc2 (v := 1442695040888963407) hx hb hown (hts _ wd_1101) dX11_unlike_106 ?_
      refine lv_ladd hx hb dX11_unlike_109 ?_
      refine lv_lstore (lv' := [(10, .long ((z10 * (6364136223846793005 : Int64)) + (1442695040888963407 : Int64))), (5, .int y5), (8, .int y8), (9, .int y9), (12, .int z12), (13, .int z13)]) hx hb dX11_unlike_110 hl (by decide) rfl (fun ls hl => ?_)
      refine lv_iload hx hb dX11_unlike_112 (lv_at hl 2 rfl) ?_
      refine lv_if_eq (tgt := 131) hx hb dX11_unlike_114 (by decide) (fun c17 => ?_) (fun c17 => ?_)
      · skip
        have h := f_t c17 h
        refine lv_iinc (v := (z12 + 1)) (lv' := [(12, .int (z12 + 1)), (10, .long ((z10 * (6364136223846793005 : Int64)) + (1442695040888963407 : Int64))), (5, .int y5), (8, .int y8), (9, .int y9), (13, .int z13)]) hx hb dX11_unlike_131 hl (k := 4) rfl rfl (by decide) rfl (fun ls hl => ?_)
        refine lv_iinc (v := (z13 + 1)) (lv' := [(13, .int (z13 + 1)), (12, .int (z12 + 1)), (10, .long ((z10 * (6364136223846793005 : Int64)) + (1442695040888963407 : Int64))), (5, .int y5), (8, .int y8), (9, .int y9)]) hx hb dX11_unlike_134 hl (k := 5) rfl rfl (by decide) rfl (fun ls hl => ?_)
        refine lv_goto (tgt := 93) hx hb dX11_unlike_137 (by decide) ?_
        exact ih ((z10 * (6364136223846793005 : Int64)) + (1442695040888963407 : Int64)) (z12 + 1) (z13 + 1) h _ _ _ hP hD hS (lv_sub hl [3, 4, 5, 2, 1, 0] rfl)
      · skip
        have h := f_f c17 h
        refine lv_lload hx hb dX11_unlike_117 (lv_at hl 0 rfl) ?_
        refine lv_bipush (v := 33) hx hb dX11_unlike_119 (by decide) ?_
        refine lv_lushr (v := ((((z10 * (6364136223846793005 : Int64)) + (1442695040888963407 : Int64))).toUInt64 >>> (((33 : Int32) : Int32).toInt64.toUInt64 &&& Int64.toUInt64 63)).toInt64) hx hb dX11_unlike_121 rfl ?_
        refine lv_lconst (v := 1) hx hb dX11_unlike_122 (by decide) ?_
        refine lv_land hx hb dX11_unlike_123 ?_
        refine lv_iload hx hb dX11_unlike_124 (lv_at hl 3 rfl) ?_
        refine lv_i2l (v := (y9 : Int32).toInt64) hx hb dX11_unlike_126 rfl ?_
        refine W.lcmp hx hb dX11_unlike_127 ?_
        refine lv_if_ne (tgt := 134) hx hb dX11_unlike_128 (by decide) (fun c18 => ?_) (fun c18 => ?_)
        · skip
          have c18 := mt (lg_cmp_eq _ _).mpr c18
          have h := f_f c18 h
          refine lv_iinc (v := (z13 + 1)) (lv' := [(13, .int (z13 + 1)), (10, .long ((z10 * (6364136223846793005 : Int64)) + (1442695040888963407 : Int64))), (5, .int y5), (8, .int y8), (9, .int y9), (12, .int z12)]) hx hb dX11_unlike_134 hl (k := 5) rfl rfl (by decide) rfl (fun ls hl => ?_)
          refine lv_goto (tgt := 93) hx hb dX11_unlike_137 (by decide) ?_
          exact ih ((z10 * (6364136223846793005 : Int64)) + (1442695040888963407 : Int64)) z12 (z13 + 1) h _ _ _ hP hD hS (lv_sub hl [2, 3, 4, 1, 5, 0] rfl)
        · skip
          have c18 := (lg_cmp_eq _ _).mp c18
          have h := f_t c18 h
          refine lv_iinc (v := (z12 + 1)) (lv' := [(12, .int (z12 + 1)), (10, .long ((z10 * (6364136223846793005 : Int64)) + (1442695040888963407 : Int64))), (5, .int y5), (8, .int y8), (9, .int y9), (13, .int z13)]) hx hb dX11_unlike_131 hl (k := 4) rfl rfl (by decide) rfl (fun ls hl => ?_)
          refine lv_iinc (v := (z13 + 1)) (lv' := [(13, .int (z13 + 1)), (12, .int (z12 + 1)), (10, .long ((z10 * (6364136223846793005 : Int64)) + (1442695040888963407 : Int64))), (5, .int y5), (8, .int y8), (9, .int y9)]) hx hb dX11_unlike_134 hl (k := 5) rfl rfl (by decide) rfl (fun ls hl => ?_)
          refine lv_goto (tgt := 93) hx hb dX11_unlike_137 (by decide) ?_
          exact ih ((z10 * (6364136223846793005 : Int64)) + (1442695040888963407 : Int64)) (z12 + 1) (z13 + 1) h _ _ _ hP hD hS (lv_sub hl [3, 4, 5, 2, 1, 0] rfl)
set_option maxRecDepth 100000 in
set_option maxHeartbeats 8000000 in
theorem c_X11_unlike (l : Launch) (D : va_G) (G : hG) (Z : hZ) (Y : va_W) (σ0 : hSt) (F : Nat) (x1 : Int32) (x2 : Int32) (x3 : Int64) (x5 : Int32) (res : (Int32 × hSt)) (h : f_X11_unlike F Z σ0 x1 x2 x3 x5 = some res) : CT l yX11_unlike cX11_unlike 14 (some .int) rm_X11_unlike D G 0 0 [.ref (G.2.1 0), .int x1, .int x2, .long x3, .int x5] (hW G Z Y σ0) (hW G Z Y res.2) (some (.int res.1)) := by
  unfold f_X11_unlike at h
  refine CT.mk (cc := cX11_unlike) (maxL := 14) (ret := (some .int)) (own := RX11) (plainFor_of_name (by decide)) rfl (Nat.le_of_ble_eq_true rfl) ?_
  intro p e s m args below meth c A ls C0 hnm hA hP hD hl
  obtain ⟨hx, hb, hr, hml, hown, hts, hlocks, hK, hE⟩ := id C0
  have hS : va_S A s.heap s.heap [] := va_S.rf
  have hl : lv_has ls 14 [(0, .ref (G.2.1 0)), (1, .int x1), (2, .int x2), (3, .long x3), (5, .int x5)] := hl
  refine lv_aload_n hx hb dX11_unlike_0 rfl (lv_at hl 0 rfl) ?_
  refine lv_iload_n hx hb dX11_unlike_1 rfl (lv_at hl 1 rfl) ?_
  obtain ⟨q1, hq1, h⟩ := f_b h
  refine cl_V (w := (hW G Z Y σ0)) (w' := (hW G Z Y σ0)) (rv := some (va_rf ((q1).map G.2.1))) (bytes := cX11_netAt) (maxL := 2) (ret := (some (.object "LiarHall$Net"))) (C := RX11) (As := [.int x1]) (rest := []) (stk := [va_rf ((q1).map G.2.1)]) ⟨hx, hb, hml, hown, hts⟩ hK hE hA hP hD hS (c_X11_netAt l D G Z Y σ0 x1 q1 hq1) (cwV 1 hts (gwV wd_1070 wd_1072 wp_41 wd_1 wd_1073) rfl rfl rfl hd_X11_netAt ⟨Nat.le_of_ble_eq_true rfl, Nat.le_of_ble_eq_true rfl⟩) (hg_0 G Z Y σ0) rfl rfl rfl hl.1 rfl (Nat.le_of_ble_eq_true rfl) dX11_unlike_2 ⟨Nat.zero_le _, Nat.zero_le _⟩ rfl (fun H locs hP hD hS => ?_)
  rcases f_o h with ⟨ho, h⟩ | ⟨r2, ho, h⟩
  · rw [ho]
    refine lv_astoreN (lv' := [(6, .null), (0, .ref (G.2.1 0)), (1, .int x1), (2, .int x2), (3, .long x3), (5, .int x5)]) hx hb dX11_unlike_5 hl (by decide) rfl (fun ls hl => ?_)
    refine lv_aload_n hx hb dX11_unlike_7 rfl (lv_at hl 1 rfl) ?_
    refine lv_iload_n hx hb dX11_unlike_8 rfl (lv_at hl 3 rfl) ?_
    obtain ⟨q3, hq3, h⟩ := f_b h
    refine cl_V (w := (hW G Z Y σ0)) (w' := (hW G Z Y σ0)) (rv := some (va_rf ((q3).map G.2.1))) (bytes := cX11_netAt) (maxL := 2) (ret := (some (.object "LiarHall$Net"))) (C := RX11) (As := [.int x2]) (rest := []) (stk := [va_rf ((q3).map G.2.1)]) ⟨hx, hb, hml, hown, hts⟩ hK hE hA hP hD hS (c_X11_netAt l D G Z Y σ0 x2 q3 hq3) (cwV 1 hts (gwV wd_1070 wd_1072 wp_41 wd_1 wd_1073) rfl rfl rfl hd_X11_netAt ⟨Nat.le_of_ble_eq_true rfl, Nat.le_of_ble_eq_true rfl⟩) (hg_0 G Z Y σ0) rfl rfl rfl hl.1 rfl (Nat.le_of_ble_eq_true rfl) dX11_unlike_9 ⟨Nat.zero_le _, Nat.zero_le _⟩ rfl (fun H locs hP hD hS => ?_)
    rcases f_o h with ⟨ho, h⟩ | ⟨r4, ho, h⟩
    · rw [ho]
      refine lv_astoreN (lv' := [(7, .null), (6, .null), (0, .ref (G.2.1 0)), (1, .int x1), (2, .int x2), (3, .long x3), (5, .int x5)]) hx hb dX11_unlike_12 hl (by decide) rfl (fun ls hl => ?_)
      refine lv_aloadN hx hb dX11_unlike_14 (lv_at hl 1 rfl) ?_
      refine lv_ifnullN (tgt := 42) hx hb dX11_unlike_16 (by decide) ?_
      refine lv_iconst (v := (-1)) hx hb dX11_unlike_42 (by decide) ?_
      obtain rfl := Option.some.inj h
      exact W.iret (v := (-1 : Int32)) hx hb hr (q_end hK hP hD hS) hS.2.2 dX11_unlike_43
    · rw [ho]
      obtain ⟨hr4, h⟩ := f_c h
      refine lv_astore (lv' := [(7, .ref (G.2.1 r4)), (6, .null), (0, .ref (G.2.1 0)), (1, .int x1), (2, .int x2), (3, .long x3), (5, .int x5)]) hx hb dX11_unlike_12 hl (by decide) rfl (fun ls hl => ?_)
      refine lv_aloadN hx hb dX11_unlike_14 (lv_at hl 1 rfl) ?_
      refine lv_ifnullN (tgt := 42) hx hb dX11_unlike_16 (by decide) ?_
      refine lv_iconst (v := (-1)) hx hb dX11_unlike_42 (by decide) ?_
      obtain rfl := Option.some.inj h
      exact W.iret (v := (-1 : Int32)) hx hb hr (q_end hK hP hD hS) hS.2.2 dX11_unlike_43
  · rw [ho]
    obtain ⟨hr2, h⟩ := f_c h
    refine lv_astore (lv' := [(6, .ref (G.2.1 r2)), (0, .ref (G.2.1 0)), (1, .int x1), (2, .int x2), (3, .long x3), (5, .int x5)]) hx hb dX11_unlike_5 hl (by decide) rfl (fun ls hl => ?_)
    refine lv_aload_n hx hb dX11_unlike_7 rfl (lv_at hl 1 rfl) ?_
    refine lv_iload_n hx hb dX11_unlike_8 rfl (lv_at hl 3 rfl) ?_
    obtain ⟨q5, hq5, h⟩ := f_b h
    refine cl_V (w := (hW G Z Y σ0)) (w' := (hW G Z Y σ0)) (rv := some (va_rf ((q5).map G.2.1))) (bytes := cX11_netAt) (maxL := 2) (ret := (some (.object "LiarHall$Net"))) (C := RX11) (As := [.int x2]) (rest := []) (stk := [va_rf ((q5).map G.2.1)]) ⟨hx, hb, hml, hown, hts⟩ hK hE hA hP hD hS (c_X11_netAt l D G Z Y σ0 x2 q5 hq5) (cwV 1 hts (gwV wd_1070 wd_1072 wp_41 wd_1 wd_1073) rfl rfl rfl hd_X11_netAt ⟨Nat.le_of_ble_eq_true rfl, Nat.le_of_ble_eq_true rfl⟩) (hg_0 G Z Y σ0) rfl rfl rfl hl.1 rfl (Nat.le_of_ble_eq_true rfl) dX11_unlike_9 ⟨Nat.zero_le _, Nat.zero_le _⟩ rfl (fun H locs hP hD hS => ?_)
    rcases f_o h with ⟨ho, h⟩ | ⟨r6, ho, h⟩
    · rw [ho]
      refine lv_astoreN (lv' := [(7, .null), (6, .ref (G.2.1 r2)), (0, .ref (G.2.1 0)), (1, .int x1), (2, .int x2), (3, .long x3), (5, .int x5)]) hx hb dX11_unlike_12 hl (by decide) rfl (fun ls hl => ?_)
      refine lv_aload hx hb dX11_unlike_14 (lv_at hl 1 rfl) ?_
      refine lv_ifnull hx hb dX11_unlike_16 ?_
      refine lv_aloadN hx hb dX11_unlike_19 (lv_at hl 0 rfl) ?_
      refine lv_ifnullN (tgt := 42) hx hb dX11_unlike_21 (by decide) ?_
      refine lv_iconst (v := (-1)) hx hb dX11_unlike_42 (by decide) ?_
      obtain rfl := Option.some.inj h
      exact W.iret (v := (-1 : Int32)) hx hb hr (q_end hK hP hD hS) hS.2.2 dX11_unlike_43
    · rw [ho]
      obtain ⟨hr6, h⟩ := f_c h
      refine lv_astore (lv' := [(7, .ref (G.2.1 r6)), (6, .ref (G.2.1 r2)), (0, .ref (G.2.1 0)), (1, .int x1), (2, .int x2), (3, .long x3), (5, .int x5)]) hx hb dX11_unlike_12 hl (by decide) rfl (fun ls hl => ?_)
      refine lv_aload hx hb dX11_unlike_14 (lv_at hl 1 rfl) ?_
      refine lv_ifnull hx hb dX11_unlike_16 ?_
      refine lv_aload hx hb dX11_unlike_19 (lv_at hl 0 rfl) ?_
      refine lv_ifnull hx hb dX11_unlike_21 ?_
      refine lv_iload_n hx hb dX11_unlike_24 rfl (lv_at hl 3 rfl) ?_
      refine lv_iload_n hx hb dX11_unlike_25 rfl (lv_at hl 4 rfl) ?_
      refine lv_icmp_eq (tgt := 42) hx hb dX11_unlike_26 (by decide) (fun c7 => ?_) (fun c7 => ?_)
      · skip
        have h := f_t c7 h
        refine lv_iconst (v := (-1)) hx hb dX11_unlike_42 (by decide) ?_
        obtain rfl := Option.some.inj h
        exact W.iret (v := (-1 : Int32)) hx hb hr (q_end hK hP hD hS) hS.2.2 dX11_unlike_43
      · skip
        have h := f_f c7 h
        refine lv_aload hx hb dX11_unlike_29 (lv_at hl 1 rfl) ?_
        obtain ⟨qq8, hq8⟩ := hg_Ne G Z Y σ0 hr2
        refine va_getN (D := D) (ci := 3) (v := .int (Z.2.2.1 r2 0)) (C := RX2) (T := TX2) (N := 2) hx hb hts inU_X2 hown hK hP _ hq8 rfl 0 (by decide) (nF_use 26 hE rfl) (fun _ h9 => h9) rfl dX11_unlike_31 ?_
        refine lv_aload hx hb dX11_unlike_34 (lv_at hl 0 rfl) ?_
        obtain ⟨qq9, hq9⟩ := hg_Ne G Z Y σ0 hr6
        refine va_getN (D := D) (ci := 3) (v := .int (Z.2.2.1 r6 0)) (C := RX2) (T := TX2) (N := 2) hx hb hts inU_X2 hown hK hP _ hq9 rfl 0 (by decide) (nF_use 26 hE rfl) (fun _ h9 => h9) rfl dX11_unlike_36 ?_
        refine lv_icmp_eq (tgt := 44) hx hb dX11_unlike_39 (by decide) (fun c10 => ?_) (fun c10 => ?_)
        · skip
          have h := f_t c10 h
          refine lv_iload hx hb dX11_unlike_44 (lv_at hl 6 rfl) ?_
          refine lv_iconst (v := 1) hx hb dX11_unlike_46 (by decide) ?_
          refine lv_icmp_lt (tgt := 57) hx hb dX11_unlike_47 (by decide) (fun c11 => ?_) (fun c11 => ?_)
          · skip
            have h := f_t c11 h
            refine lv_iconst (v := (-1)) hx hb dX11_unlike_57 (by decide) ?_
            obtain rfl := Option.some.inj h
            exact W.iret (v := (-1 : Int32)) hx hb hr (q_end hK hP hD hS) hS.2.2 dX11_unlike_58
          · skip
            have h := f_f c11 h
            refine lv_iload hx hb dX11_unlike_50 (lv_at hl 6 rfl) ?_
            refine lv_bipush (v := 30) hx hb dX11_unlike_52 (by decide) ?_
            refine lv_icmp_le (tgt := 59) hx hb dX11_unlike_54 (by decide) (fun c12 => ?_) (fun c12 => ?_)
            · skip
              have h := f_t c12 h
              refine lv_aload hx hb dX11_unlike_59 (lv_at hl 1 rfl) ?_
              refine lv_aload hx hb dX11_unlike_61 (lv_at hl 0 rfl) ?_
              refine lv_aload_n hx hb dX11_unlike_63 rfl (lv_at hl 2 rfl) ?_
              refine va_get (D := D) (ci := 11) (v := .ref (G.2.1 44)) (C := RX11) (T := TX11) (N := 16) hx hb hts inU_X11 hown hK hP _ (hg_0 G Z Y σ0) rfl 14 (by decide) (hts _ wd_249) (fun _ h9 => h9) rfl dX11_unlike_64 ?_
              obtain ⟨q13, hq13, h⟩ := f_b h
              obtain ⟨qq14, hq14⟩ := hg_Ne G Z Y σ0 hr2
              refine cl_V (w := (hW G Z Y σ0)) (w' := (hW G Z Y q13.2)) (rv := some (.int q13.1)) (bytes := cX2_isAlike) (maxL := 3) (ret := (some .boolean)) (C := RX2) (As := [.ref (G.2.1 r6), .ref (G.2.1 44)]) (rest := []) (stk := [.int q13.1]) ⟨hx, hb, hml, hown, hts⟩ hK hE hA hP hD hS (c_X2_isAlike l D G Z Y σ0 F r2 hr2 r6 hr6 q13 hq13) (cwV 2 hts (gwV wd_1074 wd_1075 wd_1076 wd_29 wd_1077) rfl rfl rfl hd_X2_isAlike ⟨Nat.le_of_ble_eq_true rfl, Nat.le_of_ble_eq_true rfl⟩) hq14 rfl rfl rfl hl.1 rfl (Nat.le_of_ble_eq_true rfl) dX11_unlike_67 ⟨Nat.zero_le _, Nat.zero_le _⟩ rfl (fun H locs hP hD hS => ?_)
              refine lv_istore (lv' := [(8, .int q13.1), (7, .ref (G.2.1 r6)), (6, .ref (G.2.1 r2)), (0, .ref (G.2.1 0)), (1, .int x1), (2, .int x2), (3, .long x3), (5, .int x5)]) hx hb dX11_unlike_70 hl (by decide) rfl (fun ls hl => ?_)
              refine lv_iload_n hx hb dX11_unlike_72 rfl (lv_at hl 4 rfl) ?_
              refine lv_iload_n hx hb dX11_unlike_73 rfl (lv_at hl 5 rfl) ?_
              refine lv_icmp_ge (tgt := 81) hx hb dX11_unlike_74 (by decide) (fun c15 => ?_) (fun c15 => ?_)
              · skip
                have h := f_t c15 h
                refine lv_iconst (v := 1) hx hb dX11_unlike_81 (by decide) ?_
                refine lv_istore (lv' := [(9, .int (1 : Int32)), (8, .int q13.1), (7, .ref (G.2.1 r6)), (6, .ref (G.2.1 r2)), (0, .ref (G.2.1 0)), (1, .int x1), (2, .int x2), (3, .long x3), (5, .int x5)]) hx hb dX11_unlike_82 hl (by decide) rfl (fun ls hl => ?_)
                refine lv_lload_n hx hb dX11_unlike_84 rfl (lv_at hl 7 rfl) ?_
                refine lv_lstore (lv' := [(10, .long x3), (9, .int (1 : Int32)), (8, .int q13.1), (7, .ref (G.2.1 r6)), (6, .ref (G.2.1 r2)), (0, .ref (G.2.1 0)), (1, .int x1), (2, .int x2), (3, .long x3), (5, .int x5)]) hx hb dX11_unlike_85 hl (by decide) rfl (fun ls hl => ?_)
                refine lv_iconst (v := 0) hx hb dX11_unlike_87 (by decide) ?_
                refine lv_istore (lv' := [(12, .int (0 : Int32)), (10, .long x3), (9, .int (1 : Int32)), (8, .int q13.1), (7, .ref (G.2.1 r6)), (6, .ref (G.2.1 r2)), (0, .ref (G.2.1 0)), (1, .int x1), (2, .int x2), (3, .long x3), (5, .int x5)]) hx hb dX11_unlike_88 hl (by decide) rfl (fun ls hl => ?_)
                refine lv_iconst (v := 0) hx hb dX11_unlike_90 (by decide) ?_
                refine lv_istore (lv' := [(13, .int (0 : Int32)), (12, .int (0 : Int32)), (10, .long x3), (9, .int (1 : Int32)), (8, .int q13.1), (7, .ref (G.2.1 r6)), (6, .ref (G.2.1 r2)), (0, .ref (G.2.1 0)), (1, .int x1), (2, .int x2), (3, .long x3), (5, .int x5)]) hx hb dX11_unlike_91 hl (by decide) rfl (fun ls hl => ?_)
                refine W_X11_unlike_L93 l D G Z Y σ0 F x1 x2 x3 x5 q13.2 x5 q13.1 (1 : Int32) res C0 hA F x3 (0 : Int32) (0 : Int32) h _ _ _ hP hD hS (lv_sub hl [11, 4, 3, 2, 1, 0] rfl)
              · skip
                have h := f_f c15 h
                refine lv_iconst (v := 0) hx hb dX11_unlike_77 (by decide) ?_
                refine lv_goto (tgt := 82) hx hb dX11_unlike_78 (by decide) ?_
                refine lv_istore (lv' := [(9, .int (0 : Int32)), (8, .int q13.1), (7, .ref (G.2.1 r6)), (6, .ref (G.2.1 r2)), (0, .ref (G.2.1 0)), (1, .int x1), (2, .int x2), (3, .long x3), (5, .int x5)]) hx hb dX11_unlike_82 hl (by decide) rfl (fun ls hl => ?_)
                refine lv_lload_n hx hb dX11_unlike_84 rfl (lv_at hl 7 rfl) ?_
                refine lv_lstore (lv' := [(10, .long x3), (9, .int (0 : Int32)), (8, .int q13.1), (7, .ref (G.2.1 r6)), (6, .ref (G.2.1 r2)), (0, .ref (G.2.1 0)), (1, .int x1), (2, .int x2), (3, .long x3), (5, .int x5)]) hx hb dX11_unlike_85 hl (by decide) rfl (fun ls hl => ?_)
                refine lv_iconst (v := 0) hx hb dX11_unlike_87 (by decide) ?_
                refine lv_istore (lv' := [(12, .int (0 : Int32)), (10, .long x3), (9, .int (0 : Int32)), (8, .int q13.1), (7, .ref (G.2.1 r6)), (6, .ref (G.2.1 r2)), (0, .ref (G.2.1 0)), (1, .int x1), (2, .int x2), (3, .long x3), (5, .int x5)]) hx hb dX11_unlike_88 hl (by decide) rfl (fun ls hl => ?_)
                refine lv_iconst (v := 0) hx hb dX11_unlike_90 (by decide) ?_
                refine lv_istore (lv' := [(13, .int (0 : Int32)), (12, .int (0 : Int32)), (10, .long x3), (9, .int (0 : Int32)), (8, .int q13.1), (7, .ref (G.2.1 r6)), (6, .ref (G.2.1 r2)), (0, .ref (G.2.1 0)), (1, .int x1), (2, .int x2), (3, .long x3), (5, .int x5)]) hx hb dX11_unlike_91 hl (by decide) rfl (fun ls hl => ?_)
                refine W_X11_unlike_L93 l D G Z Y σ0 F x1 x2 x3 x5 q13.2 x5 q13.1 (0 : Int32) res C0 hA F x3 (0 : Int32) (0 : Int32) h _ _ _ hP hD hS (lv_sub hl [11, 4, 3, 2, 1, 0] rfl)
            · skip
              have h := f_f c12 h
              refine lv_iconst (v := (-1)) hx hb dX11_unlike_57 (by decide) ?_
              obtain rfl := Option.some.inj h
              exact W.iret (v := (-1 : Int32)) hx hb hr (q_end hK hP hD hS) hS.2.2 dX11_unlike_58
        · skip
          have h := f_f c10 h
          refine lv_iconst (v := (-1)) hx hb dX11_unlike_42 (by decide) ?_
          obtain rfl := Option.some.inj h
          exact W.iret (v := (-1 : Int32)) hx hb hr (q_end hK hP hD hS) hS.2.2 dX11_unlike_43
abbrev rm_X11_rooms : Room := { frames := 3, cells := 0, slots := 0, locals := 80 }
set_option maxRecDepth 100000 in
set_option maxHeartbeats 8000000 in
theorem c_X11_rooms (l : Launch) (D : va_G) (G : hG) (w : va_W) (F : Nat) (x1 : Int64) (x3 : Int32) (res : Int32) (h : f_X11_rooms F x1 x3 = some res) : CT l yX11_rooms cX11_rooms 4 (some .int) rm_X11_rooms D G 0 0 [.ref (G.2.1 0), .long x1, .int x3] w w (some (.int res)) := by
  unfold f_X11_rooms at h
  refine CT.mk (cc := cX11_rooms) (maxL := 4) (ret := (some .int)) (own := RX11) (plainFor_of_name (by decide)) rfl (Nat.le_of_ble_eq_true rfl) ?_
  intro p e s m args below meth c A ls C0 hnm hA hP hD hl
  obtain ⟨hx, hb, hr, hml, hown, hts, hlocks, hK, hE⟩ := id C0
  have hS : va_S A s.heap s.heap [] := va_S.rf
  have hl : lv_has ls 4 [(0, .ref (G.2.1 0)), (1, .long x1), (3, .int x3)] := hl
  refine lv_lload_n hx hb dX11_rooms_0 rfl (lv_at hl 1 rfl) ?_
  refine lv_lconst (v := 0) hx hb dX11_rooms_1 (by decide) ?_
  refine W.lcmp hx hb dX11_rooms_2 ?_
  refine lv_if_lt (tgt := 23) hx hb dX11_rooms_3 (by decide) (fun c1 => ?_) (fun c1 => ?_)
  · skip
    have c1 := (lg_cmp_lt _ _).mp c1
    have h := f_t c1 h
    refine lv_iconst (v := (-1)) hx hb dX11_rooms_23 (by decide) ?_
    obtain rfl := Option.some.inj h
    exact W.iret (v := (-1 : Int32)) hx hb hr (q_end hK hP hD hS) hS.2.2 dX11_rooms_24
  · skip
    have c1 := mt (lg_cmp_lt _ _).mpr c1
    have h := f_f c1 h
    refine lv_lload_n hx hb dX11_rooms_6 rfl (lv_at hl 1 rfl) ?_
    refine lv_ldc2 (v := 68719476736) hx hb hown (hts _ wd_1106) dX11_rooms_7 ?_
    refine W.lcmp hx hb dX11_rooms_10 ?_
    refine lv_if_ge (tgt := 23) hx hb dX11_rooms_11 (by decide) (fun c2 => ?_) (fun c2 => ?_)
    · skip
      have c2 := (lg_cmp_ge _ _).mp c2
      have h := f_t c2 h
      refine lv_iconst (v := (-1)) hx hb dX11_rooms_23 (by decide) ?_
      obtain rfl := Option.some.inj h
      exact W.iret (v := (-1 : Int32)) hx hb hr (q_end hK hP hD hS) hS.2.2 dX11_rooms_24
    · skip
      have c2 := mt (lg_cmp_ge _ _).mpr c2
      have h := f_f c2 h
      refine lv_iload_n hx hb dX11_rooms_14 rfl (lv_at hl 2 rfl) ?_
      refine lv_if_lt (tgt := 23) hx hb dX11_rooms_15 (by decide) (fun c3 => ?_) (fun c3 => ?_)
      · skip
        have h := f_t c3 h
        refine lv_iconst (v := (-1)) hx hb dX11_rooms_23 (by decide) ?_
        obtain rfl := Option.some.inj h
        exact W.iret (v := (-1 : Int32)) hx hb hr (q_end hK hP hD hS) hS.2.2 dX11_rooms_24
      · skip
        have h := f_f c3 h
        refine lv_iload_n hx hb dX11_rooms_18 rfl (lv_at hl 2 rfl) ?_
        refine lv_iconst (v := 1) hx hb dX11_rooms_19 (by decide) ?_
        refine lv_icmp_le (tgt := 25) hx hb dX11_rooms_20 (by decide) (fun c4 => ?_) (fun c4 => ?_)
        · skip
          have h := f_t c4 h
          refine lv_iload_n hx hb dX11_rooms_25 rfl (lv_at hl 2 rfl) ?_
          refine lv_if_ne (tgt := 36) hx hb dX11_rooms_26 (by decide) (fun c5 => ?_) (fun c5 => ?_)
          · skip
            have h := f_f c5 h
            refine lv_lload_n hx hb dX11_rooms_36 rfl (lv_at hl 1 rfl) ?_
            obtain ⟨q6, hq6, h⟩ := f_b h
            refine cl_S (w := w) (w' := w) (rv := some (.int q6)) (bytes := cX6_mostByWord) (maxL := 6) (ret := (some .int)) (As := [.long x1]) (rest := []) (stk := [.int q6]) ⟨hx, hb, hml, hown, hts⟩ hK hE hA hP hD hS (c_X6_mostByWord l D G w F x1 q6 hq6) (mkS hts wd_1117 wd_1118 wd_30 wd_1119 rfl rfl hd_X6_mostByWord ⟨Nat.le_of_ble_eq_true rfl, Nat.le_of_ble_eq_true rfl⟩) rfl hl.1 rfl (Nat.le_of_ble_eq_true rfl) dX11_rooms_37 ⟨Nat.zero_le _, Nat.zero_le _⟩ rfl (fun H locs hP hD hS => ?_)
            obtain rfl := Option.some.inj h
            exact W.iret (v := q6) hx hb hr (q_end hK hP hD hS) hS.2.2 dX11_rooms_40
          · skip
            have h := f_t c5 h
            refine lv_lload_n hx hb dX11_rooms_29 rfl (lv_at hl 1 rfl) ?_
            obtain ⟨q7, hq7, h⟩ := f_b h
            refine cl_S (w := w) (w' := w) (rv := some (.int q7)) (bytes := cX6_mostTales) (maxL := 4) (ret := (some .int)) (As := [.long x1]) (rest := []) (stk := [.int q7]) ⟨hx, hb, hml, hown, hts⟩ hK hE hA hP hD hS (c_X6_mostTales l D G w F x1 q7 hq7) (mkS hts wd_1107 wd_1108 wd_30 wd_1109 rfl rfl hd_X6_mostTales ⟨Nat.le_of_ble_eq_true rfl, Nat.le_of_ble_eq_true rfl⟩) rfl hl.1 rfl (Nat.le_of_ble_eq_true rfl) dX11_rooms_30 ⟨Nat.zero_le _, Nat.zero_le _⟩ rfl (fun H locs hP hD hS => ?_)
            refine lv_goto (tgt := 40) hx hb dX11_rooms_33 (by decide) ?_
            obtain rfl := Option.some.inj h
            exact W.iret (v := q7) hx hb hr (q_end hK hP hD hS) hS.2.2 dX11_rooms_40
        · skip
          have h := f_f c4 h
          refine lv_iconst (v := (-1)) hx hb dX11_rooms_23 (by decide) ?_
          obtain rfl := Option.some.inj h
          exact W.iret (v := (-1 : Int32)) hx hb hr (q_end hK hP hD hS) hS.2.2 dX11_rooms_24
abbrev rm_X11_book : Room := { frames := 3, cells := 0, slots := 0, locals := 68 }
set_option maxRecDepth 100000 in
set_option maxHeartbeats 8000000 in
theorem c_X11_book (l : Launch) (D : va_G) (G : hG) (w : va_W) (F : Nat) (x1 : Int32) (x2 : Int32) (x3 : Int32) (res : Int32) (h : f_X11_book F x1 x2 x3 = some res) : CT l yX11_book cX11_book 4 (some .int) rm_X11_book D G 0 0 [.ref (G.2.1 0), .int x1, .int x2, .int x3] w w (some (.int res)) := by
  unfold f_X11_book at h
  refine CT.mk (cc := cX11_book) (maxL := 4) (ret := (some .int)) (own := RX11) (plainFor_of_name (by decide)) rfl (Nat.le_of_ble_eq_true rfl) ?_
  intro p e s m args below meth c A ls C0 hnm hA hP hD hl
  obtain ⟨hx, hb, hr, hml, hown, hts, hlocks, hK, hE⟩ := id C0
  have hS : va_S A s.heap s.heap [] := va_S.rf
  have hl : lv_has ls 4 [(0, .ref (G.2.1 0)), (1, .int x1), (2, .int x2), (3, .int x3)] := hl
  refine lv_iload_n hx hb dX11_book_0 rfl (lv_at hl 1 rfl) ?_
  refine lv_iload_n hx hb dX11_book_1 rfl (lv_at hl 2 rfl) ?_
  obtain ⟨q1, hq1, h⟩ := f_b h
  refine cl_S (w := w) (w' := w) (rv := some (.int q1)) (bytes := cX6_isBook) (maxL := 2) (ret := (some .boolean)) (As := [.int x1, .int x2]) (rest := []) (stk := [.int q1]) ⟨hx, hb, hml, hown, hts⟩ hK hE hA hP hD hS (c_X6_isBook l D G w x1 x2 q1 hq1) (mkS hts wd_1124 wd_1125 wd_30 wd_1126 rfl rfl hd_X6_isBook ⟨Nat.le_of_ble_eq_true rfl, Nat.le_of_ble_eq_true rfl⟩) rfl hl.1 rfl (Nat.le_of_ble_eq_true rfl) dX11_book_2 ⟨Nat.zero_le _, Nat.zero_le _⟩ rfl (fun H locs hP hD hS => ?_)
  refine lv_if_ne (tgt := 10) hx hb dX11_book_5 (by decide) (fun c2 => ?_) (fun c2 => ?_)
  · skip
    have h := f_f c2 h
    refine lv_iload_n hx hb dX11_book_10 rfl (lv_at hl 3 rfl) ?_
    by_cases c3 : x3 = 0
    · have h := f_t c3 h
      refine lv_tableIn (off := 29) (tgt := 40) hx hb dX11_book_11 (by rw [c3]; decide) (by rw [c3]; decide) (by rw [c3]; rfl) (by decide) ?_
      refine lv_iload_n hx hb dX11_book_40 rfl (lv_at hl 1 rfl) ?_
      refine lv_iload_n hx hb dX11_book_41 rfl (lv_at hl 2 rfl) ?_
      obtain ⟨q4, hq4, h⟩ := f_b h
      refine cl_S (w := w) (w' := w) (rv := some (.int q4)) (bytes := cX6_pairsCaught) (maxL := 5) (ret := (some .int)) (As := [.int x1, .int x2]) (rest := []) (stk := [.int q4]) ⟨hx, hb, hml, hown, hts⟩ hK hE hA hP hD hS (c_X6_pairsCaught l D G w F x1 x2 q4 hq4) (mkS hts wd_1127 wd_1128 wd_30 wd_1129 rfl rfl hd_X6_pairsCaught ⟨Nat.le_of_ble_eq_true rfl, Nat.le_of_ble_eq_true rfl⟩) rfl hl.1 rfl (Nat.le_of_ble_eq_true rfl) dX11_book_42 ⟨Nat.zero_le _, Nat.zero_le _⟩ rfl (fun H locs hP hD hS => ?_)
      refine lv_if_ne (tgt := 52) hx hb dX11_book_45 (by decide) (fun c5 => ?_) (fun c5 => ?_)
      · skip
        have h := f_f c5 h
        refine lv_iconst (v := 0) hx hb dX11_book_52 (by decide) ?_
        obtain rfl := Option.some.inj h
        exact W.iret (v := (0 : Int32)) hx hb hr (q_end hK hP hD hS) hS.2.2 dX11_book_53
      · skip
        have h := f_t c5 h
        refine lv_iconst (v := 1) hx hb dX11_book_48 (by decide) ?_
        refine lv_goto (tgt := 53) hx hb dX11_book_49 (by decide) ?_
        obtain rfl := Option.some.inj h
        exact W.iret (v := (1 : Int32)) hx hb hr (q_end hK hP hD hS) hS.2.2 dX11_book_53
    have h := f_f c3 h
    by_cases c6 : x3 = 1
    · have h := f_t c6 h
      refine lv_tableIn (off := 43) (tgt := 54) hx hb dX11_book_11 (by rw [c6]; decide) (by rw [c6]; decide) (by rw [c6]; rfl) (by decide) ?_
      refine lv_iload_n hx hb dX11_book_54 rfl (lv_at hl 1 rfl) ?_
      refine lv_iload_n hx hb dX11_book_55 rfl (lv_at hl 2 rfl) ?_
      obtain ⟨q7, hq7, h⟩ := f_b h
      refine cl_S (w := w) (w' := w) (rv := some (.int q7)) (bytes := cX6_pairsCaught) (maxL := 5) (ret := (some .int)) (As := [.int x1, .int x2]) (rest := []) (stk := [.int q7]) ⟨hx, hb, hml, hown, hts⟩ hK hE hA hP hD hS (c_X6_pairsCaught l D G w F x1 x2 q7 hq7) (mkS hts wd_1127 wd_1128 wd_30 wd_1129 rfl rfl hd_X6_pairsCaught ⟨Nat.le_of_ble_eq_true rfl, Nat.le_of_ble_eq_true rfl⟩) rfl hl.1 rfl (Nat.le_of_ble_eq_true rfl) dX11_book_56 ⟨Nat.zero_le _, Nat.zero_le _⟩ rfl (fun H locs hP hD hS => ?_)
      obtain rfl := Option.some.inj h
      exact W.iret (v := q7) hx hb hr (q_end hK hP hD hS) hS.2.2 dX11_book_59
    have h := f_f c6 h
    by_cases c8 : x3 = 2
    · have h := f_t c8 h
      refine lv_tableIn (off := 49) (tgt := 60) hx hb dX11_book_11 (by rw [c8]; decide) (by rw [c8]; decide) (by rw [c8]; rfl) (by decide) ?_
      refine lv_iload_n hx hb dX11_book_60 rfl (lv_at hl 1 rfl) ?_
      refine lv_iload_n hx hb dX11_book_61 rfl (lv_at hl 2 rfl) ?_
      obtain ⟨q9, hq9, h⟩ := f_b h
      refine cl_S (w := w) (w' := w) (rv := some (.int q9)) (bytes := cX6_nearestLinear) (maxL := 6) (ret := (some .int)) (As := [.int x1, .int x2]) (rest := []) (stk := [.int q9]) ⟨hx, hb, hml, hown, hts⟩ hK hE hA hP hD hS (c_X6_nearestLinear l D G w F x1 x2 q9 hq9) (mkS hts wd_1130 wd_1131 wd_30 wd_1132 rfl rfl hd_X6_nearestLinear ⟨Nat.le_of_ble_eq_true rfl, Nat.le_of_ble_eq_true rfl⟩) rfl hl.1 rfl (Nat.le_of_ble_eq_true rfl) dX11_book_62 ⟨Nat.zero_le _, Nat.zero_le _⟩ rfl (fun H locs hP hD hS => ?_)
      refine lv_iload_n hx hb dX11_book_65 rfl (lv_at hl 2 rfl) ?_
      refine lv_ixor hx hb dX11_book_66 ?_
      obtain ⟨q10, hq10, h⟩ := f_b h
      refine cl_S (w := w) (w' := w) (rv := some (.int q10)) (bytes := cJ6_bitCount_0f7a4) (maxL := 1) (ret := (some .int)) (As := [.int (q9 ^^^ x2)]) (rest := []) (stk := [.int q10]) ⟨hx, hb, hml, hown, hts⟩ hK hE hA hP hD hS (c_J6_bitCount_0f7a4 l D G w (q9 ^^^ x2) q10 hq10) (mkS hts wd_1142 wd_1137 wd_31 wd_1138 rfl rfl hd_J6_bitCount_0f7a4 ⟨Nat.le_of_ble_eq_true rfl, Nat.le_of_ble_eq_true rfl⟩) rfl hl.1 rfl (Nat.le_of_ble_eq_true rfl) dX11_book_67 ⟨Nat.zero_le _, Nat.zero_le _⟩ rfl (fun H locs hP hD hS => ?_)
      obtain rfl := Option.some.inj h
      exact W.iret (v := q10) hx hb hr (q_end hK hP hD hS) hS.2.2 dX11_book_70
    have h := f_f c8 h
    by_cases c11 : x3 = 3
    · have h := f_t c11 h
      refine lv_tableIn (off := 60) (tgt := 71) hx hb dX11_book_11 (by rw [c11]; decide) (by rw [c11]; decide) (by rw [c11]; rfl) (by decide) ?_
      refine lv_iload_n hx hb dX11_book_71 rfl (lv_at hl 1 rfl) ?_
      refine lv_iload_n hx hb dX11_book_72 rfl (lv_at hl 2 rfl) ?_
      obtain ⟨q12, hq12, h⟩ := f_b h
      refine cl_S (w := w) (w' := w) (rv := some (.int q12)) (bytes := cX6_nearestLinear) (maxL := 6) (ret := (some .int)) (As := [.int x1, .int x2]) (rest := []) (stk := [.int q12]) ⟨hx, hb, hml, hown, hts⟩ hK hE hA hP hD hS (c_X6_nearestLinear l D G w F x1 x2 q12 hq12) (mkS hts wd_1130 wd_1131 wd_30 wd_1132 rfl rfl hd_X6_nearestLinear ⟨Nat.le_of_ble_eq_true rfl, Nat.le_of_ble_eq_true rfl⟩) rfl hl.1 rfl (Nat.le_of_ble_eq_true rfl) dX11_book_73 ⟨Nat.zero_le _, Nat.zero_le _⟩ rfl (fun H locs hP hD hS => ?_)
      obtain rfl := Option.some.inj h
      exact W.iret (v := q12) hx hb hr (q_end hK hP hD hS) hS.2.2 dX11_book_76
    have h := f_f c11 h
    have hne0 := i32ne (z := 0) (by decide) c3
    have hne1 := i32ne (z := 1) (by decide) c6
    have hne2 := i32ne (z := 2) (by decide) c8
    have hne3 := i32ne (z := 3) (by decide) c11
    refine lv_tableOut (tgt := 77) hx hb dX11_book_11 (by omega) (by decide) ?_
    refine lv_iconst (v := (-1)) hx hb dX11_book_77 (by decide) ?_
    obtain rfl := Option.some.inj h
    exact W.iret (v := (-1 : Int32)) hx hb hr (q_end hK hP hD hS) hS.2.2 dX11_book_78
  · skip
    have h := f_t c2 h
    refine lv_iconst (v := (-1)) hx hb dX11_book_8 (by decide) ?_
    obtain rfl := Option.some.inj h
    exact W.iret (v := (-1 : Int32)) hx hb hr (q_end hK hP hD hS) hS.2.2 dX11_book_9
abbrev rm_X11_mended : Room := { frames := 1, cells := 0, slots := 0, locals := 24 }
set_option maxRecDepth 100000 in
set_option maxHeartbeats 8000000 in
theorem c_X11_mended (l : Launch) (D : va_G) (G : hG) (w : va_W) (F : Nat) (x1 : Int32) (x2 : Int32) (x3 : Int32) (res : Int32) (h : f_X11_mended F x1 x2 x3 = some res) : CT l yX11_mended cX11_mended 4 (some .int) rm_X11_mended D G 0 0 [.ref (G.2.1 0), .int x1, .int x2, .int x3] w w (some (.int res)) := by
  unfold f_X11_mended at h
  refine CT.mk (cc := cX11_mended) (maxL := 4) (ret := (some .int)) (own := RX11) (plainFor_of_name (by decide)) rfl (Nat.le_of_ble_eq_true rfl) ?_
  intro p e s m args below meth c A ls C0 hnm hA hP hD hl
  obtain ⟨hx, hb, hr, hml, hown, hts, hlocks, hK, hE⟩ := id C0
  have hS : va_S A s.heap s.heap [] := va_S.rf
  have hl : lv_has ls 4 [(0, .ref (G.2.1 0)), (1, .int x1), (2, .int x2), (3, .int x3)] := hl
  refine lv_iload_n hx hb dX11_mended_0 rfl (lv_at hl 1 rfl) ?_
  refine lv_iload_n hx hb dX11_mended_1 rfl (lv_at hl 2 rfl) ?_
  obtain ⟨q1, hq1, h⟩ := f_b h
  refine cl_S (w := w) (w' := w) (rv := some (.int q1)) (bytes := cX6_isBook) (maxL := 2) (ret := (some .boolean)) (As := [.int x1, .int x2]) (rest := []) (stk := [.int q1]) ⟨hx, hb, hml, hown, hts⟩ hK hE hA hP hD hS (c_X6_isBook l D G w x1 x2 q1 hq1) (mkS hts wd_1124 wd_1125 wd_30 wd_1126 rfl rfl hd_X6_isBook ⟨Nat.le_of_ble_eq_true rfl, Nat.le_of_ble_eq_true rfl⟩) rfl hl.1 rfl (Nat.le_of_ble_eq_true rfl) dX11_mended_2 ⟨Nat.zero_le _, Nat.zero_le _⟩ rfl (fun H locs hP hD hS => ?_)
  refine lv_if_eq (tgt := 19) hx hb dX11_mended_5 (by decide) (fun c2 => ?_) (fun c2 => ?_)
  · skip
    have h := f_t c2 h
    refine lv_iconst (v := (-1)) hx hb dX11_mended_19 (by decide) ?_
    obtain rfl := Option.some.inj h
    exact W.iret (v := (-1 : Int32)) hx hb hr (q_end hK hP hD hS) hS.2.2 dX11_mended_20
  · skip
    have h := f_f c2 h
    refine lv_iload_n hx hb dX11_mended_8 rfl (lv_at hl 3 rfl) ?_
    refine lv_if_lt (tgt := 19) hx hb dX11_mended_9 (by decide) (fun c3 => ?_) (fun c3 => ?_)
    · skip
      have h := f_t c3 h
      refine lv_iconst (v := (-1)) hx hb dX11_mended_19 (by decide) ?_
      obtain rfl := Option.some.inj h
      exact W.iret (v := (-1 : Int32)) hx hb hr (q_end hK hP hD hS) hS.2.2 dX11_mended_20
    · skip
      have h := f_f c3 h
      refine lv_iload_n hx hb dX11_mended_12 rfl (lv_at hl 3 rfl) ?_
      refine lv_iconst (v := 1) hx hb dX11_mended_13 (by decide) ?_
      refine lv_iload_n hx hb dX11_mended_14 rfl (lv_at hl 1 rfl) ?_
      refine lv_ishl hx hb dX11_mended_15 ?_
      refine lv_icmp_lt (tgt := 21) hx hb dX11_mended_16 (by decide) (fun c4 => ?_) (fun c4 => ?_)
      · skip
        have h := f_t c4 h
        refine lv_iload_n hx hb dX11_mended_21 rfl (lv_at hl 1 rfl) ?_
        refine lv_iload_n hx hb dX11_mended_22 rfl (lv_at hl 2 rfl) ?_
        refine lv_iload_n hx hb dX11_mended_23 rfl (lv_at hl 3 rfl) ?_
        obtain ⟨q5, hq5, h⟩ := f_b h
        refine cl_S (w := w) (w' := w) (rv := some (.int q5)) (bytes := cX6_mendedCell) (maxL := 5) (ret := (some .int)) (As := [.int x1, .int x2, .int x3]) (rest := []) (stk := [.int q5]) ⟨hx, hb, hml, hown, hts⟩ hK hE hA hP hD hS (c_X6_mendedCell l D G w F x1 x2 x3 q5 hq5) (mkS hts wd_1147 wd_1148 wd_30 wd_1149 rfl rfl hd_X6_mendedCell ⟨Nat.le_of_ble_eq_true rfl, Nat.le_of_ble_eq_true rfl⟩) rfl hl.1 rfl (Nat.le_of_ble_eq_true rfl) dX11_mended_24 ⟨Nat.zero_le _, Nat.zero_le _⟩ rfl (fun H locs hP hD hS => ?_)
        obtain rfl := Option.some.inj h
        exact W.iret (v := q5) hx hb hr (q_end hK hP hD hS) hS.2.2 dX11_mended_27
      · skip
        have h := f_f c4 h
        refine lv_iconst (v := (-1)) hx hb dX11_mended_19 (by decide) ?_
        obtain rfl := Option.some.inj h
        exact W.iret (v := (-1 : Int32)) hx hb hr (q_end hK hP hD hS) hS.2.2 dX11_mended_20
abbrev rm_X11_least : Room := { frames := 2, cells := 0, slots := 0, locals := 48 }
set_option maxRecDepth 100000 in
set_option maxHeartbeats 8000000 in
theorem c_X11_least (l : Launch) (D : va_G) (G : hG) (w : va_W) (F : Nat) (x1 : Int32) (x2 : Int32) (res : Int32) (h : f_X11_least F x1 x2 = some res) : CT l yX11_least cX11_least 4 (some .int) rm_X11_least D G 0 0 [.ref (G.2.1 0), .int x1, .int x2] w w (some (.int res)) := by
  unfold f_X11_least at h
  refine CT.mk (cc := cX11_least) (maxL := 4) (ret := (some .int)) (own := RX11) (plainFor_of_name (by decide)) rfl (Nat.le_of_ble_eq_true rfl) ?_
  intro p e s m args below meth c A ls C0 hnm hA hP hD hl
  obtain ⟨hx, hb, hr, hml, hown, hts, hlocks, hK, hE⟩ := id C0
  have hS : va_S A s.heap s.heap [] := va_S.rf
  have hl : lv_has ls 4 [(0, .ref (G.2.1 0)), (1, .int x1), (2, .int x2)] := hl
  refine lv_iload_n hx hb dX11_least_0 rfl (lv_at hl 1 rfl) ?_
  refine lv_iconst (v := 1) hx hb dX11_least_1 (by decide) ?_
  refine lv_icmp_lt (tgt := 19) hx hb dX11_least_2 (by decide) (fun c1 => ?_) (fun c1 => ?_)
  · skip
    have h := f_t c1 h
    refine lv_iconst (v := (-1)) hx hb dX11_least_19 (by decide) ?_
    obtain rfl := Option.some.inj h
    exact W.iret (v := (-1 : Int32)) hx hb hr (q_end hK hP hD hS) hS.2.2 dX11_least_20
  · skip
    have h := f_f c1 h
    refine lv_iload_n hx hb dX11_least_5 rfl (lv_at hl 1 rfl) ?_
    refine lv_iconst (v := 3) hx hb dX11_least_6 (by decide) ?_
    refine lv_icmp_gt (tgt := 19) hx hb dX11_least_7 (by decide) (fun c2 => ?_) (fun c2 => ?_)
    · skip
      have h := f_t c2 h
      refine lv_iconst (v := (-1)) hx hb dX11_least_19 (by decide) ?_
      obtain rfl := Option.some.inj h
      exact W.iret (v := (-1 : Int32)) hx hb hr (q_end hK hP hD hS) hS.2.2 dX11_least_20
    · skip
      have h := f_f c2 h
      refine lv_iload_n hx hb dX11_least_10 rfl (lv_at hl 2 rfl) ?_
      refine lv_if_lt (tgt := 19) hx hb dX11_least_11 (by decide) (fun c3 => ?_) (fun c3 => ?_)
      · skip
        have h := f_t c3 h
        refine lv_iconst (v := (-1)) hx hb dX11_least_19 (by decide) ?_
        obtain rfl := Option.some.inj h
        exact W.iret (v := (-1 : Int32)) hx hb hr (q_end hK hP hD hS) hS.2.2 dX11_least_20
      · skip
        have h := f_f c3 h
        refine lv_iload_n hx hb dX11_least_14 rfl (lv_at hl 2 rfl) ?_
        refine lv_iconst (v := 1) hx hb dX11_least_15 (by decide) ?_
        refine lv_icmp_le (tgt := 21) hx hb dX11_least_16 (by decide) (fun c4 => ?_) (fun c4 => ?_)
        · skip
          have h := f_t c4 h
          refine lv_iload_n hx hb dX11_least_21 rfl (lv_at hl 1 rfl) ?_
          obtain ⟨q5, hq5, h⟩ := f_b h
          refine cl_S (w := w) (w' := w) (rv := some (.int q5)) (bytes := cX6_leastCaughtBook) (maxL := 5) (ret := (some .int)) (As := [.int x1]) (rest := []) (stk := [.int q5]) ⟨hx, hb, hml, hown, hts⟩ hK hE hA hP hD hS (c_X6_leastCaughtBook l D G w F x1 q5 hq5) (mkS hts wd_1154 wd_1155 wd_30 wd_1156 rfl rfl hd_X6_leastCaughtBook ⟨Nat.le_of_ble_eq_true rfl, Nat.le_of_ble_eq_true rfl⟩) rfl hl.1 rfl (Nat.le_of_ble_eq_true rfl) dX11_least_22 ⟨Nat.zero_le _, Nat.zero_le _⟩ rfl (fun H locs hP hD hS => ?_)
          refine lv_istore_n (lv' := [(3, .int q5), (0, .ref (G.2.1 0)), (1, .int x1), (2, .int x2)]) hx hb dX11_least_25 rfl hl (by decide) rfl (fun ls hl => ?_)
          refine lv_iload_n hx hb dX11_least_26 rfl (lv_at hl 3 rfl) ?_
          refine lv_iconst (v := 1) hx hb dX11_least_27 (by decide) ?_
          refine lv_icmp_eq (tgt := 36) hx hb dX11_least_28 (by decide) (fun c6 => ?_) (fun c6 => ?_)
          · skip
            have h := f_t c6 h
            refine lv_iload_n hx hb dX11_least_36 rfl (lv_at hl 0 rfl) ?_
            refine lv_goto (tgt := 45) hx hb dX11_least_37 (by decide) ?_
            obtain rfl := Option.some.inj h
            exact W.iret (v := q5) hx hb hr (q_end hK hP hD hS) hS.2.2 dX11_least_45
          · skip
            have h := f_f c6 h
            refine lv_iload_n hx hb dX11_least_31 rfl (lv_at hl 0 rfl) ?_
            refine lv_iconst (v := (-1)) hx hb dX11_least_32 (by decide) ?_
            refine lv_icmp_ne (tgt := 40) hx hb dX11_least_33 (by decide) (fun c7 => ?_) (fun c7 => ?_)
            · skip
              have h := f_f c7 h
              refine lv_iload_n hx hb dX11_least_40 rfl (lv_at hl 2 rfl) ?_
              refine lv_iload_n hx hb dX11_least_41 rfl (lv_at hl 0 rfl) ?_
              obtain ⟨q8, hq8, h⟩ := f_b h
              refine cl_S (w := w) (w' := w) (rv := some (.int q8)) (bytes := cX6_pairsCaught) (maxL := 5) (ret := (some .int)) (As := [.int x1, .int q5]) (rest := []) (stk := [.int q8]) ⟨hx, hb, hml, hown, hts⟩ hK hE hA hP hD hS (c_X6_pairsCaught l D G w F x1 q5 q8 hq8) (mkS hts wd_1127 wd_1128 wd_30 wd_1129 rfl rfl hd_X6_pairsCaught ⟨Nat.le_of_ble_eq_true rfl, Nat.le_of_ble_eq_true rfl⟩) rfl hl.1 rfl (Nat.le_of_ble_eq_true rfl) dX11_least_42 ⟨Nat.zero_le _, Nat.zero_le _⟩ rfl (fun H locs hP hD hS => ?_)
              obtain rfl := Option.some.inj h
              exact W.iret (v := q8) hx hb hr (q_end hK hP hD hS) hS.2.2 dX11_least_45
            · skip
              have h := f_t c7 h
              refine lv_iload_n hx hb dX11_least_36 rfl (lv_at hl 0 rfl) ?_
              refine lv_goto (tgt := 45) hx hb dX11_least_37 (by decide) ?_
              obtain rfl := Option.some.inj h
              exact W.iret (v := q5) hx hb hr (q_end hK hP hD hS) hS.2.2 dX11_least_45
        · skip
          have h := f_f c4 h
          refine lv_iconst (v := (-1)) hx hb dX11_least_19 (by decide) ?_
          obtain rfl := Option.some.inj h
          exact W.iret (v := (-1 : Int32)) hx hb hr (q_end hK hP hD hS) hS.2.2 dX11_least_20
abbrev rm_X11_count : Room := { frames := 1, cells := 0, slots := 0, locals := 20 }
set_option maxRecDepth 100000 in
set_option maxHeartbeats 8000000 in
theorem c_X11_count (l : Launch) (D : va_G) (G : hG) (Z : hZ) (Y : va_W) (σ0 : hSt) (x1 : Int32) (res : Int32) (h : f_X11_count Z σ0 x1 = some res) : CT l yX11_count cX11_count 2 (some .int) rm_X11_count D G 0 0 [.ref (G.2.1 0), .int x1] (hW G Z Y σ0) (hW G Z Y σ0) (some (.int res)) := by
  unfold f_X11_count at h
  refine CT.mk (cc := cX11_count) (maxL := 2) (ret := (some .int)) (own := RX11) (plainFor_of_name (by decide)) rfl (Nat.le_of_ble_eq_true rfl) ?_
  intro p e s m args below meth c A ls C0 hnm hA hP hD hl
  obtain ⟨hx, hb, hr, hml, hown, hts, hlocks, hK, hE⟩ := id C0
  have hS : va_S A s.heap s.heap [] := va_S.rf
  have hl : lv_has ls 2 [(0, .ref (G.2.1 0)), (1, .int x1)] := hl
  refine lv_iload_n hx hb dX11_count_0 rfl (lv_at hl 1 rfl) ?_
  by_cases c1 : x1 = 0
  · have h := f_t c1 h
    refine lv_tableIn (off := 43) (tgt := 44) hx hb dX11_count_1 (by rw [c1]; decide) (by rw [c1]; decide) (by rw [c1]; rfl) (by decide) ?_
    refine lv_aload_n hx hb dX11_count_44 rfl (lv_at hl 0 rfl) ?_
    refine va_get (D := D) (ci := 11) (v := .ref (G.2.1 38)) (C := RX11) (T := TX11) (N := 16) hx hb hts inU_X11 hown hK hP _ (hg_0 G Z Y σ0) rfl 8 (by decide) (hts _ wd_243) (fun _ h9 => h9) rfl dX11_count_45 ?_
    obtain ⟨q2, hq2, h⟩ := f_b h
    refine cl_V (w := (hW G Z Y σ0)) (w' := (hW G Z Y σ0)) (rv := some (.int q2)) (bytes := cJx4a65c_size_8abf5) (maxL := 1) (ret := (some .int)) (C := RJx4a65c) (As := []) (rest := []) (stk := [.int q2]) ⟨hx, hb, hml, hown, hts⟩ hK hE hA hP hD hS (c_Jx4a65c_size_8abf5 l D G Z Y σ0 38 (rfl : isLi 38 = true) q2 hq2) (cwV 0 hts (gwV wd_523 wd_524 wd_525 wd_10 wd_526) rfl rfl rfl hd_Jx4a65c_size_8abf5 ⟨Nat.le_of_ble_eq_true rfl, Nat.le_of_ble_eq_true rfl⟩) (hg_38 G Z Y σ0) rfl rfl rfl hl.1 rfl (Nat.le_of_ble_eq_true rfl) dX11_count_48 ⟨Nat.zero_le _, Nat.zero_le _⟩ rfl (fun H locs hP hD hS => ?_)
    obtain rfl := Option.some.inj h
    exact W.iret (v := q2) hx hb hr (q_end hK hP hD hS) hS.2.2 dX11_count_51
  have h := f_f c1 h
  by_cases c3 : x1 = 1
  · have h := f_t c3 h
    refine lv_tableIn (off := 51) (tgt := 52) hx hb dX11_count_1 (by rw [c3]; decide) (by rw [c3]; decide) (by rw [c3]; rfl) (by decide) ?_
    refine lv_aload_n hx hb dX11_count_52 rfl (lv_at hl 0 rfl) ?_
    refine va_get (D := D) (ci := 11) (v := .ref (G.2.1 39)) (C := RX11) (T := TX11) (N := 16) hx hb hts inU_X11 hown hK hP _ (hg_0 G Z Y σ0) rfl 9 (by decide) (hts _ wd_244) (fun _ h9 => h9) rfl dX11_count_53 ?_
    obtain ⟨q4, hq4, h⟩ := f_b h
    refine cl_V (w := (hW G Z Y σ0)) (w' := (hW G Z Y σ0)) (rv := some (.int q4)) (bytes := cJx4a65c_size_8abf5) (maxL := 1) (ret := (some .int)) (C := RJx4a65c) (As := []) (rest := []) (stk := [.int q4]) ⟨hx, hb, hml, hown, hts⟩ hK hE hA hP hD hS (c_Jx4a65c_size_8abf5 l D G Z Y σ0 39 (rfl : isLi 39 = true) q4 hq4) (cwV 0 hts (gwV wd_523 wd_524 wd_525 wd_10 wd_526) rfl rfl rfl hd_Jx4a65c_size_8abf5 ⟨Nat.le_of_ble_eq_true rfl, Nat.le_of_ble_eq_true rfl⟩) (hg_39 G Z Y σ0) rfl rfl rfl hl.1 rfl (Nat.le_of_ble_eq_true rfl) dX11_count_56 ⟨Nat.zero_le _, Nat.zero_le _⟩ rfl (fun H locs hP hD hS => ?_)
    obtain rfl := Option.some.inj h
    exact W.iret (v := q4) hx hb hr (q_end hK hP hD hS) hS.2.2 dX11_count_59
  have h := f_f c3 h
  by_cases c5 : x1 = 2
  · have h := f_t c5 h
    refine lv_tableIn (off := 59) (tgt := 60) hx hb dX11_count_1 (by rw [c5]; decide) (by rw [c5]; decide) (by rw [c5]; rfl) (by decide) ?_
    refine lv_aload_n hx hb dX11_count_60 rfl (lv_at hl 0 rfl) ?_
    refine va_get (D := D) (ci := 11) (v := .ref (G.2.1 40)) (C := RX11) (T := TX11) (N := 16) hx hb hts inU_X11 hown hK hP _ (hg_0 G Z Y σ0) rfl 10 (by decide) (hts _ wd_245) (fun _ h9 => h9) rfl dX11_count_61 ?_
    obtain ⟨q6, hq6, h⟩ := f_b h
    refine cl_V (w := (hW G Z Y σ0)) (w' := (hW G Z Y σ0)) (rv := some (.int q6)) (bytes := cJx4a65c_size_8abf5) (maxL := 1) (ret := (some .int)) (C := RJx4a65c) (As := []) (rest := []) (stk := [.int q6]) ⟨hx, hb, hml, hown, hts⟩ hK hE hA hP hD hS (c_Jx4a65c_size_8abf5 l D G Z Y σ0 40 (rfl : isLi 40 = true) q6 hq6) (cwV 0 hts (gwV wd_523 wd_524 wd_525 wd_10 wd_526) rfl rfl rfl hd_Jx4a65c_size_8abf5 ⟨Nat.le_of_ble_eq_true rfl, Nat.le_of_ble_eq_true rfl⟩) (hg_40 G Z Y σ0) rfl rfl rfl hl.1 rfl (Nat.le_of_ble_eq_true rfl) dX11_count_64 ⟨Nat.zero_le _, Nat.zero_le _⟩ rfl (fun H locs hP hD hS => ?_)
    obtain rfl := Option.some.inj h
    exact W.iret (v := q6) hx hb hr (q_end hK hP hD hS) hS.2.2 dX11_count_67
  have h := f_f c5 h
  by_cases c7 : x1 = 3
  · have h := f_t c7 h
    refine lv_tableIn (off := 67) (tgt := 68) hx hb dX11_count_1 (by rw [c7]; decide) (by rw [c7]; decide) (by rw [c7]; rfl) (by decide) ?_
    refine lv_aload_n hx hb dX11_count_68 rfl (lv_at hl 0 rfl) ?_
    refine va_get (D := D) (ci := 11) (v := .ref (G.2.1 41)) (C := RX11) (T := TX11) (N := 16) hx hb hts inU_X11 hown hK hP _ (hg_0 G Z Y σ0) rfl 11 (by decide) (hts _ wd_246) (fun _ h9 => h9) rfl dX11_count_69 ?_
    obtain ⟨q8, hq8, h⟩ := f_b h
    refine cl_V (w := (hW G Z Y σ0)) (w' := (hW G Z Y σ0)) (rv := some (.int q8)) (bytes := cJx4a65c_size_8abf5) (maxL := 1) (ret := (some .int)) (C := RJx4a65c) (As := []) (rest := []) (stk := [.int q8]) ⟨hx, hb, hml, hown, hts⟩ hK hE hA hP hD hS (c_Jx4a65c_size_8abf5 l D G Z Y σ0 41 (rfl : isLi 41 = true) q8 hq8) (cwV 0 hts (gwV wd_523 wd_524 wd_525 wd_10 wd_526) rfl rfl rfl hd_Jx4a65c_size_8abf5 ⟨Nat.le_of_ble_eq_true rfl, Nat.le_of_ble_eq_true rfl⟩) (hg_41 G Z Y σ0) rfl rfl rfl hl.1 rfl (Nat.le_of_ble_eq_true rfl) dX11_count_72 ⟨Nat.zero_le _, Nat.zero_le _⟩ rfl (fun H locs hP hD hS => ?_)
    obtain rfl := Option.some.inj h
    exact W.iret (v := q8) hx hb hr (q_end hK hP hD hS) hS.2.2 dX11_count_75
  have h := f_f c7 h
  by_cases c9 : x1 = 4
  · have h := f_t c9 h
    refine lv_tableIn (off := 75) (tgt := 76) hx hb dX11_count_1 (by rw [c9]; decide) (by rw [c9]; decide) (by rw [c9]; rfl) (by decide) ?_
    refine lv_aload_n hx hb dX11_count_76 rfl (lv_at hl 0 rfl) ?_
    refine va_get (D := D) (ci := 11) (v := .ref (G.2.1 42)) (C := RX11) (T := TX11) (N := 16) hx hb hts inU_X11 hown hK hP _ (hg_0 G Z Y σ0) rfl 12 (by decide) (hts _ wd_247) (fun _ h9 => h9) rfl dX11_count_77 ?_
    obtain ⟨q10, hq10, h⟩ := f_b h
    refine cl_V (w := (hW G Z Y σ0)) (w' := (hW G Z Y σ0)) (rv := some (.int q10)) (bytes := cJx4a65c_size_8abf5) (maxL := 1) (ret := (some .int)) (C := RJx4a65c) (As := []) (rest := []) (stk := [.int q10]) ⟨hx, hb, hml, hown, hts⟩ hK hE hA hP hD hS (c_Jx4a65c_size_8abf5 l D G Z Y σ0 42 (rfl : isLi 42 = true) q10 hq10) (cwV 0 hts (gwV wd_523 wd_524 wd_525 wd_10 wd_526) rfl rfl rfl hd_Jx4a65c_size_8abf5 ⟨Nat.le_of_ble_eq_true rfl, Nat.le_of_ble_eq_true rfl⟩) (hg_42 G Z Y σ0) rfl rfl rfl hl.1 rfl (Nat.le_of_ble_eq_true rfl) dX11_count_80 ⟨Nat.zero_le _, Nat.zero_le _⟩ rfl (fun H locs hP hD hS => ?_)
    obtain rfl := Option.some.inj h
    exact W.iret (v := q10) hx hb hr (q_end hK hP hD hS) hS.2.2 dX11_count_83
  have h := f_f c9 h
  by_cases c11 : x1 = 5
  · have h := f_t c11 h
    refine lv_tableIn (off := 83) (tgt := 84) hx hb dX11_count_1 (by rw [c11]; decide) (by rw [c11]; decide) (by rw [c11]; rfl) (by decide) ?_
    refine lv_aload_n hx hb dX11_count_84 rfl (lv_at hl 0 rfl) ?_
    refine va_get (D := D) (ci := 11) (v := .int (σ0.1 0 15)) (C := RX11) (T := TX11) (N := 16) hx hb hts inU_X11 hown hK hP _ (hg_0 G Z Y σ0) rfl 15 (by decide) (hts _ wd_250) (fun _ h9 => h9) rfl dX11_count_85 ?_
    obtain rfl := Option.some.inj h
    exact W.iret (v := (σ0.1 0 15)) hx hb hr (q_end hK hP hD hS) hS.2.2 dX11_count_88
  have h := f_f c11 h
  by_cases c12 : x1 = 6
  · have h := f_t c12 h
    refine lv_tableIn (off := 88) (tgt := 89) hx hb dX11_count_1 (by rw [c12]; decide) (by rw [c12]; decide) (by rw [c12]; rfl) (by decide) ?_
    refine lv_aload_n hx hb dX11_count_89 rfl (lv_at hl 0 rfl) ?_
    refine va_get (D := D) (ci := 11) (v := .ref (G.2.1 1)) (C := RX11) (T := TX11) (N := 16) hx hb hts inU_X11 hown hK hP _ (hg_0 G Z Y σ0) rfl 0 (by decide) (hts _ wd_235) (fun _ h9 => h9) rfl dX11_count_90 ?_
    refine va_getN (D := D) (ci := 8) (v := .int (σ0.1 1 2)) (C := RX8) (T := TX8) (N := 6) hx hb hts inU_X8 hown hK hP _ (hg_1 G Z Y σ0) rfl 2 (by decide) (nF_use 0 hE rfl) (fun _ h9 => h9) rfl dX11_count_93 ?_
    obtain rfl := Option.some.inj h
    exact W.iret (v := (σ0.1 1 2)) hx hb hr (q_end hK hP hD hS) hS.2.2 dX11_count_96
  have h := f_f c12 h
  have hne0 := i32ne (z := 0) (by decide) c1
  have hne1 := i32ne (z := 1) (by decide) c3
  have hne2 := i32ne (z := 2) (by decide) c5
  have hne3 := i32ne (z := 3) (by decide) c7
  have hne4 := i32ne (z := 4) (by decide) c9
  have hne5 := i32ne (z := 5) (by decide) c11
  have hne6 := i32ne (z := 6) (by decide) c12
  refine lv_tableOut (tgt := 97) hx hb dX11_count_1 (by omega) (by decide) ?_
  refine lv_iconst (v := (-1)) hx hb dX11_count_97 (by decide) ?_
  obtain rfl := Option.some.inj h
  exact W.iret (v := (-1 : Int32)) hx hb hr (q_end hK hP hD hS) hS.2.2 dX11_count_98
