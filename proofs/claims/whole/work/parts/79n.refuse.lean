def f_X11_saying (F : Nat) (Z : hZ) (σ0 : hSt) : Option (Int32 × hSt) := (f_Jx4a65c_size_8abf5 Z σ0 38).bind fun q1 => (if (20 : Int32) ≤ q1 then some ((-1 : Int32), σ0) else (f_X5_read F Z σ0).bind fun q3 => (if q3.1 = (-1 : Int32) then none else some ((-1 : Int32), q3.2)))
def f_X11_keepText (F : Nat) (Z : hZ) (σ0 : hSt) (r1 : Nat) (r2 : Nat) : Option (Int32 × hSt) := (f_Jx4a65c_size_8abf5 Z σ0 r1).bind fun q1 => (if (12 : Int32) ≤ q1 then some ((-1 : Int32), σ0) else (f_X10_read F Z σ0 r2).bind fun q3 => (if q3.1 = (-1 : Int32) then none else some ((-1 : Int32), q3.2)))
def f_X11_law (F : Nat) (Z : hZ) (σ0 : hSt) : Option (Int32 × hSt) := (f_X11_keepText F Z σ0 39 5).bind fun q1 => some (q1.1, q1.2)
def f_X11_giant (F : Nat) (Z : hZ) (σ0 : hSt) : Option (Int32 × hSt) := (f_X11_keepText F Z σ0 40 6).bind fun q1 => some (q1.1, q1.2)
def f_X11_talk (F : Nat) (Z : hZ) (σ0 : hSt) (x1 : Int32) (x2 : Int32) (x3 : Int32) (x4 : Int32) : Option (Int32 × hSt) := (f_X11_sayingAt Z σ0 x1).bind fun q1 => (oc q1 ((f_X11_textAt Z σ0 39 x3).bind fun q3 => (oc q3 ((f_X11_textAt Z σ0 40 x4).bind fun q5 => (oc q5 (some ((-1 : Int32), σ0)) (fun r6 => if isTe Z r6 = true then some ((-1 : Int32), σ0) else none))) (fun r4 => if isTe Z r4 = true then (f_X11_textAt Z σ0 40 x4).bind fun q7 => (oc q7 (some ((-1 : Int32), σ0)) (fun r8 => if isTe Z r8 = true then some ((-1 : Int32), σ0) else none)) else none))) (fun r2 => if isSa Z r2 = true then (f_X11_textAt Z σ0 39 x3).bind fun q9 => (oc q9 ((f_X11_textAt Z σ0 40 x4).bind fun q11 => (oc q11 (some ((-1 : Int32), σ0)) (fun r12 => if isTe Z r12 = true then some ((-1 : Int32), σ0) else none))) (fun r10 => if isTe Z r10 = true then (f_X11_textAt Z σ0 40 x4).bind fun q13 => (oc q13 (some ((-1 : Int32), σ0)) (fun r14 => if isTe Z r14 = true then (f_Jx4a65c_size_8abf5 Z σ0 41).bind fun q15 => (if q15 < (12 : Int32) then (f_X11_isModulus F x2).bind fun q17 => (if q17 = (0 : Int32) then some ((-1 : Int32), σ0) else (f_X4_mostSteep F Z σ0 r2).bind fun q19 => (if q19 < x2 then none else some ((-1 : Int32), σ0))) else some ((-1 : Int32), σ0)) else none)) else none)) else none))
def f_X11_net (Z : hZ) (σ0 : hSt) (x1 : Int32) (x2 : Int32) : Option (Int32 × hSt) := (f_Jx4a65c_size_8abf5 Z σ0 42).bind fun q1 => (if (12 : Int32) ≤ q1 then some ((-1 : Int32), σ0) else (if x1 < (2 : Int32) then some ((-1 : Int32), σ0) else (if x1 ≤ (6 : Int32) then (if x2 < (0 : Int32) then some ((-1 : Int32), σ0) else (if x2 < ((1 : Int32) <<< (((x1 * (x1 - (1 : Int32))) / (2 : Int32)) &&& 31)) then none else some ((-1 : Int32), σ0))) else some ((-1 : Int32), σ0))))
def f_X11_value (Z : hZ) (σ0 : hSt) (x1 : Int32) (x2 : Int32) : Option (Int32 × hSt) := (f_X1_hasSaid Z σ0 14 x1 x2).bind fun q1 => (if q1 = (0 : Int32) then none else (f_X1_saidAt Z σ0 14 x1 x2).bind fun q3 => some ((q3 : Int64).toInt32, σ0))
abbrev rm_X11_saying : Room := { frames := 53, cells := 0, slots := 0, locals := 1170 }
set_option maxRecDepth 100000 in
set_option maxHeartbeats 8000000 in
theorem c_X11_saying (l : Launch) (D : va_G) (G : hG) (Z : hZ) (Y : va_W) (σ0 : hSt) (F : Nat) (res : (Int32 × hSt)) (h : f_X11_saying F Z σ0 = some res) : CT l yX11_saying cX11_saying 2 (some .int) rm_X11_saying D G 0 0 [.ref (G.2.1 0)] (hW G Z Y σ0) (hW G Z Y res.2) (some (.int res.1)) := by
  unfold f_X11_saying at h
  refine CT.mk (cc := cX11_saying) (maxL := 2) (ret := (some .int)) (own := RX11) (plainFor_of_name (by decide)) rfl (Nat.le_of_ble_eq_true rfl) ?_
  intro p e s m args below meth c A ls C0 hnm hA hP hD hl
  obtain ⟨hx, hb, hr, hml, hown, hts, hlocks, hK, hE⟩ := id C0
  have hS : va_S A s.heap s.heap [] := va_S.rf
  have hl : lv_has ls 2 [(0, .ref (G.2.1 0))] := hl
  refine lv_aload_n hx hb dX11_saying_0 rfl (lv_at hl 0 rfl) ?_
  refine va_get (D := D) (ci := 11) (v := .ref (G.2.1 38)) (C := RX11) (T := TX11) (N := 16) hx hb hts inU_X11 hown hK hP _ (hg_0 G Z Y σ0) rfl 8 (by decide) (hts _ wd_243) (fun _ h9 => h9) rfl dX11_saying_1 ?_
  obtain ⟨q1, hq1, h⟩ := f_b h
  refine cl_V (w := (hW G Z Y σ0)) (w' := (hW G Z Y σ0)) (rv := some (.int q1)) (bytes := cJx4a65c_size_8abf5) (maxL := 1) (ret := (some .int)) (C := RJx4a65c) (As := []) (rest := []) (stk := [.int q1]) ⟨hx, hb, hml, hown, hts⟩ hK hE hA hP hD hS (c_Jx4a65c_size_8abf5 l D G Z Y σ0 38 (rfl : isLi 38 = true) q1 hq1) (cwV 0 hts (gwV wd_523 wd_524 wd_525 wd_10 wd_526) rfl rfl rfl hd_Jx4a65c_size_8abf5 ⟨Nat.le_of_ble_eq_true rfl, Nat.le_of_ble_eq_true rfl⟩) (hg_38 G Z Y σ0) rfl rfl rfl hl.1 rfl (Nat.le_of_ble_eq_true rfl) dX11_saying_4 ⟨Nat.zero_le _, Nat.zero_le _⟩ rfl (fun H locs hP hD hS => ?_)
  refine lv_bipush (v := 20) hx hb dX11_saying_7 (by decide) ?_
  refine lv_icmp_ge (tgt := 23) hx hb dX11_saying_9 (by decide) (fun c2 => ?_) (fun c2 => ?_)
  · skip
    have h := f_t c2 h
    refine lv_iconst (v := (-1)) hx hb dX11_saying_23 (by decide) ?_
    obtain rfl := Option.some.inj h
    exact W.iret (v := (-1 : Int32)) hx hb hr (q_end hK hP hD hS) hS.2.2 dX11_saying_24
  · skip
    have h := f_f c2 h
    refine lv_aload_n hx hb dX11_saying_12 rfl (lv_at hl 0 rfl) ?_
    refine va_get (D := D) (ci := 11) (v := .ref (G.2.1 4)) (C := RX11) (T := TX11) (N := 16) hx hb hts inU_X11 hown hK hP _ (hg_0 G Z Y σ0) rfl 1 (by decide) (hts _ wd_236) (fun _ h9 => h9) rfl dX11_saying_13 ?_
    obtain ⟨q3, hq3, h⟩ := f_b h
    refine cl_V (w := (hW G Z Y σ0)) (w' := (hW G Z Y q3.2)) (rv := some (.int q3.1)) (bytes := cX5_read) (maxL := 1) (ret := (some .int)) (C := RX5) (As := []) (rest := []) (stk := [.int q3.1]) ⟨hx, hb, hml, hown, hts⟩ hK hE hA hP hD hS (c_X5_read l D G Z Y σ0 F q3 hq3) (cwV 0 hts (gwV wd_303 wd_304 wd_305 wd_3 wd_306) rfl rfl rfl hd_X5_read ⟨Nat.le_of_ble_eq_true rfl, Nat.le_of_ble_eq_true rfl⟩) (hg_4 G Z Y σ0) rfl rfl rfl hl.1 rfl (Nat.le_of_ble_eq_true rfl) dX11_saying_16 ⟨Nat.zero_le _, Nat.zero_le _⟩ rfl (fun H locs hP hD hS => ?_)
    refine lv_iconst (v := (-1)) hx hb dX11_saying_19 (by decide) ?_
    refine lv_icmp_eq (tgt := 25) hx hb dX11_saying_20 (by decide) (fun c4 => ?_) (fun c4 => ?_)
    · skip
      have h := f_t c4 h
      cases h
    · skip
      have h := f_f c4 h
      refine lv_iconst (v := (-1)) hx hb dX11_saying_23 (by decide) ?_
      obtain rfl := Option.some.inj h
      exact W.iret (v := (-1 : Int32)) hx hb hr (q_end hK hP hD hS) hS.2.2 dX11_saying_24
abbrev rm_X11_keepText : Room := { frames := 80, cells := 0, slots := 0, locals := 1841 }
set_option maxRecDepth 100000 in
set_option maxHeartbeats 8000000 in
theorem c_X11_keepText (l : Launch) (D : va_G) (G : hG) (Z : hZ) (Y : va_W) (σ0 : hSt) (F : Nat) (r1 : Nat) (hr1 : isLi r1 = true) (r2 : Nat) (hr2 : isRd r2 = true) (res : (Int32 × hSt)) (h : f_X11_keepText F Z σ0 r1 r2 = some res) : CT l yX11_keepText cX11_keepText 3 (some .int) rm_X11_keepText D G 0 0 [.ref (G.2.1 0), .ref (G.2.1 r1), .ref (G.2.1 r2)] (hW G Z Y σ0) (hW G Z Y res.2) (some (.int res.1)) := by
  unfold f_X11_keepText at h
  refine CT.mk (cc := cX11_keepText) (maxL := 3) (ret := (some .int)) (own := RX11) (plainFor_of_name (by decide)) rfl (Nat.le_of_ble_eq_true rfl) ?_
  intro p e s m args below meth c A ls C0 hnm hA hP hD hl
  obtain ⟨hx, hb, hr, hml, hown, hts, hlocks, hK, hE⟩ := id C0
  have hS : va_S A s.heap s.heap [] := va_S.rf
  have hl : lv_has ls 3 [(0, .ref (G.2.1 0)), (1, .ref (G.2.1 r1)), (2, .ref (G.2.1 r2))] := hl
  refine lv_aload_n hx hb dX11_keepText_0 rfl (lv_at hl 1 rfl) ?_
  obtain ⟨q1, hq1, h⟩ := f_b h
  refine cl_V (w := (hW G Z Y σ0)) (w' := (hW G Z Y σ0)) (rv := some (.int q1)) (bytes := cJx4a65c_size_8abf5) (maxL := 1) (ret := (some .int)) (C := RJx4a65c) (As := []) (rest := []) (stk := [.int q1]) ⟨hx, hb, hml, hown, hts⟩ hK hE hA hP hD hS (c_Jx4a65c_size_8abf5 l D G Z Y σ0 r1 hr1 q1 hq1) (cwV 0 hts (gwV wd_523 wd_524 wd_525 wd_10 wd_526) rfl rfl rfl hd_Jx4a65c_size_8abf5 ⟨Nat.le_of_ble_eq_true rfl, Nat.le_of_ble_eq_true rfl⟩) (hg_Li G Z Y σ0 hr1) rfl rfl rfl hl.1 rfl (Nat.le_of_ble_eq_true rfl) dX11_keepText_1 ⟨Nat.zero_le _, Nat.zero_le _⟩ rfl (fun H locs hP hD hS => ?_)
  refine lv_bipush (v := 12) hx hb dX11_keepText_4 (by decide) ?_
  refine lv_icmp_ge (tgt := 17) hx hb dX11_keepText_6 (by decide) (fun c2 => ?_) (fun c2 => ?_)
  · skip
    have h := f_t c2 h
    refine lv_iconst (v := (-1)) hx hb dX11_keepText_17 (by decide) ?_
    obtain rfl := Option.some.inj h
    exact W.iret (v := (-1 : Int32)) hx hb hr (q_end hK hP hD hS) hS.2.2 dX11_keepText_18
  · skip
    have h := f_f c2 h
    refine lv_aload_n hx hb dX11_keepText_9 rfl (lv_at hl 2 rfl) ?_
    obtain ⟨q3, hq3, h⟩ := f_b h
    refine cl_V (w := (hW G Z Y σ0)) (w' := (hW G Z Y q3.2)) (rv := some (.int q3.1)) (bytes := cX10_read) (maxL := 3) (ret := (some .int)) (C := RX10) (As := []) (rest := []) (stk := [.int q3.1]) ⟨hx, hb, hml, hown, hts⟩ hK hE hA hP hD hS (c_X10_read l D G Z Y σ0 F r2 hr2 q3 hq3) (cwV 0 hts (gwV wd_360 wd_361 wd_362 wd_4 wd_363) rfl rfl rfl hd_X10_read ⟨Nat.le_of_ble_eq_true rfl, Nat.le_of_ble_eq_true rfl⟩) (hg_Rd G Z Y σ0 hr2) rfl rfl rfl hl.1 rfl (Nat.le_of_ble_eq_true rfl) dX11_keepText_10 ⟨Nat.zero_le _, Nat.zero_le _⟩ rfl (fun H locs hP hD hS => ?_)
    refine lv_iconst (v := (-1)) hx hb dX11_keepText_13 (by decide) ?_
    refine lv_icmp_eq (tgt := 19) hx hb dX11_keepText_14 (by decide) (fun c4 => ?_) (fun c4 => ?_)
    · skip
      have h := f_t c4 h
      refine lv_aload_n hx hb dX11_keepText_19 rfl (lv_at hl 1 rfl) ?_
      cases h
    · skip
      have h := f_f c4 h
      refine lv_iconst (v := (-1)) hx hb dX11_keepText_17 (by decide) ?_
      obtain rfl := Option.some.inj h
      exact W.iret (v := (-1 : Int32)) hx hb hr (q_end hK hP hD hS) hS.2.2 dX11_keepText_18
abbrev rm_X11_law : Room := { frames := 81, cells := 0, slots := 0, locals := 1863 }
set_option maxRecDepth 100000 in
set_option maxHeartbeats 8000000 in
theorem c_X11_law (l : Launch) (D : va_G) (G : hG) (Z : hZ) (Y : va_W) (σ0 : hSt) (F : Nat) (res : (Int32 × hSt)) (h : f_X11_law F Z σ0 = some res) : CT l yX11_law cX11_law 1 (some .int) rm_X11_law D G 0 0 [.ref (G.2.1 0)] (hW G Z Y σ0) (hW G Z Y res.2) (some (.int res.1)) := by
  unfold f_X11_law at h
  refine CT.mk (cc := cX11_law) (maxL := 1) (ret := (some .int)) (own := RX11) (plainFor_of_name (by decide)) rfl (Nat.le_of_ble_eq_true rfl) ?_
  intro p e s m args below meth c A ls C0 hnm hA hP hD hl
  obtain ⟨hx, hb, hr, hml, hown, hts, hlocks, hK, hE⟩ := id C0
  have hS : va_S A s.heap s.heap [] := va_S.rf
  have hl : lv_has ls 1 [(0, .ref (G.2.1 0))] := hl
  refine lv_aload_n hx hb dX11_law_0 rfl (lv_at hl 0 rfl) ?_
  refine lv_aload_n hx hb dX11_law_1 rfl (lv_at hl 0 rfl) ?_
  refine va_get (D := D) (ci := 11) (v := .ref (G.2.1 39)) (C := RX11) (T := TX11) (N := 16) hx hb hts inU_X11 hown hK hP _ (hg_0 G Z Y σ0) rfl 9 (by decide) (hts _ wd_244) (fun _ h9 => h9) rfl dX11_law_2 ?_
  refine lv_aload_n hx hb dX11_law_5 rfl (lv_at hl 0 rfl) ?_
  refine va_get (D := D) (ci := 11) (v := .ref (G.2.1 5)) (C := RX11) (T := TX11) (N := 16) hx hb hts inU_X11 hown hK hP _ (hg_0 G Z Y σ0) rfl 2 (by decide) (hts _ wd_237) (fun _ h9 => h9) rfl dX11_law_6 ?_
  obtain ⟨q1, hq1, h⟩ := f_b h
  refine cl_V (w := (hW G Z Y σ0)) (w' := (hW G Z Y q1.2)) (rv := some (.int q1.1)) (bytes := cX11_keepText) (maxL := 3) (ret := (some .int)) (C := RX11) (As := [.ref (G.2.1 39), .ref (G.2.1 5)]) (rest := []) (stk := [.int q1.1]) ⟨hx, hb, hml, hown, hts⟩ hK hE hA hP hD hS (c_X11_keepText l D G Z Y σ0 F 39 (rfl : isLi 39 = true) 5 (rfl : isRd 5 = true) q1 hq1) (cwV 2 hts (gwV wd_743 wd_745 wp_22 wd_1 wd_746) rfl rfl rfl hd_X11_keepText ⟨Nat.le_of_ble_eq_true rfl, Nat.le_of_ble_eq_true rfl⟩) (hg_0 G Z Y σ0) rfl rfl rfl hl.1 rfl (Nat.le_of_ble_eq_true rfl) dX11_law_9 ⟨Nat.zero_le _, Nat.zero_le _⟩ rfl (fun H locs hP hD hS => ?_)
  obtain rfl := Option.some.inj h
  exact W.iret (v := q1.1) hx hb hr (q_end hK hP hD hS) hS.2.2 dX11_law_12
abbrev rm_X11_giant : Room := { frames := 81, cells := 0, slots := 0, locals := 1863 }
set_option maxRecDepth 100000 in
set_option maxHeartbeats 8000000 in
theorem c_X11_giant (l : Launch) (D : va_G) (G : hG) (Z : hZ) (Y : va_W) (σ0 : hSt) (F : Nat) (res : (Int32 × hSt)) (h : f_X11_giant F Z σ0 = some res) : CT l yX11_giant cX11_giant 1 (some .int) rm_X11_giant D G 0 0 [.ref (G.2.1 0)] (hW G Z Y σ0) (hW G Z Y res.2) (some (.int res.1)) := by
  unfold f_X11_giant at h
  refine CT.mk (cc := cX11_giant) (maxL := 1) (ret := (some .int)) (own := RX11) (plainFor_of_name (by decide)) rfl (Nat.le_of_ble_eq_true rfl) ?_
  intro p e s m args below meth c A ls C0 hnm hA hP hD hl
  obtain ⟨hx, hb, hr, hml, hown, hts, hlocks, hK, hE⟩ := id C0
  have hS : va_S A s.heap s.heap [] := va_S.rf
  have hl : lv_has ls 1 [(0, .ref (G.2.1 0))] := hl
  refine lv_aload_n hx hb dX11_giant_0 rfl (lv_at hl 0 rfl) ?_
  refine lv_aload_n hx hb dX11_giant_1 rfl (lv_at hl 0 rfl) ?_
  refine va_get (D := D) (ci := 11) (v := .ref (G.2.1 40)) (C := RX11) (T := TX11) (N := 16) hx hb hts inU_X11 hown hK hP _ (hg_0 G Z Y σ0) rfl 10 (by decide) (hts _ wd_245) (fun _ h9 => h9) rfl dX11_giant_2 ?_
  refine lv_aload_n hx hb dX11_giant_5 rfl (lv_at hl 0 rfl) ?_
  refine va_get (D := D) (ci := 11) (v := .ref (G.2.1 6)) (C := RX11) (T := TX11) (N := 16) hx hb hts inU_X11 hown hK hP _ (hg_0 G Z Y σ0) rfl 3 (by decide) (hts _ wd_238) (fun _ h9 => h9) rfl dX11_giant_6 ?_
  obtain ⟨q1, hq1, h⟩ := f_b h
  refine cl_V (w := (hW G Z Y σ0)) (w' := (hW G Z Y q1.2)) (rv := some (.int q1.1)) (bytes := cX11_keepText) (maxL := 3) (ret := (some .int)) (C := RX11) (As := [.ref (G.2.1 40), .ref (G.2.1 6)]) (rest := []) (stk := [.int q1.1]) ⟨hx, hb, hml, hown, hts⟩ hK hE hA hP hD hS (c_X11_keepText l D G Z Y σ0 F 40 (rfl : isLi 40 = true) 6 (rfl : isRd 6 = true) q1 hq1) (cwV 2 hts (gwV wd_743 wd_745 wp_22 wd_1 wd_746) rfl rfl rfl hd_X11_keepText ⟨Nat.le_of_ble_eq_true rfl, Nat.le_of_ble_eq_true rfl⟩) (hg_0 G Z Y σ0) rfl rfl rfl hl.1 rfl (Nat.le_of_ble_eq_true rfl) dX11_giant_9 ⟨Nat.zero_le _, Nat.zero_le _⟩ rfl (fun H locs hP hD hS => ?_)
  obtain rfl := Option.some.inj h
  exact W.iret (v := q1.1) hx hb hr (q_end hK hP hD hS) hS.2.2 dX11_giant_12
abbrev rm_X11_talk : Room := { frames := 7, cells := 0, slots := 0, locals := 162 }
set_option maxRecDepth 100000 in
set_option maxHeartbeats 8000000 in
theorem c_X11_talk (l : Launch) (D : va_G) (G : hG) (Z : hZ) (Y : va_W) (σ0 : hSt) (F : Nat) (x1 : Int32) (x2 : Int32) (x3 : Int32) (x4 : Int32) (res : (Int32 × hSt)) (h : f_X11_talk F Z σ0 x1 x2 x3 x4 = some res) : CT l yX11_talk cX11_talk 8 (some .int) rm_X11_talk D G 0 0 [.ref (G.2.1 0), .int x1, .int x2, .int x3, .int x4] (hW G Z Y σ0) (hW G Z Y res.2) (some (.int res.1)) := by
  unfold f_X11_talk at h
  refine CT.mk (cc := cX11_talk) (maxL := 8) (ret := (some .int)) (own := RX11) (plainFor_of_name (by decide)) rfl (Nat.le_of_ble_eq_true rfl) ?_
  intro p e s m args below meth c A ls C0 hnm hA hP hD hl
  obtain ⟨hx, hb, hr, hml, hown, hts, hlocks, hK, hE⟩ := id C0
  have hS : va_S A s.heap s.heap [] := va_S.rf
  have hl : lv_has ls 8 [(0, .ref (G.2.1 0)), (1, .int x1), (2, .int x2), (3, .int x3), (4, .int x4)] := hl
  refine lv_aload_n hx hb dX11_talk_0 rfl (lv_at hl 0 rfl) ?_
  refine lv_iload_n hx hb dX11_talk_1 rfl (lv_at hl 1 rfl) ?_
  obtain ⟨q1, hq1, h⟩ := f_b h
  refine cl_V (w := (hW G Z Y σ0)) (w' := (hW G Z Y σ0)) (rv := some (va_rf ((q1).map G.2.1))) (bytes := cX11_sayingAt) (maxL := 2) (ret := (some (.object "LiarHall$Saying"))) (C := RX11) (As := [.int x1]) (rest := []) (stk := [va_rf ((q1).map G.2.1)]) ⟨hx, hb, hml, hown, hts⟩ hK hE hA hP hD hS (c_X11_sayingAt l D G Z Y σ0 x1 q1 hq1) (cwV 1 hts (gwV wd_657 wd_659 wp_19 wd_1 wd_660) rfl rfl rfl hd_X11_sayingAt ⟨Nat.le_of_ble_eq_true rfl, Nat.le_of_ble_eq_true rfl⟩) (hg_0 G Z Y σ0) rfl rfl rfl hl.1 rfl (Nat.le_of_ble_eq_true rfl) dX11_talk_2 ⟨Nat.zero_le _, Nat.zero_le _⟩ rfl (fun H locs hP hD hS => ?_)
  rcases f_o h with ⟨ho, h⟩ | ⟨r2, ho, h⟩
  · rw [ho]
    refine lv_astoreN (lv' := [(5, .null), (0, .ref (G.2.1 0)), (1, .int x1), (2, .int x2), (3, .int x3), (4, .int x4)]) hx hb dX11_talk_5 hl (by decide) rfl (fun ls hl => ?_)
    refine lv_aload_n hx hb dX11_talk_7 rfl (lv_at hl 1 rfl) ?_
    refine va_get (D := D) (ci := 11) (v := .ref (G.2.1 39)) (C := RX11) (T := TX11) (N := 16) hx hb hts inU_X11 hown hK hP _ (hg_0 G Z Y σ0) rfl 9 (by decide) (hts _ wd_244) (fun _ h9 => h9) rfl dX11_talk_8 ?_
    refine lv_iload_n hx hb dX11_talk_11 rfl (lv_at hl 4 rfl) ?_
    obtain ⟨q3, hq3, h⟩ := f_b h
    refine cl_S (w := (hW G Z Y σ0)) (w' := (hW G Z Y σ0)) (rv := some (va_rf ((q3).map G.2.1))) (bytes := cX11_textAt) (maxL := 2) (ret := (some (.object "LiarHall$Text"))) (As := [.ref (G.2.1 39), .int x3]) (rest := []) (stk := [va_rf ((q3).map G.2.1)]) ⟨hx, hb, hml, hown, hts⟩ hK hE hA hP hD hS (c_X11_textAt l D G Z Y σ0 39 (rfl : isLi 39 = true) x3 q3 hq3) (mkS hts wd_766 wd_767 wd_1 wd_768 rfl rfl hd_X11_textAt ⟨Nat.le_of_ble_eq_true rfl, Nat.le_of_ble_eq_true rfl⟩) rfl hl.1 rfl (Nat.le_of_ble_eq_true rfl) dX11_talk_12 ⟨Nat.zero_le _, Nat.zero_le _⟩ rfl (fun H locs hP hD hS => ?_)
    rcases f_o h with ⟨ho, h⟩ | ⟨r4, ho, h⟩
    · rw [ho]
      refine lv_astoreN (lv' := [(6, .null), (5, .null), (0, .ref (G.2.1 0)), (1, .int x1), (2, .int x2), (3, .int x3), (4, .int x4)]) hx hb dX11_talk_15 hl (by decide) rfl (fun ls hl => ?_)
      refine lv_aload_n hx hb dX11_talk_17 rfl (lv_at hl 2 rfl) ?_
      refine va_get (D := D) (ci := 11) (v := .ref (G.2.1 40)) (C := RX11) (T := TX11) (N := 16) hx hb hts inU_X11 hown hK hP _ (hg_0 G Z Y σ0) rfl 10 (by decide) (hts _ wd_245) (fun _ h9 => h9) rfl dX11_talk_18 ?_
      refine lv_iload hx hb dX11_talk_21 (lv_at hl 6 rfl) ?_
      obtain ⟨q5, hq5, h⟩ := f_b h
      refine cl_S (w := (hW G Z Y σ0)) (w' := (hW G Z Y σ0)) (rv := some (va_rf ((q5).map G.2.1))) (bytes := cX11_textAt) (maxL := 2) (ret := (some (.object "LiarHall$Text"))) (As := [.ref (G.2.1 40), .int x4]) (rest := []) (stk := [va_rf ((q5).map G.2.1)]) ⟨hx, hb, hml, hown, hts⟩ hK hE hA hP hD hS (c_X11_textAt l D G Z Y σ0 40 (rfl : isLi 40 = true) x4 q5 hq5) (mkS hts wd_766 wd_767 wd_1 wd_768 rfl rfl hd_X11_textAt ⟨Nat.le_of_ble_eq_true rfl, Nat.le_of_ble_eq_true rfl⟩) rfl hl.1 rfl (Nat.le_of_ble_eq_true rfl) dX11_talk_23 ⟨Nat.zero_le _, Nat.zero_le _⟩ rfl (fun H locs hP hD hS => ?_)
      rcases f_o h with ⟨ho, h⟩ | ⟨r6, ho, h⟩
      · rw [ho]
        refine lv_astoreN (lv' := [(7, .null), (6, .null), (5, .null), (0, .ref (G.2.1 0)), (1, .int x1), (2, .int x2), (3, .int x3), (4, .int x4)]) hx hb dX11_talk_26 hl (by decide) rfl (fun ls hl => ?_)
        refine lv_aloadN hx hb dX11_talk_28 (lv_at hl 2 rfl) ?_
        refine lv_ifnullN (tgt := 55) hx hb dX11_talk_30 (by decide) ?_
        refine lv_iconst (v := (-1)) hx hb dX11_talk_55 (by decide) ?_
        obtain rfl := Option.some.inj h
        exact W.iret (v := (-1 : Int32)) hx hb hr (q_end hK hP hD hS) hS.2.2 dX11_talk_56
      · rw [ho]
        obtain ⟨hr6, h⟩ := f_c h
        refine lv_astore (lv' := [(7, .ref (G.2.1 r6)), (6, .null), (5, .null), (0, .ref (G.2.1 0)), (1, .int x1), (2, .int x2), (3, .int x3), (4, .int x4)]) hx hb dX11_talk_26 hl (by decide) rfl (fun ls hl => ?_)
        refine lv_aloadN hx hb dX11_talk_28 (lv_at hl 2 rfl) ?_
        refine lv_ifnullN (tgt := 55) hx hb dX11_talk_30 (by decide) ?_
        refine lv_iconst (v := (-1)) hx hb dX11_talk_55 (by decide) ?_
        obtain rfl := Option.some.inj h
        exact W.iret (v := (-1 : Int32)) hx hb hr (q_end hK hP hD hS) hS.2.2 dX11_talk_56
    · rw [ho]
      obtain ⟨hr4, h⟩ := f_c h
      refine lv_astore (lv' := [(6, .ref (G.2.1 r4)), (5, .null), (0, .ref (G.2.1 0)), (1, .int x1), (2, .int x2), (3, .int x3), (4, .int x4)]) hx hb dX11_talk_15 hl (by decide) rfl (fun ls hl => ?_)
      refine lv_aload_n hx hb dX11_talk_17 rfl (lv_at hl 2 rfl) ?_
      refine va_get (D := D) (ci := 11) (v := .ref (G.2.1 40)) (C := RX11) (T := TX11) (N := 16) hx hb hts inU_X11 hown hK hP _ (hg_0 G Z Y σ0) rfl 10 (by decide) (hts _ wd_245) (fun _ h9 => h9) rfl dX11_talk_18 ?_
      refine lv_iload hx hb dX11_talk_21 (lv_at hl 6 rfl) ?_
      obtain ⟨q7, hq7, h⟩ := f_b h
      refine cl_S (w := (hW G Z Y σ0)) (w' := (hW G Z Y σ0)) (rv := some (va_rf ((q7).map G.2.1))) (bytes := cX11_textAt) (maxL := 2) (ret := (some (.object "LiarHall$Text"))) (As := [.ref (G.2.1 40), .int x4]) (rest := []) (stk := [va_rf ((q7).map G.2.1)]) ⟨hx, hb, hml, hown, hts⟩ hK hE hA hP hD hS (c_X11_textAt l D G Z Y σ0 40 (rfl : isLi 40 = true) x4 q7 hq7) (mkS hts wd_766 wd_767 wd_1 wd_768 rfl rfl hd_X11_textAt ⟨Nat.le_of_ble_eq_true rfl, Nat.le_of_ble_eq_true rfl⟩) rfl hl.1 rfl (Nat.le_of_ble_eq_true rfl) dX11_talk_23 ⟨Nat.zero_le _, Nat.zero_le _⟩ rfl (fun H locs hP hD hS => ?_)
      rcases f_o h with ⟨ho, h⟩ | ⟨r8, ho, h⟩
      · rw [ho]
        refine lv_astoreN (lv' := [(7, .null), (6, .ref (G.2.1 r4)), (5, .null), (0, .ref (G.2.1 0)), (1, .int x1), (2, .int x2), (3, .int x3), (4, .int x4)]) hx hb dX11_talk_26 hl (by decide) rfl (fun ls hl => ?_)
        refine lv_aloadN hx hb dX11_talk_28 (lv_at hl 2 rfl) ?_
        refine lv_ifnullN (tgt := 55) hx hb dX11_talk_30 (by decide) ?_
        refine lv_iconst (v := (-1)) hx hb dX11_talk_55 (by decide) ?_
        obtain rfl := Option.some.inj h
        exact W.iret (v := (-1 : Int32)) hx hb hr (q_end hK hP hD hS) hS.2.2 dX11_talk_56
      · rw [ho]
        obtain ⟨hr8, h⟩ := f_c h
        refine lv_astore (lv' := [(7, .ref (G.2.1 r8)), (6, .ref (G.2.1 r4)), (5, .null), (0, .ref (G.2.1 0)), (1, .int x1), (2, .int x2), (3, .int x3), (4, .int x4)]) hx hb dX11_talk_26 hl (by decide) rfl (fun ls hl => ?_)
        refine lv_aloadN hx hb dX11_talk_28 (lv_at hl 2 rfl) ?_
        refine lv_ifnullN (tgt := 55) hx hb dX11_talk_30 (by decide) ?_
        refine lv_iconst (v := (-1)) hx hb dX11_talk_55 (by decide) ?_
        obtain rfl := Option.some.inj h
        exact W.iret (v := (-1 : Int32)) hx hb hr (q_end hK hP hD hS) hS.2.2 dX11_talk_56
  · rw [ho]
    obtain ⟨hr2, h⟩ := f_c h
    refine lv_astore (lv' := [(5, .ref (G.2.1 r2)), (0, .ref (G.2.1 0)), (1, .int x1), (2, .int x2), (3, .int x3), (4, .int x4)]) hx hb dX11_talk_5 hl (by decide) rfl (fun ls hl => ?_)
    refine lv_aload_n hx hb dX11_talk_7 rfl (lv_at hl 1 rfl) ?_
    refine va_get (D := D) (ci := 11) (v := .ref (G.2.1 39)) (C := RX11) (T := TX11) (N := 16) hx hb hts inU_X11 hown hK hP _ (hg_0 G Z Y σ0) rfl 9 (by decide) (hts _ wd_244) (fun _ h9 => h9) rfl dX11_talk_8 ?_
    refine lv_iload_n hx hb dX11_talk_11 rfl (lv_at hl 4 rfl) ?_
    obtain ⟨q9, hq9, h⟩ := f_b h
    refine cl_S (w := (hW G Z Y σ0)) (w' := (hW G Z Y σ0)) (rv := some (va_rf ((q9).map G.2.1))) (bytes := cX11_textAt) (maxL := 2) (ret := (some (.object "LiarHall$Text"))) (As := [.ref (G.2.1 39), .int x3]) (rest := []) (stk := [va_rf ((q9).map G.2.1)]) ⟨hx, hb, hml, hown, hts⟩ hK hE hA hP hD hS (c_X11_textAt l D G Z Y σ0 39 (rfl : isLi 39 = true) x3 q9 hq9) (mkS hts wd_766 wd_767 wd_1 wd_768 rfl rfl hd_X11_textAt ⟨Nat.le_of_ble_eq_true rfl, Nat.le_of_ble_eq_true rfl⟩) rfl hl.1 rfl (Nat.le_of_ble_eq_true rfl) dX11_talk_12 ⟨Nat.zero_le _, Nat.zero_le _⟩ rfl (fun H locs hP hD hS => ?_)
    rcases f_o h with ⟨ho, h⟩ | ⟨r10, ho, h⟩
    · rw [ho]
      refine lv_astoreN (lv' := [(6, .null), (5, .ref (G.2.1 r2)), (0, .ref (G.2.1 0)), (1, .int x1), (2, .int x2), (3, .int x3), (4, .int x4)]) hx hb dX11_talk_15 hl (by decide) rfl (fun ls hl => ?_)
      refine lv_aload_n hx hb dX11_talk_17 rfl (lv_at hl 2 rfl) ?_
      refine va_get (D := D) (ci := 11) (v := .ref (G.2.1 40)) (C := RX11) (T := TX11) (N := 16) hx hb hts inU_X11 hown hK hP _ (hg_0 G Z Y σ0) rfl 10 (by decide) (hts _ wd_245) (fun _ h9 => h9) rfl dX11_talk_18 ?_
      refine lv_iload hx hb dX11_talk_21 (lv_at hl 6 rfl) ?_
      obtain ⟨q11, hq11, h⟩ := f_b h
      refine cl_S (w := (hW G Z Y σ0)) (w' := (hW G Z Y σ0)) (rv := some (va_rf ((q11).map G.2.1))) (bytes := cX11_textAt) (maxL := 2) (ret := (some (.object "LiarHall$Text"))) (As := [.ref (G.2.1 40), .int x4]) (rest := []) (stk := [va_rf ((q11).map G.2.1)]) ⟨hx, hb, hml, hown, hts⟩ hK hE hA hP hD hS (c_X11_textAt l D G Z Y σ0 40 (rfl : isLi 40 = true) x4 q11 hq11) (mkS hts wd_766 wd_767 wd_1 wd_768 rfl rfl hd_X11_textAt ⟨Nat.le_of_ble_eq_true rfl, Nat.le_of_ble_eq_true rfl⟩) rfl hl.1 rfl (Nat.le_of_ble_eq_true rfl) dX11_talk_23 ⟨Nat.zero_le _, Nat.zero_le _⟩ rfl (fun H locs hP hD hS => ?_)
      rcases f_o h with ⟨ho, h⟩ | ⟨r12, ho, h⟩
      · rw [ho]
        refine lv_astoreN (lv' := [(7, .null), (6, .null), (5, .ref (G.2.1 r2)), (0, .ref (G.2.1 0)), (1, .int x1), (2, .int x2), (3, .int x3), (4, .int x4)]) hx hb dX11_talk_26 hl (by decide) rfl (fun ls hl => ?_)
        refine lv_aload hx hb dX11_talk_28 (lv_at hl 2 rfl) ?_
        refine lv_ifnull hx hb dX11_talk_30 ?_
        refine lv_aloadN hx hb dX11_talk_33 (lv_at hl 1 rfl) ?_
        refine lv_ifnullN (tgt := 55) hx hb dX11_talk_35 (by decide) ?_
        refine lv_iconst (v := (-1)) hx hb dX11_talk_55 (by decide) ?_
        obtain rfl := Option.some.inj h
        exact W.iret (v := (-1 : Int32)) hx hb hr (q_end hK hP hD hS) hS.2.2 dX11_talk_56
      · rw [ho]
        obtain ⟨hr12, h⟩ := f_c h
        refine lv_astore (lv' := [(7, .ref (G.2.1 r12)), (6, .null), (5, .ref (G.2.1 r2)), (0, .ref (G.2.1 0)), (1, .int x1), (2, .int x2), (3, .int x3), (4, .int x4)]) hx hb dX11_talk_26 hl (by decide) rfl (fun ls hl => ?_)
        refine lv_aload hx hb dX11_talk_28 (lv_at hl 2 rfl) ?_
        refine lv_ifnull hx hb dX11_talk_30 ?_
        refine lv_aloadN hx hb dX11_talk_33 (lv_at hl 1 rfl) ?_
        refine lv_ifnullN (tgt := 55) hx hb dX11_talk_35 (by decide) ?_
        refine lv_iconst (v := (-1)) hx hb dX11_talk_55 (by decide) ?_
        obtain rfl := Option.some.inj h
        exact W.iret (v := (-1 : Int32)) hx hb hr (q_end hK hP hD hS) hS.2.2 dX11_talk_56
    · rw [ho]
      obtain ⟨hr10, h⟩ := f_c h
      refine lv_astore (lv' := [(6, .ref (G.2.1 r10)), (5, .ref (G.2.1 r2)), (0, .ref (G.2.1 0)), (1, .int x1), (2, .int x2), (3, .int x3), (4, .int x4)]) hx hb dX11_talk_15 hl (by decide) rfl (fun ls hl => ?_)
      refine lv_aload_n hx hb dX11_talk_17 rfl (lv_at hl 2 rfl) ?_
      refine va_get (D := D) (ci := 11) (v := .ref (G.2.1 40)) (C := RX11) (T := TX11) (N := 16) hx hb hts inU_X11 hown hK hP _ (hg_0 G Z Y σ0) rfl 10 (by decide) (hts _ wd_245) (fun _ h9 => h9) rfl dX11_talk_18 ?_
      refine lv_iload hx hb dX11_talk_21 (lv_at hl 6 rfl) ?_
      obtain ⟨q13, hq13, h⟩ := f_b h
      refine cl_S (w := (hW G Z Y σ0)) (w' := (hW G Z Y σ0)) (rv := some (va_rf ((q13).map G.2.1))) (bytes := cX11_textAt) (maxL := 2) (ret := (some (.object "LiarHall$Text"))) (As := [.ref (G.2.1 40), .int x4]) (rest := []) (stk := [va_rf ((q13).map G.2.1)]) ⟨hx, hb, hml, hown, hts⟩ hK hE hA hP hD hS (c_X11_textAt l D G Z Y σ0 40 (rfl : isLi 40 = true) x4 q13 hq13) (mkS hts wd_766 wd_767 wd_1 wd_768 rfl rfl hd_X11_textAt ⟨Nat.le_of_ble_eq_true rfl, Nat.le_of_ble_eq_true rfl⟩) rfl hl.1 rfl (Nat.le_of_ble_eq_true rfl) dX11_talk_23 ⟨Nat.zero_le _, Nat.zero_le _⟩ rfl (fun H locs hP hD hS => ?_)
      rcases f_o h with ⟨ho, h⟩ | ⟨r14, ho, h⟩
      · rw [ho]
        refine lv_astoreN (lv' := [(7, .null), (6, .ref (G.2.1 r10)), (5, .ref (G.2.1 r2)), (0, .ref (G.2.1 0)), (1, .int x1), (2, .int x2), (3, .int x3), (4, .int x4)]) hx hb dX11_talk_26 hl (by decide) rfl (fun ls hl => ?_)
        refine lv_aload hx hb dX11_talk_28 (lv_at hl 2 rfl) ?_
        refine lv_ifnull hx hb dX11_talk_30 ?_
        refine lv_aload hx hb dX11_talk_33 (lv_at hl 1 rfl) ?_
        refine lv_ifnull hx hb dX11_talk_35 ?_
        refine lv_aloadN hx hb dX11_talk_38 (lv_at hl 0 rfl) ?_
        refine lv_ifnullN (tgt := 55) hx hb dX11_talk_40 (by decide) ?_
        refine lv_iconst (v := (-1)) hx hb dX11_talk_55 (by decide) ?_
        obtain rfl := Option.some.inj h
        exact W.iret (v := (-1 : Int32)) hx hb hr (q_end hK hP hD hS) hS.2.2 dX11_talk_56
      · rw [ho]
        obtain ⟨hr14, h⟩ := f_c h
        refine lv_astore (lv' := [(7, .ref (G.2.1 r14)), (6, .ref (G.2.1 r10)), (5, .ref (G.2.1 r2)), (0, .ref (G.2.1 0)), (1, .int x1), (2, .int x2), (3, .int x3), (4, .int x4)]) hx hb dX11_talk_26 hl (by decide) rfl (fun ls hl => ?_)
        refine lv_aload hx hb dX11_talk_28 (lv_at hl 2 rfl) ?_
        refine lv_ifnull hx hb dX11_talk_30 ?_
        refine lv_aload hx hb dX11_talk_33 (lv_at hl 1 rfl) ?_
        refine lv_ifnull hx hb dX11_talk_35 ?_
        refine lv_aload hx hb dX11_talk_38 (lv_at hl 0 rfl) ?_
        refine lv_ifnull hx hb dX11_talk_40 ?_
        refine lv_aload_n hx hb dX11_talk_43 rfl (lv_at hl 3 rfl) ?_
        refine va_get (D := D) (ci := 11) (v := .ref (G.2.1 41)) (C := RX11) (T := TX11) (N := 16) hx hb hts inU_X11 hown hK hP _ (hg_0 G Z Y σ0) rfl 11 (by decide) (hts _ wd_246) (fun _ h9 => h9) rfl dX11_talk_44 ?_
        obtain ⟨q15, hq15, h⟩ := f_b h
        refine cl_V (w := (hW G Z Y σ0)) (w' := (hW G Z Y σ0)) (rv := some (.int q15)) (bytes := cJx4a65c_size_8abf5) (maxL := 1) (ret := (some .int)) (C := RJx4a65c) (As := []) (rest := []) (stk := [.int q15]) ⟨hx, hb, hml, hown, hts⟩ hK hE hA hP hD hS (c_Jx4a65c_size_8abf5 l D G Z Y σ0 41 (rfl : isLi 41 = true) q15 hq15) (cwV 0 hts (gwV wd_523 wd_524 wd_525 wd_10 wd_526) rfl rfl rfl hd_Jx4a65c_size_8abf5 ⟨Nat.le_of_ble_eq_true rfl, Nat.le_of_ble_eq_true rfl⟩) (hg_41 G Z Y σ0) rfl rfl rfl hl.1 rfl (Nat.le_of_ble_eq_true rfl) dX11_talk_47 ⟨Nat.zero_le _, Nat.zero_le _⟩ rfl (fun H locs hP hD hS => ?_)
        refine lv_bipush (v := 12) hx hb dX11_talk_50 (by decide) ?_
        refine lv_icmp_lt (tgt := 57) hx hb dX11_talk_52 (by decide) (fun c16 => ?_) (fun c16 => ?_)
        · skip
          have h := f_t c16 h
          refine lv_iload_n hx hb dX11_talk_57 rfl (lv_at hl 5 rfl) ?_
          obtain ⟨q17, hq17, h⟩ := f_b h
          refine cl_S (w := (hW G Z Y σ0)) (w' := (hW G Z Y σ0)) (rv := some (.int q17)) (bytes := cX11_isModulus) (maxL := 1) (ret := (some .boolean)) (As := [.int x2]) (rest := []) (stk := [.int q17]) ⟨hx, hb, hml, hown, hts⟩ hK hE hA hP hD hS (c_X11_isModulus l D G (hW G Z Y σ0) F x2 q17 hq17) (mkS hts wd_697 wd_698 wd_1 wd_699 rfl rfl hd_X11_isModulus ⟨Nat.le_of_ble_eq_true rfl, Nat.le_of_ble_eq_true rfl⟩) rfl hl.1 rfl (Nat.le_of_ble_eq_true rfl) dX11_talk_58 ⟨Nat.zero_le _, Nat.zero_le _⟩ rfl (fun H locs hP hD hS => ?_)
          refine lv_if_eq (tgt := 73) hx hb dX11_talk_61 (by decide) (fun c18 => ?_) (fun c18 => ?_)
          · skip
            have h := f_t c18 h
            refine lv_iconst (v := (-1)) hx hb dX11_talk_73 (by decide) ?_
            obtain rfl := Option.some.inj h
            exact W.iret (v := (-1 : Int32)) hx hb hr (q_end hK hP hD hS) hS.2.2 dX11_talk_74
          · skip
            have h := f_f c18 h
            refine lv_iload_n hx hb dX11_talk_64 rfl (lv_at hl 5 rfl) ?_
            refine lv_aload hx hb dX11_talk_65 (lv_at hl 2 rfl) ?_
            obtain ⟨q19, hq19, h⟩ := f_b h
            obtain ⟨qq20, hq20⟩ := hg_Sa G Z Y σ0 hr2
            refine cl_V (w := (hW G Z Y σ0)) (w' := (hW G Z Y σ0)) (rv := some (.int q19)) (bytes := cX4_mostSteep) (maxL := 6) (ret := (some .int)) (C := RX4) (As := []) (rest := [.int x2]) (stk := [.int q19, .int x2]) ⟨hx, hb, hml, hown, hts⟩ hK hE hA hP hD hS (c_X4_mostSteep l D G Z Y σ0 F r2 hr2 q19 hq19) (cwV 0 hts (gwV wd_769 wd_770 wd_771 wd_18 wd_772) rfl rfl rfl hd_X4_mostSteep ⟨Nat.le_of_ble_eq_true rfl, Nat.le_of_ble_eq_true rfl⟩) hq20 rfl rfl rfl hl.1 rfl (Nat.le_of_ble_eq_true rfl) dX11_talk_67 ⟨Nat.zero_le _, Nat.zero_le _⟩ rfl (fun H locs hP hD hS => ?_)
            refine lv_icmp_gt (tgt := 75) hx hb dX11_talk_70 (by decide) (fun c21 => ?_) (fun c21 => ?_)
            · skip
              have h := f_t c21 h
              refine lv_aload_n hx hb dX11_talk_75 rfl (lv_at hl 3 rfl) ?_
              refine va_get (D := D) (ci := 11) (v := .ref (G.2.1 41)) (C := RX11) (T := TX11) (N := 16) hx hb hts inU_X11 hown hK hP _ (hg_0 G Z Y σ0) rfl 11 (by decide) (hts _ wd_246) (fun _ h9 => h9) rfl dX11_talk_76 ?_
              cases h
            · skip
              have h := f_f c21 h
              refine lv_iconst (v := (-1)) hx hb dX11_talk_73 (by decide) ?_
              obtain rfl := Option.some.inj h
              exact W.iret (v := (-1 : Int32)) hx hb hr (q_end hK hP hD hS) hS.2.2 dX11_talk_74
        · skip
          have h := f_f c16 h
          refine lv_iconst (v := (-1)) hx hb dX11_talk_55 (by decide) ?_
          obtain rfl := Option.some.inj h
          exact W.iret (v := (-1 : Int32)) hx hb hr (q_end hK hP hD hS) hS.2.2 dX11_talk_56
abbrev rm_X11_net : Room := { frames := 7, cells := 0, slots := 0, locals := 162 }
set_option maxRecDepth 100000 in
set_option maxHeartbeats 8000000 in
theorem c_X11_net (l : Launch) (D : va_G) (G : hG) (Z : hZ) (Y : va_W) (σ0 : hSt) (x1 : Int32) (x2 : Int32) (res : (Int32 × hSt)) (h : f_X11_net Z σ0 x1 x2 = some res) : CT l yX11_net cX11_net 3 (some .int) rm_X11_net D G 0 0 [.ref (G.2.1 0), .int x1, .int x2] (hW G Z Y σ0) (hW G Z Y res.2) (some (.int res.1)) := by
  unfold f_X11_net at h
  refine CT.mk (cc := cX11_net) (maxL := 3) (ret := (some .int)) (own := RX11) (plainFor_of_name (by decide)) rfl (Nat.le_of_ble_eq_true rfl) ?_
  intro p e s m args below meth c A ls C0 hnm hA hP hD hl
  obtain ⟨hx, hb, hr, hml, hown, hts, hlocks, hK, hE⟩ := id C0
  have hS : va_S A s.heap s.heap [] := va_S.rf
  have hl : lv_has ls 3 [(0, .ref (G.2.1 0)), (1, .int x1), (2, .int x2)] := hl
  refine lv_aload_n hx hb dX11_net_0 rfl (lv_at hl 0 rfl) ?_
  refine va_get (D := D) (ci := 11) (v := .ref (G.2.1 42)) (C := RX11) (T := TX11) (N := 16) hx hb hts inU_X11 hown hK hP _ (hg_0 G Z Y σ0) rfl 12 (by decide) (hts _ wd_247) (fun _ h9 => h9) rfl dX11_net_1 ?_
  obtain ⟨q1, hq1, h⟩ := f_b h
  refine cl_V (w := (hW G Z Y σ0)) (w' := (hW G Z Y σ0)) (rv := some (.int q1)) (bytes := cJx4a65c_size_8abf5) (maxL := 1) (ret := (some .int)) (C := RJx4a65c) (As := []) (rest := []) (stk := [.int q1]) ⟨hx, hb, hml, hown, hts⟩ hK hE hA hP hD hS (c_Jx4a65c_size_8abf5 l D G Z Y σ0 42 (rfl : isLi 42 = true) q1 hq1) (cwV 0 hts (gwV wd_523 wd_524 wd_525 wd_10 wd_526) rfl rfl rfl hd_Jx4a65c_size_8abf5 ⟨Nat.le_of_ble_eq_true rfl, Nat.le_of_ble_eq_true rfl⟩) (hg_42 G Z Y σ0) rfl rfl rfl hl.1 rfl (Nat.le_of_ble_eq_true rfl) dX11_net_4 ⟨Nat.zero_le _, Nat.zero_le _⟩ rfl (fun H locs hP hD hS => ?_)
  refine lv_bipush (v := 12) hx hb dX11_net_7 (by decide) ?_
  refine lv_icmp_ge (tgt := 23) hx hb dX11_net_9 (by decide) (fun c2 => ?_) (fun c2 => ?_)
  · skip
    have h := f_t c2 h
    refine lv_iconst (v := (-1)) hx hb dX11_net_23 (by decide) ?_
    obtain rfl := Option.some.inj h
    exact W.iret (v := (-1 : Int32)) hx hb hr (q_end hK hP hD hS) hS.2.2 dX11_net_24
  · skip
    have h := f_f c2 h
    refine lv_iload_n hx hb dX11_net_12 rfl (lv_at hl 1 rfl) ?_
    refine lv_iconst (v := 2) hx hb dX11_net_13 (by decide) ?_
    refine lv_icmp_lt (tgt := 23) hx hb dX11_net_14 (by decide) (fun c3 => ?_) (fun c3 => ?_)
    · skip
      have h := f_t c3 h
      refine lv_iconst (v := (-1)) hx hb dX11_net_23 (by decide) ?_
      obtain rfl := Option.some.inj h
      exact W.iret (v := (-1 : Int32)) hx hb hr (q_end hK hP hD hS) hS.2.2 dX11_net_24
    · skip
      have h := f_f c3 h
      refine lv_iload_n hx hb dX11_net_17 rfl (lv_at hl 1 rfl) ?_
      refine lv_bipush (v := 6) hx hb dX11_net_18 (by decide) ?_
      refine lv_icmp_le (tgt := 25) hx hb dX11_net_20 (by decide) (fun c4 => ?_) (fun c4 => ?_)
      · skip
        have h := f_t c4 h
        refine lv_iload_n hx hb dX11_net_25 rfl (lv_at hl 2 rfl) ?_
        refine lv_if_lt (tgt := 42) hx hb dX11_net_26 (by decide) (fun c5 => ?_) (fun c5 => ?_)
        · skip
          have h := f_t c5 h
          refine lv_iconst (v := (-1)) hx hb dX11_net_42 (by decide) ?_
          obtain rfl := Option.some.inj h
          exact W.iret (v := (-1 : Int32)) hx hb hr (q_end hK hP hD hS) hS.2.2 dX11_net_43
        · skip
          have h := f_f c5 h
          refine lv_iload_n hx hb dX11_net_29 rfl (lv_at hl 2 rfl) ?_
          refine lv_iconst (v := 1) hx hb dX11_net_30 (by decide) ?_
          refine lv_iload_n hx hb dX11_net_31 rfl (lv_at hl 1 rfl) ?_
          refine lv_iload_n hx hb dX11_net_32 rfl (lv_at hl 1 rfl) ?_
          refine lv_iconst (v := 1) hx hb dX11_net_33 (by decide) ?_
          refine lv_isub hx hb dX11_net_34 ?_
          refine lv_imul hx hb dX11_net_35 ?_
          refine lv_iconst (v := 2) hx hb dX11_net_36 (by decide) ?_
          refine lv_idiv hx hb dX11_net_37 (by decide) ?_
          refine lv_ishl hx hb dX11_net_38 ?_
          refine lv_icmp_lt (tgt := 44) hx hb dX11_net_39 (by decide) (fun c6 => ?_) (fun c6 => ?_)
          · skip
            have h := f_t c6 h
            refine lv_aload_n hx hb dX11_net_44 rfl (lv_at hl 0 rfl) ?_
            refine va_get (D := D) (ci := 11) (v := .ref (G.2.1 42)) (C := RX11) (T := TX11) (N := 16) hx hb hts inU_X11 hown hK hP _ (hg_0 G Z Y σ0) rfl 12 (by decide) (hts _ wd_247) (fun _ h9 => h9) rfl dX11_net_45 ?_
            cases h
          · skip
            have h := f_f c6 h
            refine lv_iconst (v := (-1)) hx hb dX11_net_42 (by decide) ?_
            obtain rfl := Option.some.inj h
            exact W.iret (v := (-1 : Int32)) hx hb hr (q_end hK hP hD hS) hS.2.2 dX11_net_43
      · skip
        have h := f_f c4 h
        refine lv_iconst (v := (-1)) hx hb dX11_net_23 (by decide) ?_
        obtain rfl := Option.some.inj h
        exact W.iret (v := (-1 : Int32)) hx hb hr (q_end hK hP hD hS) hS.2.2 dX11_net_24
abbrev rm_X11_value : Room := { frames := 2, cells := 0, slots := 0, locals := 43 }
set_option maxRecDepth 100000 in
set_option maxHeartbeats 8000000 in
theorem c_X11_value (l : Launch) (D : va_G) (G : hG) (Z : hZ) (Y : va_W) (σ0 : hSt) (x1 : Int32) (x2 : Int32) (res : (Int32 × hSt)) (h : f_X11_value Z σ0 x1 x2 = some res) : CT l yX11_value cX11_value 3 (some .int) rm_X11_value D G 0 0 [.ref (G.2.1 0), .int x1, .int x2] (hW G Z Y σ0) (hW G Z Y res.2) (some (.int res.1)) := by
  unfold f_X11_value at h
  refine CT.mk (cc := cX11_value) (maxL := 3) (ret := (some .int)) (own := RX11) (plainFor_of_name (by decide)) rfl (Nat.le_of_ble_eq_true rfl) ?_
  intro p e s m args below meth c A ls C0 hnm hA hP hD hl
  obtain ⟨hx, hb, hr, hml, hown, hts, hlocks, hK, hE⟩ := id C0
  have hS : va_S A s.heap s.heap [] := va_S.rf
  have hl : lv_has ls 3 [(0, .ref (G.2.1 0)), (1, .int x1), (2, .int x2)] := hl
  refine lv_aload_n hx hb dX11_value_0 rfl (lv_at hl 0 rfl) ?_
  refine va_get (D := D) (ci := 11) (v := .ref (G.2.1 14)) (C := RX11) (T := TX11) (N := 16) hx hb hts inU_X11 hown hK hP _ (hg_0 G Z Y σ0) rfl 6 (by decide) (hts _ wd_241) (fun _ h9 => h9) rfl dX11_value_1 ?_
  refine lv_iload_n hx hb dX11_value_4 rfl (lv_at hl 1 rfl) ?_
  refine lv_iload_n hx hb dX11_value_5 rfl (lv_at hl 2 rfl) ?_
  obtain ⟨q1, hq1, h⟩ := f_b h
  refine cl_V (w := (hW G Z Y σ0)) (w' := (hW G Z Y σ0)) (rv := some (.int q1)) (bytes := cX1_hasSaid) (maxL := 3) (ret := (some .boolean)) (C := RX1) (As := [.int x1, .int x2]) (rest := []) (stk := [.int q1]) ⟨hx, hb, hml, hown, hts⟩ hK hE hA hP hD hS (c_X1_hasSaid l D G Z Y σ0 14 (rfl : isCo 14 = true) x1 x2 q1 hq1) (cwV 2 hts (gwV wd_1170 wd_1171 wd_1172 wd_7 wd_1173) rfl rfl rfl hd_X1_hasSaid ⟨Nat.le_of_ble_eq_true rfl, Nat.le_of_ble_eq_true rfl⟩) (hg_14 G Z Y σ0) rfl rfl rfl hl.1 rfl (Nat.le_of_ble_eq_true rfl) dX11_value_6 ⟨Nat.zero_le _, Nat.zero_le _⟩ rfl (fun H locs hP hD hS => ?_)
  refine lv_if_ne (tgt := 22) hx hb dX11_value_9 (by decide) (fun c2 => ?_) (fun c2 => ?_)
  · skip
    have h := f_f c2 h
    refine lv_aload_n hx hb dX11_value_22 rfl (lv_at hl 0 rfl) ?_
    refine va_get (D := D) (ci := 11) (v := .ref (G.2.1 14)) (C := RX11) (T := TX11) (N := 16) hx hb hts inU_X11 hown hK hP _ (hg_0 G Z Y σ0) rfl 6 (by decide) (hts _ wd_241) (fun _ h9 => h9) rfl dX11_value_23 ?_
    refine lv_iload_n hx hb dX11_value_26 rfl (lv_at hl 1 rfl) ?_
    refine lv_iload_n hx hb dX11_value_27 rfl (lv_at hl 2 rfl) ?_
    obtain ⟨q3, hq3, h⟩ := f_b h
    refine cl_V (w := (hW G Z Y σ0)) (w' := (hW G Z Y σ0)) (rv := some (.long q3)) (bytes := cX1_saidAt) (maxL := 3) (ret := (some .long)) (C := RX1) (As := [.int x1, .int x2]) (rest := []) (stk := [.long q3]) ⟨hx, hb, hml, hown, hts⟩ hK hE hA hP hD hS (c_X1_saidAt l D G Z Y σ0 14 (rfl : isCo 14 = true) x1 x2 q3 hq3) (cwV 2 hts (gwV wd_1239 wd_880 wd_881 wd_7 wd_882) rfl rfl rfl hd_X1_saidAt ⟨Nat.le_of_ble_eq_true rfl, Nat.le_of_ble_eq_true rfl⟩) (hg_14 G Z Y σ0) rfl rfl rfl hl.1 rfl (Nat.le_of_ble_eq_true rfl) dX11_value_28 ⟨Nat.zero_le _, Nat.zero_le _⟩ rfl (fun H locs hP hD hS => ?_)
    refine lv_l2i (v := (q3 : Int64).toInt32) hx hb dX11_value_31 rfl ?_
    obtain rfl := Option.some.inj h
    exact W.iret (v := (q3 : Int64).toInt32) hx hb hr (q_end hK hP hD hS) hS.2.2 dX11_value_32
  · skip
    have h := f_t c2 h
    cases h
