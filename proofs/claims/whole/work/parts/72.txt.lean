abbrev rm_J3_checkIndex_8e157 : Room := { frames := 1, cells := 0, slots := 0, locals := 30 }
set_option maxRecDepth 100000 in
set_option maxHeartbeats 8000000 in
theorem c_J3_checkIndex_8e157 (l : Launch) (D : va_G) (G : hG) (w : va_W) (x0 : Int32) (x1 : Int32) (res : Int32) (h : f_J3_checkIndex_8e157 x0 x1 = some res) : CT l yJ3_checkIndex_8e157 cJ3_checkIndex_8e157 3 (some .int) rm_J3_checkIndex_8e157 D G 0 0 [.int x0, .int x1, .null] w w (some (.int res)) := by
  unfold f_J3_checkIndex_8e157 at h
  refine CT.mk (cc := cJ3_checkIndex_8e157) (maxL := 3) (ret := (some .int)) (own := RJ3) (plainFor_of_name (by decide)) rfl (Nat.le_of_ble_eq_true rfl) ?_
  intro p e s m args below meth c A ls C0 hnm hA hP hD hl
  obtain ⟨hx, hb, hr, hml, hown, hts, hlocks, hK, hE⟩ := id C0
  have hS : va_S A s.heap s.heap [] := va_S.rf
  have hl : lv_has ls 3 [(0, .int x0), (1, .int x1), (2, .null)] := hl
  refine lv_iload_n hx hb dJ3_checkIndex_8e157_0 rfl (lv_at hl 0 rfl) ?_
  refine lv_if_lt (tgt := 9) hx hb dJ3_checkIndex_8e157_1 (by decide) (fun c1 => ?_) (fun c1 => ?_)
  · skip
    have h := f_t c1 h
    refine lv_aload_nN hx hb dJ3_checkIndex_8e157_9 rfl (lv_at hl 2 rfl) ?_
    refine lv_iload_n hx hb dJ3_checkIndex_8e157_10 rfl (lv_at hl 0 rfl) ?_
    refine lv_iload_n hx hb dJ3_checkIndex_8e157_11 rfl (lv_at hl 1 rfl) ?_
    cases h
  · skip
    have h := f_f c1 h
    refine lv_iload_n hx hb dJ3_checkIndex_8e157_4 rfl (lv_at hl 0 rfl) ?_
    refine lv_iload_n hx hb dJ3_checkIndex_8e157_5 rfl (lv_at hl 1 rfl) ?_
    refine lv_icmp_lt (tgt := 16) hx hb dJ3_checkIndex_8e157_6 (by decide) (fun c2 => ?_) (fun c2 => ?_)
    · skip
      have h := f_t c2 h
      refine lv_iload_n hx hb dJ3_checkIndex_8e157_16 rfl (lv_at hl 0 rfl) ?_
      obtain rfl := Option.some.inj h
      exact W.iret (v := x0) hx hb hr (q_end hK hP hD hS) hS.2.2 dJ3_checkIndex_8e157_17
    · skip
      have h := f_f c2 h
      refine lv_aload_nN hx hb dJ3_checkIndex_8e157_9 rfl (lv_at hl 2 rfl) ?_
      refine lv_iload_n hx hb dJ3_checkIndex_8e157_10 rfl (lv_at hl 0 rfl) ?_
      refine lv_iload_n hx hb dJ3_checkIndex_8e157_11 rfl (lv_at hl 1 rfl) ?_
      cases h
abbrev rm_J15_checkIndex_7cf53 : Room := { frames := 2, cells := 0, slots := 0, locals := 52 }
set_option maxRecDepth 100000 in
set_option maxHeartbeats 8000000 in
theorem c_J15_checkIndex_7cf53 (l : Launch) (D : va_G) (G : hG) (w : va_W) (x0 : Int32) (x1 : Int32) (res : Int32) (h : f_J15_checkIndex_7cf53 x0 x1 = some res) : CT l yJ15_checkIndex_7cf53 cJ15_checkIndex_7cf53 2 (some .int) rm_J15_checkIndex_7cf53 D G 0 0 [.int x0, .int x1] w w (some (.int res)) := by
  unfold f_J15_checkIndex_7cf53 at h
  refine CT.mk (cc := cJ15_checkIndex_7cf53) (maxL := 2) (ret := (some .int)) (own := RJ15) (plainFor_of_name (by decide)) rfl (Nat.le_of_ble_eq_true rfl) ?_
  intro p e s m args below meth c A ls C0 hnm hA hP hD hl
  obtain ⟨hx, hb, hr, hml, hown, hts, hlocks, hK, hE⟩ := id C0
  have hS : va_S A s.heap s.heap [] := va_S.rf
  have hl : lv_has ls 2 [(0, .int x0), (1, .int x1)] := hl
  refine lv_iload_n hx hb dJ15_checkIndex_7cf53_0 rfl (lv_at hl 0 rfl) ?_
  refine lv_iload_n hx hb dJ15_checkIndex_7cf53_1 rfl (lv_at hl 1 rfl) ?_
  refine lv_null hx hb dJ15_checkIndex_7cf53_2 ?_
  obtain ⟨q1, hq1, h⟩ := f_b h
  refine cl_S (w := w) (w' := w) (rv := some (.int q1)) (bytes := cJ3_checkIndex_8e157) (maxL := 3) (ret := (some .int)) (As := [.int x0, .int x1, .null]) (rest := []) (stk := [.int q1]) ⟨hx, hb, hml, hown, hts⟩ hK hE hA hP hD hS (c_J3_checkIndex_8e157 l D G w x0 x1 q1 hq1) (mkS hts wd_668 wd_669 wd_16 wd_670 rfl rfl hd_J3_checkIndex_8e157 ⟨Nat.le_of_ble_eq_true rfl, Nat.le_of_ble_eq_true rfl⟩) rfl hl.1 rfl (Nat.le_of_ble_eq_true rfl) dJ15_checkIndex_7cf53_3 ⟨Nat.zero_le _, Nat.zero_le _⟩ rfl (fun H locs hP hD hS => ?_)
  obtain rfl := Option.some.inj h
  exact W.iret (v := q1) hx hb hr (q_end hK hP hD hS) hS.2.2 dJ15_checkIndex_7cf53_6
abbrev rm_Jx4a65c_elementData_915e3 : Room := { frames := 0, cells := 0, slots := 0, locals := 0 }
set_option maxRecDepth 100000 in
set_option maxHeartbeats 8000000 in
theorem c_Jx4a65c_elementData_915e3 (l : Launch) (D : va_G) (G : hG) (Z : hZ) (Y : va_W) (σ0 : hSt) (r0 : Nat) (hr0 : isLi r0 = true) (x1 : Int32) (res : (Option Nat)) (h : f_Jx4a65c_elementData_915e3 Z σ0 r0 x1 = some res) : CT l yJx4a65c_elementData_915e3 cJx4a65c_elementData_915e3 2 (some (.object "java/lang/Object")) rm_Jx4a65c_elementData_915e3 D G 0 0 [.ref (G.2.1 r0), .int x1] (hW G Z Y σ0) (hW G Z Y σ0) (some (va_rf ((res).map G.2.1))) := by
  unfold f_Jx4a65c_elementData_915e3 at h
  refine CT.mk (cc := cJx4a65c_elementData_915e3) (maxL := 2) (ret := (some (.object "java/lang/Object"))) (own := RJx4a65c) (plainFor_of_name (by decide)) rfl (Nat.le_of_ble_eq_true rfl) ?_
  intro p e s m args below meth c A ls C0 hnm hA hP hD hl
  obtain ⟨hx, hb, hr, hml, hown, hts, hlocks, hK, hE⟩ := id C0
  have hS : va_S A s.heap s.heap [] := va_S.rf
  have hl : lv_has ls 2 [(0, .ref (G.2.1 r0)), (1, .int x1)] := hl
  refine lv_aload_n hx hb dJx4a65c_elementData_915e3_0 rfl (lv_at hl 0 rfl) ?_
  refine va_get (D := D) (ci := 0) (v := va_rf (((Z.2.2.2 r0 1)).map G.2.1)) (C := RJx4a65c) (T := TJx4a65c) (N := 3) hx hb hts inU_Jx4a65c hown hK hP _ (hg_Li G Z Y σ0 hr0) rfl 1 (by decide) (hts _ wd_223) (fun _ h9 => h9) rfl dJx4a65c_elementData_915e3_1 ?_
  rcases f_o h with ⟨ho, h⟩ | ⟨r1, ho, h⟩
  · rw [ho]
    refine lv_iload_n hx hb dJx4a65c_elementData_915e3_4 rfl (lv_at hl 1 rfl) ?_
    cases h
  · rw [ho]
    obtain ⟨hr1, h⟩ := f_c h
    refine lv_iload_n hx hb dJx4a65c_elementData_915e3_4 rfl (lv_at hl 1 rfl) ?_
    obtain ⟨qq2, hq2⟩ := hg_El G Z Y σ0 hr1
    obtain ⟨c3, h⟩ := f_n h
    refine va_aldg (ty := .object "java/lang/Object") (v := va_rf (((Z.2.2.2 r1 (x1 : Int32).toNatClampNeg)).map G.2.1)) hx hb hK hP _ 3 hq2 rfl rfl c3 dJx4a65c_elementData_915e3_5 rfl ?_
    obtain rfl := Option.some.inj h
    exact W.aret (v := va_rf (((Z.2.2.2 r1 (x1 : Int32).toNatClampNeg)).map G.2.1)) hx hb hr (Or.inl ⟨_, rfl⟩) (vrf_or _) (q_end hK hP hD hS) hS.2.2 dJx4a65c_elementData_915e3_6
abbrev rm_Jx4a65c_get_915e3 : Room := { frames := 3, cells := 0, slots := 0, locals := 73 }
set_option maxRecDepth 100000 in
set_option maxHeartbeats 8000000 in
theorem c_Jx4a65c_get_915e3 (l : Launch) (D : va_G) (G : hG) (Z : hZ) (Y : va_W) (σ0 : hSt) (r0 : Nat) (hr0 : isLi r0 = true) (x1 : Int32) (res : (Option Nat)) (h : f_Jx4a65c_get_915e3 Z σ0 r0 x1 = some res) : CT l yJx4a65c_get_915e3 cJx4a65c_get_915e3 2 (some (.object "java/lang/Object")) rm_Jx4a65c_get_915e3 D G 0 0 [.ref (G.2.1 r0), .int x1] (hW G Z Y σ0) (hW G Z Y σ0) (some (va_rf ((res).map G.2.1))) := by
  unfold f_Jx4a65c_get_915e3 at h
  refine CT.mk (cc := cJx4a65c_get_915e3) (maxL := 2) (ret := (some (.object "java/lang/Object"))) (own := RJx4a65c) (plainFor_of_name (by decide)) rfl (Nat.le_of_ble_eq_true rfl) ?_
  intro p e s m args below meth c A ls C0 hnm hA hP hD hl
  obtain ⟨hx, hb, hr, hml, hown, hts, hlocks, hK, hE⟩ := id C0
  have hS : va_S A s.heap s.heap [] := va_S.rf
  have hl : lv_has ls 2 [(0, .ref (G.2.1 r0)), (1, .int x1)] := hl
  refine lv_iload_n hx hb dJx4a65c_get_915e3_0 rfl (lv_at hl 1 rfl) ?_
  refine lv_aload_n hx hb dJx4a65c_get_915e3_1 rfl (lv_at hl 0 rfl) ?_
  refine va_get (D := D) (ci := 0) (v := .int (Z.2.2.1 r0 2)) (C := RJx4a65c) (T := TJx4a65c) (N := 3) hx hb hts inU_Jx4a65c hown hK hP _ (hg_Li G Z Y σ0 hr0) rfl 2 (by decide) (hts _ wd_224) (fun _ h9 => h9) rfl dJx4a65c_get_915e3_2 ?_
  obtain ⟨q1, hq1, h⟩ := f_b h
  refine cl_S (w := (hW G Z Y σ0)) (w' := (hW G Z Y σ0)) (rv := some (.int q1)) (bytes := cJ15_checkIndex_7cf53) (maxL := 2) (ret := (some .int)) (As := [.int x1, .int (Z.2.2.1 r0 2)]) (rest := []) (stk := [.int q1]) ⟨hx, hb, hml, hown, hts⟩ hK hE hA hP hD hS (c_J15_checkIndex_7cf53 l D G (hW G Z Y σ0) x1 (Z.2.2.1 r0 2) q1 hq1) (mkS hts wd_665 wd_666 wd_22 wd_667 rfl rfl hd_J15_checkIndex_7cf53 ⟨Nat.le_of_ble_eq_true rfl, Nat.le_of_ble_eq_true rfl⟩) rfl hl.1 rfl (Nat.le_of_ble_eq_true rfl) dJx4a65c_get_915e3_5 ⟨Nat.zero_le _, Nat.zero_le _⟩ rfl (fun H locs hP hD hS => ?_)
  refine lv_pop hx hb dJx4a65c_get_915e3_8 rfl ?_
  refine lv_aload_n hx hb dJx4a65c_get_915e3_9 rfl (lv_at hl 0 rfl) ?_
  refine lv_iload_n hx hb dJx4a65c_get_915e3_10 rfl (lv_at hl 1 rfl) ?_
  obtain ⟨q2, hq2, h⟩ := f_b h
  refine cl_V (w := (hW G Z Y σ0)) (w' := (hW G Z Y σ0)) (rv := some (va_rf ((q2).map G.2.1))) (bytes := cJx4a65c_elementData_915e3) (maxL := 2) (ret := (some (.object "java/lang/Object"))) (C := RJx4a65c) (As := [.int x1]) (rest := []) (stk := [va_rf ((q2).map G.2.1)]) ⟨hx, hb, hml, hown, hts⟩ hK hE hA hP hD hS (c_Jx4a65c_elementData_915e3 l D G Z Y σ0 r0 hr0 x1 q2 hq2) (cwV 1 hts (gwV wd_671 wd_672 wd_673 wd_10 wd_674) rfl rfl rfl hd_Jx4a65c_elementData_915e3 ⟨Nat.le_of_ble_eq_true rfl, Nat.le_of_ble_eq_true rfl⟩) (hg_Li G Z Y σ0 hr0) rfl rfl rfl hl.1 rfl (Nat.le_of_ble_eq_true rfl) dJx4a65c_get_915e3_11 ⟨Nat.zero_le _, Nat.zero_le _⟩ rfl (fun H locs hP hD hS => ?_)
  obtain rfl := Option.some.inj h
  exact W.aret (v := va_rf ((q2).map G.2.1)) hx hb hr (Or.inl ⟨_, rfl⟩) (vrf_or _) (q_end hK hP hD hS) hS.2.2 dJx4a65c_get_915e3_14
abbrev rm_Jx4a65c_size_8abf5 : Room := { frames := 0, cells := 0, slots := 0, locals := 0 }
set_option maxRecDepth 100000 in
set_option maxHeartbeats 8000000 in
theorem c_Jx4a65c_size_8abf5 (l : Launch) (D : va_G) (G : hG) (Z : hZ) (Y : va_W) (σ0 : hSt) (r0 : Nat) (hr0 : isLi r0 = true) (res : Int32) (h : f_Jx4a65c_size_8abf5 Z σ0 r0 = some res) : CT l yJx4a65c_size_8abf5 cJx4a65c_size_8abf5 1 (some .int) rm_Jx4a65c_size_8abf5 D G 0 0 [.ref (G.2.1 r0)] (hW G Z Y σ0) (hW G Z Y σ0) (some (.int res)) := by
  unfold f_Jx4a65c_size_8abf5 at h
  refine CT.mk (cc := cJx4a65c_size_8abf5) (maxL := 1) (ret := (some .int)) (own := RJx4a65c) (plainFor_of_name (by decide)) rfl (Nat.le_of_ble_eq_true rfl) ?_
  intro p e s m args below meth c A ls C0 hnm hA hP hD hl
  obtain ⟨hx, hb, hr, hml, hown, hts, hlocks, hK, hE⟩ := id C0
  have hS : va_S A s.heap s.heap [] := va_S.rf
  have hl : lv_has ls 1 [(0, .ref (G.2.1 r0))] := hl
  refine lv_aload_n hx hb dJx4a65c_size_8abf5_0 rfl (lv_at hl 0 rfl) ?_
  refine va_get (D := D) (ci := 0) (v := .int (Z.2.2.1 r0 2)) (C := RJx4a65c) (T := TJx4a65c) (N := 3) hx hb hts inU_Jx4a65c hown hK hP _ (hg_Li G Z Y σ0 hr0) rfl 2 (by decide) (hts _ wd_224) (fun _ h9 => h9) rfl dJx4a65c_size_8abf5_1 ?_
  obtain rfl := Option.some.inj h
  exact W.iret (v := (Z.2.2.1 r0 2)) hx hb hr (q_end hK hP hD hS) hS.2.2 dJx4a65c_size_8abf5_4
abbrev rm_X10_isComparison : Room := { frames := 0, cells := 0, slots := 0, locals := 0 }
set_option maxRecDepth 100000 in
set_option maxHeartbeats 8000000 in
theorem c_X10_isComparison (l : Launch) (D : va_G) (G : hG) (w : va_W) (x0 : Int32) (res : Int32) (h : f_X10_isComparison x0 = some res) : CT l yX10_isComparison cX10_isComparison 1 (some .boolean) rm_X10_isComparison D G 0 0 [.int x0] w w (some (.int res)) := by
  unfold f_X10_isComparison at h
  refine CT.mk (cc := cX10_isComparison) (maxL := 1) (ret := (some .boolean)) (own := RX10) (plainFor_of_name (by decide)) rfl (Nat.le_of_ble_eq_true rfl) ?_
  intro p e s m args below meth c A ls C0 hnm hA hP hD hl
  obtain ⟨hx, hb, hr, hml, hown, hts, hlocks, hK, hE⟩ := id C0
  have hS : va_S A s.heap s.heap [] := va_S.rf
  have hl : lv_has ls 1 [(0, .int x0)] := hl
  refine lv_iload_n hx hb dX10_isComparison_0 rfl (lv_at hl 0 rfl) ?_
  refine lv_bipush (v := 61) hx hb dX10_isComparison_1 (by decide) ?_
  refine lv_icmp_eq (tgt := 18) hx hb dX10_isComparison_3 (by decide) (fun c1 => ?_) (fun c1 => ?_)
  · skip
    have h := f_t c1 h
    refine lv_iconst (v := 1) hx hb dX10_isComparison_18 (by decide) ?_
    refine lv_goto (tgt := 23) hx hb dX10_isComparison_19 (by decide) ?_
    obtain rfl := Option.some.inj h
    exact W.zret (v := (1 : Int32)) hx hb hr rfl (q_end hK hP hD hS) hS.2.2 dX10_isComparison_23
  · skip
    have h := f_f c1 h
    refine lv_iload_n hx hb dX10_isComparison_6 rfl (lv_at hl 0 rfl) ?_
    refine lv_bipush (v := 60) hx hb dX10_isComparison_7 (by decide) ?_
    refine lv_icmp_eq (tgt := 18) hx hb dX10_isComparison_9 (by decide) (fun c2 => ?_) (fun c2 => ?_)
    · skip
      have h := f_t c2 h
      refine lv_iconst (v := 1) hx hb dX10_isComparison_18 (by decide) ?_
      refine lv_goto (tgt := 23) hx hb dX10_isComparison_19 (by decide) ?_
      obtain rfl := Option.some.inj h
      exact W.zret (v := (1 : Int32)) hx hb hr rfl (q_end hK hP hD hS) hS.2.2 dX10_isComparison_23
    · skip
      have h := f_f c2 h
      refine lv_iload_n hx hb dX10_isComparison_12 rfl (lv_at hl 0 rfl) ?_
      refine lv_bipush (v := 62) hx hb dX10_isComparison_13 (by decide) ?_
      refine lv_icmp_ne (tgt := 22) hx hb dX10_isComparison_15 (by decide) (fun c3 => ?_) (fun c3 => ?_)
      · skip
        have h := f_f c3 h
        refine lv_iconst (v := 0) hx hb dX10_isComparison_22 (by decide) ?_
        obtain rfl := Option.some.inj h
        exact W.zret (v := (0 : Int32)) hx hb hr rfl (q_end hK hP hD hS) hS.2.2 dX10_isComparison_23
      · skip
        have h := f_t c3 h
        refine lv_iconst (v := 1) hx hb dX10_isComparison_18 (by decide) ?_
        refine lv_goto (tgt := 23) hx hb dX10_isComparison_19 (by decide) ?_
        obtain rfl := Option.some.inj h
        exact W.zret (v := (1 : Int32)) hx hb hr rfl (q_end hK hP hD hS) hS.2.2 dX10_isComparison_23
abbrev rm_X10_isDigit : Room := { frames := 0, cells := 0, slots := 0, locals := 0 }
set_option maxRecDepth 100000 in
set_option maxHeartbeats 8000000 in
theorem c_X10_isDigit (l : Launch) (D : va_G) (G : hG) (w : va_W) (x0 : Int32) (res : Int32) (h : f_X10_isDigit x0 = some res) : CT l yX10_isDigit cX10_isDigit 1 (some .boolean) rm_X10_isDigit D G 0 0 [.int x0] w w (some (.int res)) := by
  unfold f_X10_isDigit at h
  refine CT.mk (cc := cX10_isDigit) (maxL := 1) (ret := (some .boolean)) (own := RX10) (plainFor_of_name (by decide)) rfl (Nat.le_of_ble_eq_true rfl) ?_
  intro p e s m args below meth c A ls C0 hnm hA hP hD hl
  obtain ⟨hx, hb, hr, hml, hown, hts, hlocks, hK, hE⟩ := id C0
  have hS : va_S A s.heap s.heap [] := va_S.rf
  have hl : lv_has ls 1 [(0, .int x0)] := hl
  refine lv_iload_n hx hb dX10_isDigit_0 rfl (lv_at hl 0 rfl) ?_
  refine lv_bipush (v := 48) hx hb dX10_isDigit_1 (by decide) ?_
  refine lv_icmp_lt (tgt := 16) hx hb dX10_isDigit_3 (by decide) (fun c1 => ?_) (fun c1 => ?_)
  · skip
    have h := f_t c1 h
    refine lv_iconst (v := 0) hx hb dX10_isDigit_16 (by decide) ?_
    obtain rfl := Option.some.inj h
    exact W.zret (v := (0 : Int32)) hx hb hr rfl (q_end hK hP hD hS) hS.2.2 dX10_isDigit_17
  · skip
    have h := f_f c1 h
    refine lv_iload_n hx hb dX10_isDigit_6 rfl (lv_at hl 0 rfl) ?_
    refine lv_bipush (v := 57) hx hb dX10_isDigit_7 (by decide) ?_
    refine lv_icmp_gt (tgt := 16) hx hb dX10_isDigit_9 (by decide) (fun c2 => ?_) (fun c2 => ?_)
    · skip
      have h := f_t c2 h
      refine lv_iconst (v := 0) hx hb dX10_isDigit_16 (by decide) ?_
      obtain rfl := Option.some.inj h
      exact W.zret (v := (0 : Int32)) hx hb hr rfl (q_end hK hP hD hS) hS.2.2 dX10_isDigit_17
    · skip
      have h := f_f c2 h
      refine lv_iconst (v := 1) hx hb dX10_isDigit_12 (by decide) ?_
      refine lv_goto (tgt := 17) hx hb dX10_isDigit_13 (by decide) ?_
      obtain rfl := Option.some.inj h
      exact W.zret (v := (1 : Int32)) hx hb hr rfl (q_end hK hP hD hS) hS.2.2 dX10_isDigit_17
abbrev rm_X10_number : Room := { frames := 1, cells := 0, slots := 0, locals := 21 }
set_option maxRecDepth 100000 in
set_option maxHeartbeats 8000000 in
theorem W_X10_number_L4 {p : Program} {e : Env} {s : State} {m : MethodId} {args : Array Value} {below : List Frame} {meth : Method} {c : Code} {A : Nat → Prop} (l : Launch) (D : va_G) (G : hG) (Z : hZ) (Y : va_W) (σ0 : hSt) (F : Nat) (r0 : Nat) (hr0 : isRd r0 = true) (res : (Int32 × hSt)) (C0 : Cx p s m args meth c cX10_number (some .boolean) RX10 3 D G A) (hA : ∀ q : Nat, s.heap.size ≤ q → A q) (k51 : hSt → Int32 → Option (Int32 × hSt)) (hk51 : ∀ (σ1 : hSt) (z1 : Int32), k51 σ1 z1 = some res → ∀ (H : Heap) (locs : List Loc) (ls : Array Slot), va_P D vwCl (hW G Z Y σ1) H → va_D A (hW G Z Y σ1) → va_S A s.heap H locs → lv_has ls 3 [(0, .ref (G.2.1 r0)), (1, .int z1)] → W p l e rm_X10_number s m args below meth c H locs 0 0 (MQ below (Qg (some (.int res.1)) D (tysG G) (hW G Z Y res.2) A) args s 0 0 A) (F0 m 51 ls [])) : ∀ (n : Nat) (σ1 : hSt) (z1 : Int32) (z2 : Int32), f_X10_number_L4 Z k51 n σ1 z1 z2 = some res → ∀ (H : Heap) (locs : List Loc) (ls : Array Slot), va_P D vwCl (hW G Z Y σ1) H → va_D A (hW G Z Y σ1) → va_S A s.heap H locs → lv_has ls 3 [(0, .ref (G.2.1 r0)), (1, .int z1), (2, .int z2)] → W p l e rm_X10_number s m args below meth c H locs 0 0 (MQ below (Qg (some (.int res.1)) D (tysG G) (hW G Z Y res.2) A) args s 0 0 A) (F0 m 4 ls []) := by
  obtain ⟨hx, hb, hr, hml, hown, hts, hlocks, hK, hE⟩ := id C0
  intro n
  induction n with
  | zero =>
    intro σ1 z1 z2 h
    cases h
  | succ n ih =>
    intro σ1 z1 z2 h H locs ls hP hD hS hl
    rw [f_X10_number_L4] at h
    refine lv_iload_n hx hb dX10_number_4 rfl (lv_at hl 2 rfl) ?_
    refine lv_iconst (v := 4) hx hb dX10_number_5 (by decide) ?_
    refine lv_icmp_ge (tgt := 51) hx hb dX10_number_6 (by decide) (fun c1 => ?_) (fun c1 => ?_)
    · skip
      have h := f_t c1 h
      exact hk51 σ1 z1 h _ _ _ hP hD hS (lv_sub hl [0, 1] rfl)
    · skip
      have h := f_f c1 h
      refine lv_aload_n hx hb dX10_number_9 rfl (lv_at hl 0 rfl) ?_
      refine va_get (D := D) (ci := 10) (v := .ref (G.2.1 1)) (C := RX10) (T := TX10) (N := 3) hx hb hts inU_X10 hown hK hP _ (hg_Rd G Z Y σ1 hr0) rfl 0 (by decide) (hts _ wd_88) (fun _ h9 => h9) rfl dX10_number_10 ?_
      obtain ⟨q2, hq2, h⟩ := f_b h
      refine cl_V (w := (hW G Z Y σ1)) (w' := (hW G Z Y σ1)) (rv := some (.int q2)) (bytes := cX8_here) (maxL := 1) (ret := (some .int)) (C := RX8) (As := []) (rest := []) (stk := [.int q2]) ⟨hx, hb, hml, hown, hts⟩ hK hE hA hP hD hS (c_X8_here l D G Z Y σ1 q2 hq2) (cwV 0 hts (gwV wd_500 wd_501 wd_502 wd_2 wd_503) rfl rfl rfl hd_X8_here ⟨Nat.le_of_ble_eq_true rfl, Nat.le_of_ble_eq_true rfl⟩) (hg_1 G Z Y σ1) rfl rfl rfl hl.1 rfl (Nat.le_of_ble_eq_true rfl) dX10_number_13 ⟨Nat.zero_le _, Nat.zero_le _⟩ rfl (fun H locs hP hD hS => ?_)
      obtain ⟨q3, hq3, h⟩ := f_b h
      refine cl_S (w := (hW G Z Y σ1)) (w' := (hW G Z Y σ1)) (rv := some (.int q3)) (bytes := cX10_isDigit) (maxL := 1) (ret := (some .boolean)) (As := [.int q2]) (rest := []) (stk := [.int q3]) ⟨hx, hb, hml, hown, hts⟩ hK hE hA hP hD hS (c_X10_isDigit l D G (hW G Z Y σ1) q2 q3 hq3) (mkS hts wd_493 wd_494 wd_4 wd_495 rfl rfl hd_X10_isDigit ⟨Nat.le_of_ble_eq_true rfl, Nat.le_of_ble_eq_true rfl⟩) rfl hl.1 rfl (Nat.le_of_ble_eq_true rfl) dX10_number_16 ⟨Nat.zero_le _, Nat.zero_le _⟩ rfl (fun H locs hP hD hS => ?_)
      refine lv_if_eq (tgt := 51) hx hb dX10_number_19 (by decide) (fun c4 => ?_) (fun c4 => ?_)
      · skip
        have h := f_t c4 h
        exact hk51 σ1 z1 h _ _ _ hP hD hS (lv_sub hl [0, 1] rfl)
      · skip
        have h := f_f c4 h
        refine lv_iload_n hx hb dX10_number_22 rfl (lv_at hl 1 rfl) ?_
        refine lv_bipush (v := 10) hx hb dX10_number_23 (by decide) ?_
        refine lv_imul hx hb dX10_number_25 ?_
        refine lv_aload_n hx hb dX10_number_26 rfl (lv_at hl 0 rfl) ?_
        refine va_get (D := D) (ci := 10) (v := .ref (G.2.1 1)) (C := RX10) (T := TX10) (N := 3) hx hb hts inU_X10 hown hK hP _ (hg_Rd G Z Y σ1 hr0) rfl 0 (by decide) (hts _ wd_88) (fun _ h9 => h9) rfl dX10_number_27 ?_
        obtain ⟨q5, hq5, h⟩ := f_b h
        refine cl_V (w := (hW G Z Y σ1)) (w' := (hW G Z Y σ1)) (rv := some (.int q5)) (bytes := cX8_here) (maxL := 1) (ret := (some .int)) (C := RX8) (As := []) (rest := [.int (z1 * (10 : Int32))]) (stk := [.int q5, .int (z1 * (10 : Int32))]) ⟨hx, hb, hml, hown, hts⟩ hK hE hA hP hD hS (c_X8_here l D G Z Y σ1 q5 hq5) (cwV 0 hts (gwV wd_500 wd_501 wd_502 wd_2 wd_503) rfl rfl rfl hd_X8_here ⟨Nat.le_of_ble_eq_true rfl, Nat.le_of_ble_eq_true rfl⟩) (hg_1 G Z Y σ1) rfl rfl rfl hl.1 rfl (Nat.le_of_ble_eq_true rfl) dX10_number_30 ⟨Nat.zero_le _, Nat.zero_le _⟩ rfl (fun H locs hP hD hS => ?_)
        refine lv_iadd hx hb dX10_number_33 ?_
        refine lv_bipush (v := 48) hx hb dX10_number_34 (by decide) ?_
        refine lv_isub hx hb dX10_number_36 ?_
        refine lv_istore_n (lv' := [(1, .int (((z1 * (10 : Int32)) + q5) - (48 : Int32))), (0, .ref (G.2.1 r0)), (2, .int z2)]) hx hb dX10_number_37 rfl hl (by decide) rfl (fun ls hl => ?_)
        refine lv_aload_n hx hb dX10_number_38 rfl (lv_at hl 1 rfl) ?_
        refine va_get (D := D) (ci := 10) (v := .ref (G.2.1 1)) (C := RX10) (T := TX10) (N := 3) hx hb hts inU_X10 hown hK hP _ (hg_Rd G Z Y σ1 hr0) rfl 0 (by decide) (hts _ wd_88) (fun _ h9 => h9) rfl dX10_number_39 ?_
        obtain ⟨q6, hq6, h⟩ := f_b h
        refine cl_V (w := (hW G Z Y σ1)) (w' := (hW G Z Y q6.2)) (rv := none) (bytes := cX8_step) (maxL := 1) (ret := none) (C := RX8) (As := []) (rest := []) (stk := []) ⟨hx, hb, hml, hown, hts⟩ hK hE hA hP hD hS (c_X8_step l D G Z Y σ1 q6 hq6) (cwV 0 hts (gwV wd_455 wd_335 wd_336 wd_2 wd_337) rfl rfl rfl hd_X8_step ⟨Nat.le_of_ble_eq_true rfl, Nat.le_of_ble_eq_true rfl⟩) (hg_1 G Z Y σ1) rfl rfl rfl hl.1 rfl (Nat.le_of_ble_eq_true rfl) dX10_number_42 ⟨Nat.zero_le _, Nat.zero_le _⟩ rfl (fun H locs hP hD hS => ?_)
        refine lv_iinc (v := (z2 + 1)) (lv' := [(2, .int (z2 + 1)), (1, .int (((z1 * (10 : Int32)) + q5) - (48 : Int32))), (0, .ref (G.2.1 r0))]) hx hb dX10_number_45 hl (k := 2) rfl rfl (by decide) rfl (fun ls hl => ?_)
        refine lv_goto (tgt := 4) hx hb dX10_number_48 (by decide) ?_
        exact ih q6.2 (((z1 * (10 : Int32)) + q5) - (48 : Int32)) (z2 + 1) h _ _ _ hP hD hS (lv_sub hl [2, 1, 0] rfl)
set_option maxRecDepth 100000 in
set_option maxHeartbeats 8000000 in
theorem c_X10_number (l : Launch) (D : va_G) (G : hG) (Z : hZ) (Y : va_W) (σ0 : hSt) (F : Nat) (r0 : Nat) (hr0 : isRd r0 = true) (res : (Int32 × hSt)) (h : f_X10_number F Z σ0 r0 = some res) : CT l yX10_number cX10_number 3 (some .boolean) rm_X10_number D G 0 0 [.ref (G.2.1 r0)] (hW G Z Y σ0) (hW G Z Y res.2) (some (.int res.1)) := by
  unfold f_X10_number at h
  refine CT.mk (cc := cX10_number) (maxL := 3) (ret := (some .boolean)) (own := RX10) (plainFor_of_name (by decide)) rfl (Nat.le_of_ble_eq_true rfl) ?_
  intro p e s m args below meth c A ls C0 hnm hA hP hD hl
  obtain ⟨hx, hb, hr, hml, hown, hts, hlocks, hK, hE⟩ := id C0
  have hS : va_S A s.heap s.heap [] := va_S.rf
  have hl : lv_has ls 3 [(0, .ref (G.2.1 r0))] := hl
  refine lv_iconst (v := 0) hx hb dX10_number_0 (by decide) ?_
  refine lv_istore_n (lv' := [(1, .int (0 : Int32)), (0, .ref (G.2.1 r0))]) hx hb dX10_number_1 rfl hl (by decide) rfl (fun ls hl => ?_)
  refine lv_iconst (v := 0) hx hb dX10_number_2 (by decide) ?_
  refine lv_istore_n (lv' := [(2, .int (0 : Int32)), (1, .int (0 : Int32)), (0, .ref (G.2.1 r0))]) hx hb dX10_number_3 rfl hl (by decide) rfl (fun ls hl => ?_)
  refine W_X10_number_L4 l D G Z Y σ0 F r0 hr0 res C0 hA _ ?_ F σ0 (0 : Int32) (0 : Int32) h _ _ _ hP hD hS (lv_sub hl [2, 1, 0] rfl)
  · intro σ1 z1 h H locs ls hP hD hS hl
    refine lv_aload_n hx hb dX10_number_51 rfl (lv_at hl 0 rfl) ?_
    refine va_get (D := D) (ci := 10) (v := .ref (G.2.1 1)) (C := RX10) (T := TX10) (N := 3) hx hb hts inU_X10 hown hK hP _ (hg_Rd G Z Y σ1 hr0) rfl 0 (by decide) (hts _ wd_88) (fun _ h9 => h9) rfl dX10_number_52 ?_
    refine lv_iload_n hx hb dX10_number_55 rfl (lv_at hl 1 rfl) ?_
    obtain ⟨q7, hq7, h⟩ := f_b h
    refine cl_V (w := (hW G Z Y σ1)) (w' := (hW G Z Y q7.2)) (rv := none) (bytes := cX8_write) (maxL := 2) (ret := none) (C := RX8) (As := [.int z1]) (rest := []) (stk := []) ⟨hx, hb, hml, hown, hts⟩ hK hE hA hP hD hS (c_X8_write l D G Z Y σ1 z1 q7 hq7) (cwV 1 hts (gwV wd_456 wd_344 wd_345 wd_2 wd_346) rfl rfl rfl hd_X8_write ⟨Nat.le_of_ble_eq_true rfl, Nat.le_of_ble_eq_true rfl⟩) (hg_1 G Z Y σ1) rfl rfl rfl hl.1 rfl (Nat.le_of_ble_eq_true rfl) dX10_number_56 ⟨Nat.zero_le _, Nat.zero_le _⟩ rfl (fun H locs hP hD hS => ?_)
    refine lv_iconst (v := 1) hx hb dX10_number_59 (by decide) ?_
    obtain rfl := Option.some.inj h
    exact W.zret (v := (1 : Int32)) hx hb hr rfl (q_end hK hP hD hS) hS.2.2 dX10_number_60
def rmG_X10s (d : Nat) : Room := { frames := 8 + d, cells := 0, slots := 0, locals := 189 + d * 23 }
set_option maxRecDepth 100000 in
set_option maxHeartbeats 8000000 in
theorem W_X10_total_L14 {p : Program} {e : Env} {s : State} {m : MethodId} {args : Array Value} {below : List Frame} {meth : Method} {c : Code} {A : Nat → Prop} (l : Launch) (D : va_G) (G : hG) (Z : hZ) (Y : va_W) (F : Nat) (d : Nat) (u_X10_term : (hSt → Nat → Int32 → Option (Int32 × hSt))) (hu_X10_term : ∀ (σ0 : hSt) (r0 : Nat) (hr0 : isRd r0 = true) (x1 : Int32) (res : (Int32 × hSt)), u_X10_term σ0 r0 x1 = some res → CT l yX10_term cX10_term 4 (some .boolean) (rmG_X10s d) D G 0 0 [.ref (G.2.1 r0), .int x1] (hW G Z Y σ0) (hW G Z Y res.2) (some (.int res.1))) (σ0 : hSt) (r0 : Nat) (hr0 : isRd r0 = true) (x1 : Int32) (y1 : Int32) (res : (Int32 × hSt)) (C0 : Cx p s m args meth c cX10_total (some .boolean) RX10 4 D G A) (hA : ∀ q : Nat, s.heap.size ≤ q → A q) : ∀ (n : Nat) (σ1 : hSt) (z2 : Int32), f_X10_total_L14 F Z u_X10_term r0 y1 n σ1 z2 = some res → ∀ (H : Heap) (locs : List Loc) (ls : Array Slot), va_P D vwCl (hW G Z Y σ1) H → va_D A (hW G Z Y σ1) → va_S A s.heap H locs → lv_has ls 4 [(0, .ref (G.2.1 r0)), (1, .int y1), (2, .int z2)] → W p l e (rmG_X10s (d + 1)) s m args below meth c H locs 0 0 (MQ below (Qg (some (.int res.1)) D (tysG G) (hW G Z Y res.2) A) args s 0 0 A) (F0 m 14 ls []) := by
  obtain ⟨hx, hb, hr, hml, hown, hts, hlocks, hK, hE⟩ := id C0
  intro n
  induction n with
  | zero =>
    intro σ1 z2 h
    cases h
  | succ n ih =>
    intro σ1 z2 h H locs ls hP hD hS hl
    rw [f_X10_total_L14] at h
    refine lv_iload_n hx hb dX10_total_14 rfl (lv_at hl 2 rfl) ?_
    refine lv_if_le (tgt := 85) hx hb dX10_total_15 (by decide) (fun c3 => ?_) (fun c3 => ?_)
    · skip
      have h := f_t c3 h
      refine lv_iconst (v := 1) hx hb dX10_total_85 (by decide) ?_
      obtain rfl := Option.some.inj h
      exact W.zret (v := (1 : Int32)) hx hb hr rfl (q_end hK hP hD hS) hS.2.2 dX10_total_86
    · skip
      have h := f_f c3 h
      refine lv_aload_n hx hb dX10_total_18 rfl (lv_at hl 0 rfl) ?_
      refine va_get (D := D) (ci := 10) (v := .ref (G.2.1 1)) (C := RX10) (T := TX10) (N := 3) hx hb hts inU_X10 hown hK hP _ (hg_Rd G Z Y σ1 hr0) rfl 0 (by decide) (hts _ wd_88) (fun _ h9 => h9) rfl dX10_total_19 ?_
      obtain ⟨q4, hq4, h⟩ := f_b h
      refine cl_V (w := (hW G Z Y σ1)) (w' := (hW G Z Y q4.2)) (rv := some (.int q4.1)) (bytes := cX8_next) (maxL := 2) (ret := (some .int)) (C := RX8) (As := []) (rest := []) (stk := [.int q4.1]) ⟨hx, hb, hml, hown, hts⟩ hK hE hA hP hD hS (c_X8_next l D G Z Y σ1 F q4 hq4) (cwV 0 hts (gwV wd_369 wd_324 wd_325 wd_2 wd_326) rfl rfl rfl hd_X8_next ⟨by show 1 + 1 ≤ 8 + (d + 1); omega, by show 8 + (2 + 11) + 30 ≤ 189 + (d + 1) * 23; omega⟩) (hg_1 G Z Y σ1) rfl rfl rfl hl.1 rfl (Nat.le_of_ble_eq_true rfl) dX10_total_22 ⟨Nat.zero_le _, Nat.zero_le _⟩ rfl (fun H locs hP hD hS => ?_)
      refine lv_bipush (v := 43) hx hb dX10_total_25 (by decide) ?_
      refine lv_icmp_eq (tgt := 42) hx hb dX10_total_27 (by decide) (fun c5 => ?_) (fun c5 => ?_)
      · skip
        have h := f_t c5 h
        refine lv_aload_n hx hb dX10_total_42 rfl (lv_at hl 0 rfl) ?_
        refine va_get (D := D) (ci := 10) (v := .ref (G.2.1 1)) (C := RX10) (T := TX10) (N := 3) hx hb hts inU_X10 hown hK hP _ (hg_Rd G Z Y q4.2 hr0) rfl 0 (by decide) (hts _ wd_88) (fun _ h9 => h9) rfl dX10_total_43 ?_
        obtain ⟨q6, hq6, h⟩ := f_b h
        refine cl_V (w := (hW G Z Y q4.2)) (w' := (hW G Z Y q6.2)) (rv := some (.int q6.1)) (bytes := cX8_next) (maxL := 2) (ret := (some .int)) (C := RX8) (As := []) (rest := []) (stk := [.int q6.1]) ⟨hx, hb, hml, hown, hts⟩ hK hE hA hP hD hS (c_X8_next l D G Z Y q4.2 F q6 hq6) (cwV 0 hts (gwV wd_369 wd_324 wd_325 wd_2 wd_326) rfl rfl rfl hd_X8_next ⟨by show 1 + 1 ≤ 8 + (d + 1); omega, by show 8 + (2 + 11) + 30 ≤ 189 + (d + 1) * 23; omega⟩) (hg_1 G Z Y q4.2) rfl rfl rfl hl.1 rfl (Nat.le_of_ble_eq_true rfl) dX10_total_46 ⟨Nat.zero_le _, Nat.zero_le _⟩ rfl (fun H locs hP hD hS => ?_)
        refine lv_istore_n (lv' := [(3, .int q6.1), (0, .ref (G.2.1 r0)), (1, .int y1), (2, .int z2)]) hx hb dX10_total_49 rfl hl (by decide) rfl (fun ls hl => ?_)
        refine lv_aload_n hx hb dX10_total_50 rfl (lv_at hl 1 rfl) ?_
        refine va_get (D := D) (ci := 10) (v := .ref (G.2.1 1)) (C := RX10) (T := TX10) (N := 3) hx hb hts inU_X10 hown hK hP _ (hg_Rd G Z Y q6.2 hr0) rfl 0 (by decide) (hts _ wd_88) (fun _ h9 => h9) rfl dX10_total_51 ?_
        obtain ⟨q7, hq7, h⟩ := f_b h
        refine cl_V (w := (hW G Z Y q6.2)) (w' := (hW G Z Y q7.2)) (rv := none) (bytes := cX8_step) (maxL := 1) (ret := none) (C := RX8) (As := []) (rest := []) (stk := []) ⟨hx, hb, hml, hown, hts⟩ hK hE hA hP hD hS (c_X8_step l D G Z Y q6.2 q7 hq7) (cwV 0 hts (gwV wd_455 wd_335 wd_336 wd_2 wd_337) rfl rfl rfl hd_X8_step ⟨by show 0 + 1 ≤ 8 + (d + 1); omega, by show 8 + (1 + 11) + 0 ≤ 189 + (d + 1) * 23; omega⟩) (hg_1 G Z Y q6.2) rfl rfl rfl hl.1 rfl (Nat.le_of_ble_eq_true rfl) dX10_total_54 ⟨Nat.zero_le _, Nat.zero_le _⟩ rfl (fun H locs hP hD hS => ?_)
        refine lv_aload_n hx hb dX10_total_57 rfl (lv_at hl 1 rfl) ?_
        refine lv_iload_n hx hb dX10_total_58 rfl (lv_at hl 2 rfl) ?_
        obtain ⟨q8, hq8, h⟩ := f_b h
        refine cl_V (w := (hW G Z Y q7.2)) (w' := (hW G Z Y q8.2)) (rv := some (.int q8.1)) (bytes := cX10_term) (maxL := 4) (ret := (some .boolean)) (C := RX10) (As := [.int y1]) (rest := []) (stk := [.int q8.1]) ⟨hx, hb, hml, hown, hts⟩ hK hE hA hP hD hS (hu_X10_term q7.2 r0 hr0 y1 q8 hq8) (cwV 1 hts (gwV wd_485 wd_487 wp_11 wd_4 wd_488) rfl rfl rfl hd_X10_term ⟨by show 8 + d + 1 ≤ 8 + (d + 1); omega, by show 8 + (4 + 11) + (189 + d * 23) ≤ 189 + (d + 1) * 23; omega⟩) (hg_Rd G Z Y q7.2 hr0) rfl rfl rfl hl.1 rfl (Nat.le_of_ble_eq_true rfl) dX10_total_59 ⟨Nat.zero_le _, Nat.zero_le _⟩ rfl (fun H locs hP hD hS => ?_)
        refine lv_if_ne (tgt := 67) hx hb dX10_total_62 (by decide) (fun c9 => ?_) (fun c9 => ?_)
        · skip
          have h := f_f c9 h
          refine lv_aload_n hx hb dX10_total_67 rfl (lv_at hl 1 rfl) ?_
          refine va_get (D := D) (ci := 10) (v := .ref (G.2.1 1)) (C := RX10) (T := TX10) (N := 3) hx hb hts inU_X10 hown hK hP _ (hg_Rd G Z Y q8.2 hr0) rfl 0 (by decide) (hts _ wd_88) (fun _ h9 => h9) rfl dX10_total_68 ?_
          refine lv_sipush (v := 20000) hx hb dX10_total_71 (by decide) ?_
          refine lv_iload_n hx hb dX10_total_74 rfl (lv_at hl 0 rfl) ?_
          refine lv_iadd hx hb dX10_total_75 ?_
          obtain ⟨q10, hq10, h⟩ := f_b h
          refine cl_V (w := (hW G Z Y q8.2)) (w' := (hW G Z Y q10.2)) (rv := none) (bytes := cX8_write) (maxL := 2) (ret := none) (C := RX8) (As := [.int ((20000 : Int32) + q6.1)]) (rest := []) (stk := []) ⟨hx, hb, hml, hown, hts⟩ hK hE hA hP hD hS (c_X8_write l D G Z Y q8.2 ((20000 : Int32) + q6.1) q10 hq10) (cwV 1 hts (gwV wd_456 wd_344 wd_345 wd_2 wd_346) rfl rfl rfl hd_X8_write ⟨by show 0 + 1 ≤ 8 + (d + 1); omega, by show 8 + (2 + 11) + 0 ≤ 189 + (d + 1) * 23; omega⟩) (hg_1 G Z Y q8.2) rfl rfl rfl hl.1 rfl (Nat.le_of_ble_eq_true rfl) dX10_total_76 ⟨Nat.zero_le _, Nat.zero_le _⟩ rfl (fun H locs hP hD hS => ?_)
          refine lv_iinc (v := (z2 + (-1 : Int32))) (lv' := [(2, .int (z2 + (-1 : Int32))), (3, .int q6.1), (0, .ref (G.2.1 r0)), (1, .int y1)]) hx hb dX10_total_79 hl (k := 3) rfl rfl (by decide) rfl (fun ls hl => ?_)
          refine lv_goto (tgt := 14) hx hb dX10_total_82 (by decide) ?_
          exact ih q10.2 (z2 + (-1 : Int32)) h _ _ _ hP hD hS (lv_sub hl [2, 3, 0] rfl)
        · skip
          have h := f_t c9 h
          refine lv_iconst (v := 0) hx hb dX10_total_65 (by decide) ?_
          obtain rfl := Option.some.inj h
          exact W.zret (v := (0 : Int32)) hx hb hr rfl (q_end hK hP hD hS) hS.2.2 dX10_total_66
      · skip
        have h := f_f c5 h
        refine lv_aload_n hx hb dX10_total_30 rfl (lv_at hl 0 rfl) ?_
        refine va_get (D := D) (ci := 10) (v := .ref (G.2.1 1)) (C := RX10) (T := TX10) (N := 3) hx hb hts inU_X10 hown hK hP _ (hg_Rd G Z Y q4.2 hr0) rfl 0 (by decide) (hts _ wd_88) (fun _ h9 => h9) rfl dX10_total_31 ?_
        obtain ⟨q11, hq11, h⟩ := f_b h
        refine cl_V (w := (hW G Z Y q4.2)) (w' := (hW G Z Y q11.2)) (rv := some (.int q11.1)) (bytes := cX8_next) (maxL := 2) (ret := (some .int)) (C := RX8) (As := []) (rest := []) (stk := [.int q11.1]) ⟨hx, hb, hml, hown, hts⟩ hK hE hA hP hD hS (c_X8_next l D G Z Y q4.2 F q11 hq11) (cwV 0 hts (gwV wd_369 wd_324 wd_325 wd_2 wd_326) rfl rfl rfl hd_X8_next ⟨by show 1 + 1 ≤ 8 + (d + 1); omega, by show 8 + (2 + 11) + 30 ≤ 189 + (d + 1) * 23; omega⟩) (hg_1 G Z Y q4.2) rfl rfl rfl hl.1 rfl (Nat.le_of_ble_eq_true rfl) dX10_total_34 ⟨Nat.zero_le _, Nat.zero_le _⟩ rfl (fun H locs hP hD hS => ?_)
        refine lv_bipush (v := 45) hx hb dX10_total_37 (by decide) ?_
        refine lv_icmp_ne (tgt := 85) hx hb dX10_total_39 (by decide) (fun c12 => ?_) (fun c12 => ?_)
        · skip
          have h := f_f c12 h
          refine lv_iconst (v := 1) hx hb dX10_total_85 (by decide) ?_
          obtain rfl := Option.some.inj h
          exact W.zret (v := (1 : Int32)) hx hb hr rfl (q_end hK hP hD hS) hS.2.2 dX10_total_86
        · skip
          have h := f_t c12 h
          refine lv_aload_n hx hb dX10_total_42 rfl (lv_at hl 0 rfl) ?_
          refine va_get (D := D) (ci := 10) (v := .ref (G.2.1 1)) (C := RX10) (T := TX10) (N := 3) hx hb hts inU_X10 hown hK hP _ (hg_Rd G Z Y q11.2 hr0) rfl 0 (by decide) (hts _ wd_88) (fun _ h9 => h9) rfl dX10_total_43 ?_
          obtain ⟨q13, hq13, h⟩ := f_b h
          refine cl_V (w := (hW G Z Y q11.2)) (w' := (hW G Z Y q13.2)) (rv := some (.int q13.1)) (bytes := cX8_next) (maxL := 2) (ret := (some .int)) (C := RX8) (As := []) (rest := []) (stk := [.int q13.1]) ⟨hx, hb, hml, hown, hts⟩ hK hE hA hP hD hS (c_X8_next l D G Z Y q11.2 F q13 hq13) (cwV 0 hts (gwV wd_369 wd_324 wd_325 wd_2 wd_326) rfl rfl rfl hd_X8_next ⟨by show 1 + 1 ≤ 8 + (d + 1); omega, by show 8 + (2 + 11) + 30 ≤ 189 + (d + 1) * 23; omega⟩) (hg_1 G Z Y q11.2) rfl rfl rfl hl.1 rfl (Nat.le_of_ble_eq_true rfl) dX10_total_46 ⟨Nat.zero_le _, Nat.zero_le _⟩ rfl (fun H locs hP hD hS => ?_)
          refine lv_istore_n (lv' := [(3, .int q13.1), (0, .ref (G.2.1 r0)), (1, .int y1), (2, .int z2)]) hx hb dX10_total_49 rfl hl (by decide) rfl (fun ls hl => ?_)
          refine lv_aload_n hx hb dX10_total_50 rfl (lv_at hl 1 rfl) ?_
          refine va_get (D := D) (ci := 10) (v := .ref (G.2.1 1)) (C := RX10) (T := TX10) (N := 3) hx hb hts inU_X10 hown hK hP _ (hg_Rd G Z Y q13.2 hr0) rfl 0 (by decide) (hts _ wd_88) (fun _ h9 => h9) rfl dX10_total_51 ?_
          obtain ⟨q14, hq14, h⟩ := f_b h
          refine cl_V (w := (hW G Z Y q13.2)) (w' := (hW G Z Y q14.2)) (rv := none) (bytes := cX8_step) (maxL := 1) (ret := none) (C := RX8) (As := []) (rest := []) (stk := []) ⟨hx, hb, hml, hown, hts⟩ hK hE hA hP hD hS (c_X8_step l D G Z Y q13.2 q14 hq14) (cwV 0 hts (gwV wd_455 wd_335 wd_336 wd_2 wd_337) rfl rfl rfl hd_X8_step ⟨by show 0 + 1 ≤ 8 + (d + 1); omega, by show 8 + (1 + 11) + 0 ≤ 189 + (d + 1) * 23; omega⟩) (hg_1 G Z Y q13.2) rfl rfl rfl hl.1 rfl (Nat.le_of_ble_eq_true rfl) dX10_total_54 ⟨Nat.zero_le _, Nat.zero_le _⟩ rfl (fun H locs hP hD hS => ?_)
          refine lv_aload_n hx hb dX10_total_57 rfl (lv_at hl 1 rfl) ?_
          refine lv_iload_n hx hb dX10_total_58 rfl (lv_at hl 2 rfl) ?_
          obtain ⟨q15, hq15, h⟩ := f_b h
          refine cl_V (w := (hW G Z Y q14.2)) (w' := (hW G Z Y q15.2)) (rv := some (.int q15.1)) (bytes := cX10_term) (maxL := 4) (ret := (some .boolean)) (C := RX10) (As := [.int y1]) (rest := []) (stk := [.int q15.1]) ⟨hx, hb, hml, hown, hts⟩ hK hE hA hP hD hS (hu_X10_term q14.2 r0 hr0 y1 q15 hq15) (cwV 1 hts (gwV wd_485 wd_487 wp_11 wd_4 wd_488) rfl rfl rfl hd_X10_term ⟨by show 8 + d + 1 ≤ 8 + (d + 1); omega, by show 8 + (4 + 11) + (189 + d * 23) ≤ 189 + (d + 1) * 23; omega⟩) (hg_Rd G Z Y q14.2 hr0) rfl rfl rfl hl.1 rfl (Nat.le_of_ble_eq_true rfl) dX10_total_59 ⟨Nat.zero_le _, Nat.zero_le _⟩ rfl (fun H locs hP hD hS => ?_)
          refine lv_if_ne (tgt := 67) hx hb dX10_total_62 (by decide) (fun c16 => ?_) (fun c16 => ?_)
          · skip
            have h := f_f c16 h
            refine lv_aload_n hx hb dX10_total_67 rfl (lv_at hl 1 rfl) ?_
            refine va_get (D := D) (ci := 10) (v := .ref (G.2.1 1)) (C := RX10) (T := TX10) (N := 3) hx hb hts inU_X10 hown hK hP _ (hg_Rd G Z Y q15.2 hr0) rfl 0 (by decide) (hts _ wd_88) (fun _ h9 => h9) rfl dX10_total_68 ?_
            refine lv_sipush (v := 20000) hx hb dX10_total_71 (by decide) ?_
            refine lv_iload_n hx hb dX10_total_74 rfl (lv_at hl 0 rfl) ?_
            refine lv_iadd hx hb dX10_total_75 ?_
            obtain ⟨q17, hq17, h⟩ := f_b h
            refine cl_V (w := (hW G Z Y q15.2)) (w' := (hW G Z Y q17.2)) (rv := none) (bytes := cX8_write) (maxL := 2) (ret := none) (C := RX8) (As := [.int ((20000 : Int32) + q13.1)]) (rest := []) (stk := []) ⟨hx, hb, hml, hown, hts⟩ hK hE hA hP hD hS (c_X8_write l D G Z Y q15.2 ((20000 : Int32) + q13.1) q17 hq17) (cwV 1 hts (gwV wd_456 wd_344 wd_345 wd_2 wd_346) rfl rfl rfl hd_X8_write ⟨by show 0 + 1 ≤ 8 + (d + 1); omega, by show 8 + (2 + 11) + 0 ≤ 189 + (d + 1) * 23; omega⟩) (hg_1 G Z Y q15.2) rfl rfl rfl hl.1 rfl (Nat.le_of_ble_eq_true rfl) dX10_total_76 ⟨Nat.zero_le _, Nat.zero_le _⟩ rfl (fun H locs hP hD hS => ?_)
            refine lv_iinc (v := (z2 + (-1 : Int32))) (lv' := [(2, .int (z2 + (-1 : Int32))), (3, .int q13.1), (0, .ref (G.2.1 r0)), (1, .int y1)]) hx hb dX10_total_79 hl (k := 3) rfl rfl (by decide) rfl (fun ls hl => ?_)
            refine lv_goto (tgt := 14) hx hb dX10_total_82 (by decide) ?_
            exact ih q17.2 (z2 + (-1 : Int32)) h _ _ _ hP hD hS (lv_sub hl [2, 3, 0] rfl)
          · skip
            have h := f_t c16 h
            refine lv_iconst (v := 0) hx hb dX10_total_65 (by decide) ?_
            obtain rfl := Option.some.inj h
            exact W.zret (v := (0 : Int32)) hx hb hr rfl (q_end hK hP hD hS) hS.2.2 dX10_total_66
set_option maxRecDepth 100000 in
set_option maxHeartbeats 8000000 in
theorem o_X10_total (l : Launch) (D : va_G) (G : hG) (Z : hZ) (Y : va_W) (F : Nat) (d : Nat) (u_X10_term : (hSt → Nat → Int32 → Option (Int32 × hSt))) (hu_X10_term : ∀ (σ0 : hSt) (r0 : Nat) (hr0 : isRd r0 = true) (x1 : Int32) (res : (Int32 × hSt)), u_X10_term σ0 r0 x1 = some res → CT l yX10_term cX10_term 4 (some .boolean) (rmG_X10s d) D G 0 0 [.ref (G.2.1 r0), .int x1] (hW G Z Y σ0) (hW G Z Y res.2) (some (.int res.1))) (σ0 : hSt) (r0 : Nat) (hr0 : isRd r0 = true) (x1 : Int32) (res : (Int32 × hSt)) (h : b_X10_total F Z u_X10_term σ0 r0 x1 = some res) : CT l yX10_total cX10_total 4 (some .boolean) (rmG_X10s (d + 1)) D G 0 0 [.ref (G.2.1 r0), .int x1] (hW G Z Y σ0) (hW G Z Y res.2) (some (.int res.1)) := by
  unfold b_X10_total at h
  refine CT.mk (cc := cX10_total) (maxL := 4) (ret := (some .boolean)) (own := RX10) (plainFor_of_name (by decide)) rfl (Nat.le_of_ble_eq_true rfl) ?_
  intro p e s m args below meth c A ls C0 hnm hA hP hD hl
  obtain ⟨hx, hb, hr, hml, hown, hts, hlocks, hK, hE⟩ := id C0
  have hS : va_S A s.heap s.heap [] := va_S.rf
  have hl : lv_has ls 4 [(0, .ref (G.2.1 r0)), (1, .int x1)] := hl
  refine lv_aload_n hx hb dX10_total_0 rfl (lv_at hl 0 rfl) ?_
  refine lv_iload_n hx hb dX10_total_1 rfl (lv_at hl 1 rfl) ?_
  obtain ⟨q1, hq1, h⟩ := f_b h
  refine cl_V (w := (hW G Z Y σ0)) (w' := (hW G Z Y q1.2)) (rv := some (.int q1.1)) (bytes := cX10_term) (maxL := 4) (ret := (some .boolean)) (C := RX10) (As := [.int x1]) (rest := []) (stk := [.int q1.1]) ⟨hx, hb, hml, hown, hts⟩ hK hE hA hP hD hS (hu_X10_term σ0 r0 hr0 x1 q1 hq1) (cwV 1 hts (gwV wd_485 wd_487 wp_11 wd_4 wd_488) rfl rfl rfl hd_X10_term ⟨by show 8 + d + 1 ≤ 8 + (d + 1); omega, by show 8 + (4 + 11) + (189 + d * 23) ≤ 189 + (d + 1) * 23; omega⟩) (hg_Rd G Z Y σ0 hr0) rfl rfl rfl hl.1 rfl (Nat.le_of_ble_eq_true rfl) dX10_total_2 ⟨Nat.zero_le _, Nat.zero_le _⟩ rfl (fun H locs hP hD hS => ?_)
  refine lv_if_ne (tgt := 10) hx hb dX10_total_5 (by decide) (fun c2 => ?_) (fun c2 => ?_)
  · skip
    have h := f_f c2 h
    refine lv_sipush (v := 200) hx hb dX10_total_10 (by decide) ?_
    refine lv_istore_n (lv' := [(2, .int (200 : Int32)), (0, .ref (G.2.1 r0)), (1, .int x1)]) hx hb dX10_total_13 rfl hl (by decide) rfl (fun ls hl => ?_)
    refine W_X10_total_L14 l D G Z Y F d u_X10_term hu_X10_term σ0 r0 hr0 x1 x1 res C0 hA F q1.2 (200 : Int32) h _ _ _ hP hD hS (lv_sub hl [1, 2, 0] rfl)
  · skip
    have h := f_t c2 h
    refine lv_iconst (v := 0) hx hb dX10_total_8 (by decide) ?_
    obtain rfl := Option.some.inj h
    exact W.zret (v := (0 : Int32)) hx hb hr rfl (q_end hK hP hD hS) hS.2.2 dX10_total_9
set_option maxRecDepth 100000 in
set_option maxHeartbeats 8000000 in
theorem W_X10_term_L14 {p : Program} {e : Env} {s : State} {m : MethodId} {args : Array Value} {below : List Frame} {meth : Method} {c : Code} {A : Nat → Prop} (l : Launch) (D : va_G) (G : hG) (Z : hZ) (Y : va_W) (F : Nat) (d : Nat) (u_X10_atom : (hSt → Nat → Int32 → Option (Int32 × hSt))) (hu_X10_atom : ∀ (σ0 : hSt) (r0 : Nat) (hr0 : isRd r0 = true) (x1 : Int32) (res : (Int32 × hSt)), u_X10_atom σ0 r0 x1 = some res → CT l yX10_atom cX10_atom 3 (some .boolean) (rmG_X10s d) D G 0 0 [.ref (G.2.1 r0), .int x1] (hW G Z Y σ0) (hW G Z Y res.2) (some (.int res.1))) (σ0 : hSt) (r0 : Nat) (hr0 : isRd r0 = true) (x1 : Int32) (y1 : Int32) (res : (Int32 × hSt)) (C0 : Cx p s m args meth c cX10_term (some .boolean) RX10 4 D G A) (hA : ∀ q : Nat, s.heap.size ≤ q → A q) : ∀ (n : Nat) (σ1 : hSt) (z2 : Int32), f_X10_term_L14 F Z u_X10_atom r0 y1 n σ1 z2 = some res → ∀ (H : Heap) (locs : List Loc) (ls : Array Slot), va_P D vwCl (hW G Z Y σ1) H → va_D A (hW G Z Y σ1) → va_S A s.heap H locs → lv_has ls 4 [(0, .ref (G.2.1 r0)), (1, .int y1), (2, .int z2)] → W p l e (rmG_X10s (d + 1)) s m args below meth c H locs 0 0 (MQ below (Qg (some (.int res.1)) D (tysG G) (hW G Z Y res.2) A) args s 0 0 A) (F0 m 14 ls []) := by
  obtain ⟨hx, hb, hr, hml, hown, hts, hlocks, hK, hE⟩ := id C0
  intro n
  induction n with
  | zero =>
    intro σ1 z2 h
    cases h
  | succ n ih =>
    intro σ1 z2 h H locs ls hP hD hS hl
    rw [f_X10_term_L14] at h
    refine lv_iload_n hx hb dX10_term_14 rfl (lv_at hl 2 rfl) ?_
    refine lv_if_le (tgt := 85) hx hb dX10_term_15 (by decide) (fun c3 => ?_) (fun c3 => ?_)
    · skip
      have h := f_t c3 h
      refine lv_iconst (v := 1) hx hb dX10_term_85 (by decide) ?_
      obtain rfl := Option.some.inj h
      exact W.zret (v := (1 : Int32)) hx hb hr rfl (q_end hK hP hD hS) hS.2.2 dX10_term_86
    · skip
      have h := f_f c3 h
      refine lv_aload_n hx hb dX10_term_18 rfl (lv_at hl 0 rfl) ?_
      refine va_get (D := D) (ci := 10) (v := .ref (G.2.1 1)) (C := RX10) (T := TX10) (N := 3) hx hb hts inU_X10 hown hK hP _ (hg_Rd G Z Y σ1 hr0) rfl 0 (by decide) (hts _ wd_88) (fun _ h9 => h9) rfl dX10_term_19 ?_
      obtain ⟨q4, hq4, h⟩ := f_b h
      refine cl_V (w := (hW G Z Y σ1)) (w' := (hW G Z Y q4.2)) (rv := some (.int q4.1)) (bytes := cX8_next) (maxL := 2) (ret := (some .int)) (C := RX8) (As := []) (rest := []) (stk := [.int q4.1]) ⟨hx, hb, hml, hown, hts⟩ hK hE hA hP hD hS (c_X8_next l D G Z Y σ1 F q4 hq4) (cwV 0 hts (gwV wd_369 wd_324 wd_325 wd_2 wd_326) rfl rfl rfl hd_X8_next ⟨by show 1 + 1 ≤ 8 + (d + 1); omega, by show 8 + (2 + 11) + 30 ≤ 189 + (d + 1) * 23; omega⟩) (hg_1 G Z Y σ1) rfl rfl rfl hl.1 rfl (Nat.le_of_ble_eq_true rfl) dX10_term_22 ⟨Nat.zero_le _, Nat.zero_le _⟩ rfl (fun H locs hP hD hS => ?_)
      refine lv_bipush (v := 42) hx hb dX10_term_25 (by decide) ?_
      refine lv_icmp_eq (tgt := 42) hx hb dX10_term_27 (by decide) (fun c5 => ?_) (fun c5 => ?_)
      · skip
        have h := f_t c5 h
        refine lv_aload_n hx hb dX10_term_42 rfl (lv_at hl 0 rfl) ?_
        refine va_get (D := D) (ci := 10) (v := .ref (G.2.1 1)) (C := RX10) (T := TX10) (N := 3) hx hb hts inU_X10 hown hK hP _ (hg_Rd G Z Y q4.2 hr0) rfl 0 (by decide) (hts _ wd_88) (fun _ h9 => h9) rfl dX10_term_43 ?_
        obtain ⟨q6, hq6, h⟩ := f_b h
        refine cl_V (w := (hW G Z Y q4.2)) (w' := (hW G Z Y q6.2)) (rv := some (.int q6.1)) (bytes := cX8_next) (maxL := 2) (ret := (some .int)) (C := RX8) (As := []) (rest := []) (stk := [.int q6.1]) ⟨hx, hb, hml, hown, hts⟩ hK hE hA hP hD hS (c_X8_next l D G Z Y q4.2 F q6 hq6) (cwV 0 hts (gwV wd_369 wd_324 wd_325 wd_2 wd_326) rfl rfl rfl hd_X8_next ⟨by show 1 + 1 ≤ 8 + (d + 1); omega, by show 8 + (2 + 11) + 30 ≤ 189 + (d + 1) * 23; omega⟩) (hg_1 G Z Y q4.2) rfl rfl rfl hl.1 rfl (Nat.le_of_ble_eq_true rfl) dX10_term_46 ⟨Nat.zero_le _, Nat.zero_le _⟩ rfl (fun H locs hP hD hS => ?_)
        refine lv_istore_n (lv' := [(3, .int q6.1), (0, .ref (G.2.1 r0)), (1, .int y1), (2, .int z2)]) hx hb dX10_term_49 rfl hl (by decide) rfl (fun ls hl => ?_)
        refine lv_aload_n hx hb dX10_term_50 rfl (lv_at hl 1 rfl) ?_
        refine va_get (D := D) (ci := 10) (v := .ref (G.2.1 1)) (C := RX10) (T := TX10) (N := 3) hx hb hts inU_X10 hown hK hP _ (hg_Rd G Z Y q6.2 hr0) rfl 0 (by decide) (hts _ wd_88) (fun _ h9 => h9) rfl dX10_term_51 ?_
        obtain ⟨q7, hq7, h⟩ := f_b h
        refine cl_V (w := (hW G Z Y q6.2)) (w' := (hW G Z Y q7.2)) (rv := none) (bytes := cX8_step) (maxL := 1) (ret := none) (C := RX8) (As := []) (rest := []) (stk := []) ⟨hx, hb, hml, hown, hts⟩ hK hE hA hP hD hS (c_X8_step l D G Z Y q6.2 q7 hq7) (cwV 0 hts (gwV wd_455 wd_335 wd_336 wd_2 wd_337) rfl rfl rfl hd_X8_step ⟨by show 0 + 1 ≤ 8 + (d + 1); omega, by show 8 + (1 + 11) + 0 ≤ 189 + (d + 1) * 23; omega⟩) (hg_1 G Z Y q6.2) rfl rfl rfl hl.1 rfl (Nat.le_of_ble_eq_true rfl) dX10_term_54 ⟨Nat.zero_le _, Nat.zero_le _⟩ rfl (fun H locs hP hD hS => ?_)
        refine lv_aload_n hx hb dX10_term_57 rfl (lv_at hl 1 rfl) ?_
        refine lv_iload_n hx hb dX10_term_58 rfl (lv_at hl 2 rfl) ?_
        obtain ⟨q8, hq8, h⟩ := f_b h
        refine cl_V (w := (hW G Z Y q7.2)) (w' := (hW G Z Y q8.2)) (rv := some (.int q8.1)) (bytes := cX10_atom) (maxL := 3) (ret := (some .boolean)) (C := RX10) (As := [.int y1]) (rest := []) (stk := [.int q8.1]) ⟨hx, hb, hml, hown, hts⟩ hK hE hA hP hD hS (hu_X10_atom q7.2 r0 hr0 y1 q8 hq8) (cwV 1 hts (gwV wd_489 wd_491 wp_12 wd_4 wd_492) rfl rfl rfl hd_X10_atom ⟨by show 8 + d + 1 ≤ 8 + (d + 1); omega, by show 8 + (3 + 11) + (189 + d * 23) ≤ 189 + (d + 1) * 23; omega⟩) (hg_Rd G Z Y q7.2 hr0) rfl rfl rfl hl.1 rfl (Nat.le_of_ble_eq_true rfl) dX10_term_59 ⟨Nat.zero_le _, Nat.zero_le _⟩ rfl (fun H locs hP hD hS => ?_)
        refine lv_if_ne (tgt := 67) hx hb dX10_term_62 (by decide) (fun c9 => ?_) (fun c9 => ?_)
        · skip
          have h := f_f c9 h
          refine lv_aload_n hx hb dX10_term_67 rfl (lv_at hl 1 rfl) ?_
          refine va_get (D := D) (ci := 10) (v := .ref (G.2.1 1)) (C := RX10) (T := TX10) (N := 3) hx hb hts inU_X10 hown hK hP _ (hg_Rd G Z Y q8.2 hr0) rfl 0 (by decide) (hts _ wd_88) (fun _ h9 => h9) rfl dX10_term_68 ?_
          refine lv_sipush (v := 20000) hx hb dX10_term_71 (by decide) ?_
          refine lv_iload_n hx hb dX10_term_74 rfl (lv_at hl 0 rfl) ?_
          refine lv_iadd hx hb dX10_term_75 ?_
          obtain ⟨q10, hq10, h⟩ := f_b h
          refine cl_V (w := (hW G Z Y q8.2)) (w' := (hW G Z Y q10.2)) (rv := none) (bytes := cX8_write) (maxL := 2) (ret := none) (C := RX8) (As := [.int ((20000 : Int32) + q6.1)]) (rest := []) (stk := []) ⟨hx, hb, hml, hown, hts⟩ hK hE hA hP hD hS (c_X8_write l D G Z Y q8.2 ((20000 : Int32) + q6.1) q10 hq10) (cwV 1 hts (gwV wd_456 wd_344 wd_345 wd_2 wd_346) rfl rfl rfl hd_X8_write ⟨by show 0 + 1 ≤ 8 + (d + 1); omega, by show 8 + (2 + 11) + 0 ≤ 189 + (d + 1) * 23; omega⟩) (hg_1 G Z Y q8.2) rfl rfl rfl hl.1 rfl (Nat.le_of_ble_eq_true rfl) dX10_term_76 ⟨Nat.zero_le _, Nat.zero_le _⟩ rfl (fun H locs hP hD hS => ?_)
          refine lv_iinc (v := (z2 + (-1 : Int32))) (lv' := [(2, .int (z2 + (-1 : Int32))), (3, .int q6.1), (0, .ref (G.2.1 r0)), (1, .int y1)]) hx hb dX10_term_79 hl (k := 3) rfl rfl (by decide) rfl (fun ls hl => ?_)
          refine lv_goto (tgt := 14) hx hb dX10_term_82 (by decide) ?_
          exact ih q10.2 (z2 + (-1 : Int32)) h _ _ _ hP hD hS (lv_sub hl [2, 3, 0] rfl)
        · skip
          have h := f_t c9 h
          refine lv_iconst (v := 0) hx hb dX10_term_65 (by decide) ?_
          obtain rfl := Option.some.inj h
          exact W.zret (v := (0 : Int32)) hx hb hr rfl (q_end hK hP hD hS) hS.2.2 dX10_term_66
      · skip
        have h := f_f c5 h
        refine lv_aload_n hx hb dX10_term_30 rfl (lv_at hl 0 rfl) ?_
        refine va_get (D := D) (ci := 10) (v := .ref (G.2.1 1)) (C := RX10) (T := TX10) (N := 3) hx hb hts inU_X10 hown hK hP _ (hg_Rd G Z Y q4.2 hr0) rfl 0 (by decide) (hts _ wd_88) (fun _ h9 => h9) rfl dX10_term_31 ?_
        obtain ⟨q11, hq11, h⟩ := f_b h
        refine cl_V (w := (hW G Z Y q4.2)) (w' := (hW G Z Y q11.2)) (rv := some (.int q11.1)) (bytes := cX8_next) (maxL := 2) (ret := (some .int)) (C := RX8) (As := []) (rest := []) (stk := [.int q11.1]) ⟨hx, hb, hml, hown, hts⟩ hK hE hA hP hD hS (c_X8_next l D G Z Y q4.2 F q11 hq11) (cwV 0 hts (gwV wd_369 wd_324 wd_325 wd_2 wd_326) rfl rfl rfl hd_X8_next ⟨by show 1 + 1 ≤ 8 + (d + 1); omega, by show 8 + (2 + 11) + 30 ≤ 189 + (d + 1) * 23; omega⟩) (hg_1 G Z Y q4.2) rfl rfl rfl hl.1 rfl (Nat.le_of_ble_eq_true rfl) dX10_term_34 ⟨Nat.zero_le _, Nat.zero_le _⟩ rfl (fun H locs hP hD hS => ?_)
        refine lv_bipush (v := 47) hx hb dX10_term_37 (by decide) ?_
        refine lv_icmp_ne (tgt := 85) hx hb dX10_term_39 (by decide) (fun c12 => ?_) (fun c12 => ?_)
        · skip
          have h := f_f c12 h
          refine lv_iconst (v := 1) hx hb dX10_term_85 (by decide) ?_
          obtain rfl := Option.some.inj h
          exact W.zret (v := (1 : Int32)) hx hb hr rfl (q_end hK hP hD hS) hS.2.2 dX10_term_86
        · skip
          have h := f_t c12 h
          refine lv_aload_n hx hb dX10_term_42 rfl (lv_at hl 0 rfl) ?_
          refine va_get (D := D) (ci := 10) (v := .ref (G.2.1 1)) (C := RX10) (T := TX10) (N := 3) hx hb hts inU_X10 hown hK hP _ (hg_Rd G Z Y q11.2 hr0) rfl 0 (by decide) (hts _ wd_88) (fun _ h9 => h9) rfl dX10_term_43 ?_
          obtain ⟨q13, hq13, h⟩ := f_b h
          refine cl_V (w := (hW G Z Y q11.2)) (w' := (hW G Z Y q13.2)) (rv := some (.int q13.1)) (bytes := cX8_next) (maxL := 2) (ret := (some .int)) (C := RX8) (As := []) (rest := []) (stk := [.int q13.1]) ⟨hx, hb, hml, hown, hts⟩ hK hE hA hP hD hS (c_X8_next l D G Z Y q11.2 F q13 hq13) (cwV 0 hts (gwV wd_369 wd_324 wd_325 wd_2 wd_326) rfl rfl rfl hd_X8_next ⟨by show 1 + 1 ≤ 8 + (d + 1); omega, by show 8 + (2 + 11) + 30 ≤ 189 + (d + 1) * 23; omega⟩) (hg_1 G Z Y q11.2) rfl rfl rfl hl.1 rfl (Nat.le_of_ble_eq_true rfl) dX10_term_46 ⟨Nat.zero_le _, Nat.zero_le _⟩ rfl (fun H locs hP hD hS => ?_)
          refine lv_istore_n (lv' := [(3, .int q13.1), (0, .ref (G.2.1 r0)), (1, .int y1), (2, .int z2)]) hx hb dX10_term_49 rfl hl (by decide) rfl (fun ls hl => ?_)
          refine lv_aload_n hx hb dX10_term_50 rfl (lv_at hl 1 rfl) ?_
          refine va_get (D := D) (ci := 10) (v := .ref (G.2.1 1)) (C := RX10) (T := TX10) (N := 3) hx hb hts inU_X10 hown hK hP _ (hg_Rd G Z Y q13.2 hr0) rfl 0 (by decide) (hts _ wd_88) (fun _ h9 => h9) rfl dX10_term_51 ?_
          obtain ⟨q14, hq14, h⟩ := f_b h
          refine cl_V (w := (hW G Z Y q13.2)) (w' := (hW G Z Y q14.2)) (rv := none) (bytes := cX8_step) (maxL := 1) (ret := none) (C := RX8) (As := []) (rest := []) (stk := []) ⟨hx, hb, hml, hown, hts⟩ hK hE hA hP hD hS (c_X8_step l D G Z Y q13.2 q14 hq14) (cwV 0 hts (gwV wd_455 wd_335 wd_336 wd_2 wd_337) rfl rfl rfl hd_X8_step ⟨by show 0 + 1 ≤ 8 + (d + 1); omega, by show 8 + (1 + 11) + 0 ≤ 189 + (d + 1) * 23; omega⟩) (hg_1 G Z Y q13.2) rfl rfl rfl hl.1 rfl (Nat.le_of_ble_eq_true rfl) dX10_term_54 ⟨Nat.zero_le _, Nat.zero_le _⟩ rfl (fun H locs hP hD hS => ?_)
          refine lv_aload_n hx hb dX10_term_57 rfl (lv_at hl 1 rfl) ?_
          refine lv_iload_n hx hb dX10_term_58 rfl (lv_at hl 2 rfl) ?_
          obtain ⟨q15, hq15, h⟩ := f_b h
          refine cl_V (w := (hW G Z Y q14.2)) (w' := (hW G Z Y q15.2)) (rv := some (.int q15.1)) (bytes := cX10_atom) (maxL := 3) (ret := (some .boolean)) (C := RX10) (As := [.int y1]) (rest := []) (stk := [.int q15.1]) ⟨hx, hb, hml, hown, hts⟩ hK hE hA hP hD hS (hu_X10_atom q14.2 r0 hr0 y1 q15 hq15) (cwV 1 hts (gwV wd_489 wd_491 wp_12 wd_4 wd_492) rfl rfl rfl hd_X10_atom ⟨by show 8 + d + 1 ≤ 8 + (d + 1); omega, by show 8 + (3 + 11) + (189 + d * 23) ≤ 189 + (d + 1) * 23; omega⟩) (hg_Rd G Z Y q14.2 hr0) rfl rfl rfl hl.1 rfl (Nat.le_of_ble_eq_true rfl) dX10_term_59 ⟨Nat.zero_le _, Nat.zero_le _⟩ rfl (fun H locs hP hD hS => ?_)
          refine lv_if_ne (tgt := 67) hx hb dX10_term_62 (by decide) (fun c16 => ?_) (fun c16 => ?_)
          · skip
            have h := f_f c16 h
            refine lv_aload_n hx hb dX10_term_67 rfl (lv_at hl 1 rfl) ?_
            refine va_get (D := D) (ci := 10) (v := .ref (G.2.1 1)) (C := RX10) (T := TX10) (N := 3) hx hb hts inU_X10 hown hK hP _ (hg_Rd G Z Y q15.2 hr0) rfl 0 (by decide) (hts _ wd_88) (fun _ h9 => h9) rfl dX10_term_68 ?_
            refine lv_sipush (v := 20000) hx hb dX10_term_71 (by decide) ?_
            refine lv_iload_n hx hb dX10_term_74 rfl (lv_at hl 0 rfl) ?_
            refine lv_iadd hx hb dX10_term_75 ?_
            obtain ⟨q17, hq17, h⟩ := f_b h
            refine cl_V (w := (hW G Z Y q15.2)) (w' := (hW G Z Y q17.2)) (rv := none) (bytes := cX8_write) (maxL := 2) (ret := none) (C := RX8) (As := [.int ((20000 : Int32) + q13.1)]) (rest := []) (stk := []) ⟨hx, hb, hml, hown, hts⟩ hK hE hA hP hD hS (c_X8_write l D G Z Y q15.2 ((20000 : Int32) + q13.1) q17 hq17) (cwV 1 hts (gwV wd_456 wd_344 wd_345 wd_2 wd_346) rfl rfl rfl hd_X8_write ⟨by show 0 + 1 ≤ 8 + (d + 1); omega, by show 8 + (2 + 11) + 0 ≤ 189 + (d + 1) * 23; omega⟩) (hg_1 G Z Y q15.2) rfl rfl rfl hl.1 rfl (Nat.le_of_ble_eq_true rfl) dX10_term_76 ⟨Nat.zero_le _, Nat.zero_le _⟩ rfl (fun H locs hP hD hS => ?_)
            refine lv_iinc (v := (z2 + (-1 : Int32))) (lv' := [(2, .int (z2 + (-1 : Int32))), (3, .int q13.1), (0, .ref (G.2.1 r0)), (1, .int y1)]) hx hb dX10_term_79 hl (k := 3) rfl rfl (by decide) rfl (fun ls hl => ?_)
            refine lv_goto (tgt := 14) hx hb dX10_term_82 (by decide) ?_
            exact ih q17.2 (z2 + (-1 : Int32)) h _ _ _ hP hD hS (lv_sub hl [2, 3, 0] rfl)
          · skip
            have h := f_t c16 h
            refine lv_iconst (v := 0) hx hb dX10_term_65 (by decide) ?_
            obtain rfl := Option.some.inj h
            exact W.zret (v := (0 : Int32)) hx hb hr rfl (q_end hK hP hD hS) hS.2.2 dX10_term_66
set_option maxRecDepth 100000 in
set_option maxHeartbeats 8000000 in
theorem o_X10_term (l : Launch) (D : va_G) (G : hG) (Z : hZ) (Y : va_W) (F : Nat) (d : Nat) (u_X10_atom : (hSt → Nat → Int32 → Option (Int32 × hSt))) (hu_X10_atom : ∀ (σ0 : hSt) (r0 : Nat) (hr0 : isRd r0 = true) (x1 : Int32) (res : (Int32 × hSt)), u_X10_atom σ0 r0 x1 = some res → CT l yX10_atom cX10_atom 3 (some .boolean) (rmG_X10s d) D G 0 0 [.ref (G.2.1 r0), .int x1] (hW G Z Y σ0) (hW G Z Y res.2) (some (.int res.1))) (σ0 : hSt) (r0 : Nat) (hr0 : isRd r0 = true) (x1 : Int32) (res : (Int32 × hSt)) (h : b_X10_term F Z u_X10_atom σ0 r0 x1 = some res) : CT l yX10_term cX10_term 4 (some .boolean) (rmG_X10s (d + 1)) D G 0 0 [.ref (G.2.1 r0), .int x1] (hW G Z Y σ0) (hW G Z Y res.2) (some (.int res.1)) := by
  unfold b_X10_term at h
  refine CT.mk (cc := cX10_term) (maxL := 4) (ret := (some .boolean)) (own := RX10) (plainFor_of_name (by decide)) rfl (Nat.le_of_ble_eq_true rfl) ?_
  intro p e s m args below meth c A ls C0 hnm hA hP hD hl
  obtain ⟨hx, hb, hr, hml, hown, hts, hlocks, hK, hE⟩ := id C0
  have hS : va_S A s.heap s.heap [] := va_S.rf
  have hl : lv_has ls 4 [(0, .ref (G.2.1 r0)), (1, .int x1)] := hl
  refine lv_aload_n hx hb dX10_term_0 rfl (lv_at hl 0 rfl) ?_
  refine lv_iload_n hx hb dX10_term_1 rfl (lv_at hl 1 rfl) ?_
  obtain ⟨q1, hq1, h⟩ := f_b h
  refine cl_V (w := (hW G Z Y σ0)) (w' := (hW G Z Y q1.2)) (rv := some (.int q1.1)) (bytes := cX10_atom) (maxL := 3) (ret := (some .boolean)) (C := RX10) (As := [.int x1]) (rest := []) (stk := [.int q1.1]) ⟨hx, hb, hml, hown, hts⟩ hK hE hA hP hD hS (hu_X10_atom σ0 r0 hr0 x1 q1 hq1) (cwV 1 hts (gwV wd_489 wd_491 wp_12 wd_4 wd_492) rfl rfl rfl hd_X10_atom ⟨by show 8 + d + 1 ≤ 8 + (d + 1); omega, by show 8 + (3 + 11) + (189 + d * 23) ≤ 189 + (d + 1) * 23; omega⟩) (hg_Rd G Z Y σ0 hr0) rfl rfl rfl hl.1 rfl (Nat.le_of_ble_eq_true rfl) dX10_term_2 ⟨Nat.zero_le _, Nat.zero_le _⟩ rfl (fun H locs hP hD hS => ?_)
  refine lv_if_ne (tgt := 10) hx hb dX10_term_5 (by decide) (fun c2 => ?_) (fun c2 => ?_)
  · skip
    have h := f_f c2 h
    refine lv_sipush (v := 200) hx hb dX10_term_10 (by decide) ?_
    refine lv_istore_n (lv' := [(2, .int (200 : Int32)), (0, .ref (G.2.1 r0)), (1, .int x1)]) hx hb dX10_term_13 rfl hl (by decide) rfl (fun ls hl => ?_)
    refine W_X10_term_L14 l D G Z Y F d u_X10_atom hu_X10_atom σ0 r0 hr0 x1 x1 res C0 hA F q1.2 (200 : Int32) h _ _ _ hP hD hS (lv_sub hl [1, 2, 0] rfl)
  · skip
    have h := f_t c2 h
    refine lv_iconst (v := 0) hx hb dX10_term_8 (by decide) ?_
    obtain rfl := Option.some.inj h
    exact W.zret (v := (0 : Int32)) hx hb hr rfl (q_end hK hP hD hS) hS.2.2 dX10_term_9
set_option maxRecDepth 100000 in
set_option maxHeartbeats 8000000 in
theorem o_X10_atom (l : Launch) (D : va_G) (G : hG) (Z : hZ) (Y : va_W) (F : Nat) (d : Nat) (u_X10_total : (hSt → Nat → Int32 → Option (Int32 × hSt))) (hu_X10_total : ∀ (σ0 : hSt) (r0 : Nat) (hr0 : isRd r0 = true) (x1 : Int32) (res : (Int32 × hSt)), u_X10_total σ0 r0 x1 = some res → CT l yX10_total cX10_total 4 (some .boolean) (rmG_X10s d) D G 0 0 [.ref (G.2.1 r0), .int x1] (hW G Z Y σ0) (hW G Z Y res.2) (some (.int res.1))) (σ0 : hSt) (r0 : Nat) (hr0 : isRd r0 = true) (x1 : Int32) (res : (Int32 × hSt)) (h : b_X10_atom F Z u_X10_total σ0 r0 x1 = some res) : CT l yX10_atom cX10_atom 3 (some .boolean) (rmG_X10s (d + 1)) D G 0 0 [.ref (G.2.1 r0), .int x1] (hW G Z Y σ0) (hW G Z Y res.2) (some (.int res.1)) := by
  unfold b_X10_atom at h
  refine CT.mk (cc := cX10_atom) (maxL := 3) (ret := (some .boolean)) (own := RX10) (plainFor_of_name (by decide)) rfl (Nat.le_of_ble_eq_true rfl) ?_
  intro p e s m args below meth c A ls C0 hnm hA hP hD hl
  obtain ⟨hx, hb, hr, hml, hown, hts, hlocks, hK, hE⟩ := id C0
  have hS : va_S A s.heap s.heap [] := va_S.rf
  have hl : lv_has ls 3 [(0, .ref (G.2.1 r0)), (1, .int x1)] := hl
  refine lv_aload_n hx hb dX10_atom_0 rfl (lv_at hl 0 rfl) ?_
  refine va_get (D := D) (ci := 10) (v := .ref (G.2.1 1)) (C := RX10) (T := TX10) (N := 3) hx hb hts inU_X10 hown hK hP _ (hg_Rd G Z Y σ0 hr0) rfl 0 (by decide) (hts _ wd_88) (fun _ h9 => h9) rfl dX10_atom_1 ?_
  obtain ⟨q1, hq1, h⟩ := f_b h
  refine cl_V (w := (hW G Z Y σ0)) (w' := (hW G Z Y q1.2)) (rv := some (.int q1.1)) (bytes := cX8_next) (maxL := 2) (ret := (some .int)) (C := RX8) (As := []) (rest := []) (stk := [.int q1.1]) ⟨hx, hb, hml, hown, hts⟩ hK hE hA hP hD hS (c_X8_next l D G Z Y σ0 F q1 hq1) (cwV 0 hts (gwV wd_369 wd_324 wd_325 wd_2 wd_326) rfl rfl rfl hd_X8_next ⟨by show 1 + 1 ≤ 8 + (d + 1); omega, by show 8 + (2 + 11) + 30 ≤ 189 + (d + 1) * 23; omega⟩) (hg_1 G Z Y σ0) rfl rfl rfl hl.1 rfl (Nat.le_of_ble_eq_true rfl) dX10_atom_4 ⟨Nat.zero_le _, Nat.zero_le _⟩ rfl (fun H locs hP hD hS => ?_)
  refine lv_istore_n (lv' := [(2, .int q1.1), (0, .ref (G.2.1 r0)), (1, .int x1)]) hx hb dX10_atom_7 rfl hl (by decide) rfl (fun ls hl => ?_)
  refine lv_iload_n hx hb dX10_atom_8 rfl (lv_at hl 0 rfl) ?_
  refine lv_bipush (v := 91) hx hb dX10_atom_9 (by decide) ?_
  refine lv_icmp_ne (tgt := 63) hx hb dX10_atom_11 (by decide) (fun c2 => ?_) (fun c2 => ?_)
  · skip
    have h := f_f c2 h
    refine lv_iload_n hx hb dX10_atom_63 rfl (lv_at hl 0 rfl) ?_
    obtain ⟨q3, hq3, h⟩ := f_b h
    refine cl_S (w := (hW G Z Y q1.2)) (w' := (hW G Z Y q1.2)) (rv := some (.int q3)) (bytes := cX10_isDigit) (maxL := 1) (ret := (some .boolean)) (As := [.int q1.1]) (rest := []) (stk := [.int q3]) ⟨hx, hb, hml, hown, hts⟩ hK hE hA hP hD hS (c_X10_isDigit l D G (hW G Z Y q1.2) q1.1 q3 hq3) (mkS hts wd_493 wd_494 wd_4 wd_495 rfl rfl hd_X10_isDigit ⟨by show 0 + 1 ≤ 8 + (d + 1); omega, by show 8 + (1 + 11) + 0 ≤ 189 + (d + 1) * 23; omega⟩) rfl hl.1 rfl (Nat.le_of_ble_eq_true rfl) dX10_atom_64 ⟨Nat.zero_le _, Nat.zero_le _⟩ rfl (fun H locs hP hD hS => ?_)
    refine lv_if_eq (tgt := 75) hx hb dX10_atom_67 (by decide) (fun c4 => ?_) (fun c4 => ?_)
    · skip
      have h := f_t c4 h
      refine lv_aload_n hx hb dX10_atom_75 rfl (lv_at hl 1 rfl) ?_
      refine va_get (D := D) (ci := 10) (v := .ref (G.2.2 (2 * (r0 - 5) + 1))) (C := RX10) (T := TX10) (N := 3) hx hb hts inU_X10 hown hK hP _ (hg_Rd G Z Y q1.2 hr0) rfl 2 (by decide) (hts _ wd_90) (fun _ h9 => h9) rfl dX10_atom_76 ?_
      refine lv_iload_n hx hb dX10_atom_79 rfl (lv_at hl 0 rfl) ?_
      refine lv_i2c (v := ((q1.1 : Int32).toUInt32 % 65536).toInt32) hx hb dX10_atom_80 rfl ?_
      obtain ⟨q5, hq5, h⟩ := f_b h
      refine cl_Vs (w := (hW G Z Y q1.2)) (w' := (hW G Z Y q1.2)) (rv := some (.int q5)) (bytes := cJ0_indexOf_0f7a4) (maxL := 2) (ret := (some .int)) (C := RJ0) (As := [.int ((q1.1 : Int32).toUInt32 % 65536).toInt32]) (rest := []) (stk := [.int q5]) ⟨hx, hb, hml, hown, hts⟩ hK hE hA hP hD hS (c_J0_indexOf_0f7a4 l D G (hW G Z Y q1.2) F (2 * (r0 - 5) + 1) (isSt_Rd1 hr0) (((q1.1 : Int32).toUInt32 % 65536).toInt32) q5 hq5) (cwV 1 hts (gwV wd_370 wd_371 wd_372 wd_13 wd_373) rfl rfl rfl hd_J0_indexOf_0f7a4 ⟨by show 7 + 1 ≤ 8 + (d + 1); omega, by show 8 + (2 + 11) + 168 ≤ 189 + (d + 1) * 23; omega⟩) (isSt_lt (isSt_Rd1 hr0)) rfl rfl hl.1 rfl (Nat.le_of_ble_eq_true rfl) dX10_atom_81 ⟨Nat.zero_le _, Nat.zero_le _⟩ rfl (fun H locs hP hD hS => ?_)
      refine lv_if_ge (tgt := 95) hx hb dX10_atom_84 (by decide) (fun c6 => ?_) (fun c6 => ?_)
      · skip
        have h := f_t c6 h
        refine lv_aload_n hx hb dX10_atom_95 rfl (lv_at hl 1 rfl) ?_
        refine va_get (D := D) (ci := 10) (v := .ref (G.2.1 1)) (C := RX10) (T := TX10) (N := 3) hx hb hts inU_X10 hown hK hP _ (hg_Rd G Z Y q1.2 hr0) rfl 0 (by decide) (hts _ wd_88) (fun _ h9 => h9) rfl dX10_atom_96 ?_
        obtain ⟨q7, hq7, h⟩ := f_b h
        refine cl_V (w := (hW G Z Y q1.2)) (w' := (hW G Z Y q7.2)) (rv := none) (bytes := cX8_step) (maxL := 1) (ret := none) (C := RX8) (As := []) (rest := []) (stk := []) ⟨hx, hb, hml, hown, hts⟩ hK hE hA hP hD hS (c_X8_step l D G Z Y q1.2 q7 hq7) (cwV 0 hts (gwV wd_455 wd_335 wd_336 wd_2 wd_337) rfl rfl rfl hd_X8_step ⟨by show 0 + 1 ≤ 8 + (d + 1); omega, by show 8 + (1 + 11) + 0 ≤ 189 + (d + 1) * 23; omega⟩) (hg_1 G Z Y q1.2) rfl rfl rfl hl.1 rfl (Nat.le_of_ble_eq_true rfl) dX10_atom_99 ⟨Nat.zero_le _, Nat.zero_le _⟩ rfl (fun H locs hP hD hS => ?_)
        refine lv_aload_n hx hb dX10_atom_102 rfl (lv_at hl 1 rfl) ?_
        refine va_get (D := D) (ci := 10) (v := .ref (G.2.1 1)) (C := RX10) (T := TX10) (N := 3) hx hb hts inU_X10 hown hK hP _ (hg_Rd G Z Y q7.2 hr0) rfl 0 (by decide) (hts _ wd_88) (fun _ h9 => h9) rfl dX10_atom_103 ?_
        refine lv_sipush (v := 10000) hx hb dX10_atom_106 (by decide) ?_
        refine va_ldcS hx hb hown (strL_use 4 hE rfl) dX10_atom_109 ?_
        refine lv_iload_n hx hb dX10_atom_111 rfl (lv_at hl 0 rfl) ?_
        refine lv_i2c (v := ((q1.1 : Int32).toUInt32 % 65536).toInt32) hx hb dX10_atom_112 rfl ?_
        obtain ⟨q8, hq8, h⟩ := f_b h
        refine cl_Vs (w := (hW G Z Y q7.2)) (w' := (hW G Z Y q7.2)) (rv := some (.int q8)) (bytes := cJ0_indexOf_0f7a4) (maxL := 2) (ret := (some .int)) (C := RJ0) (As := [.int ((q1.1 : Int32).toUInt32 % 65536).toInt32]) (rest := [.int (10000 : Int32), .ref (G.2.1 1)]) (stk := [.int q8, .int (10000 : Int32), .ref (G.2.1 1)]) ⟨hx, hb, hml, hown, hts⟩ hK hE hA hP hD hS (c_J0_indexOf_0f7a4 l D G (hW G Z Y q7.2) F 4 (rfl : isSt 4 = true) (((q1.1 : Int32).toUInt32 % 65536).toInt32) q8 hq8) (cwV 1 hts (gwV wd_370 wd_371 wd_372 wd_13 wd_373) rfl rfl rfl hd_J0_indexOf_0f7a4 ⟨by show 7 + 1 ≤ 8 + (d + 1); omega, by show 8 + (2 + 11) + 168 ≤ 189 + (d + 1) * 23; omega⟩) (isSt_lt (rfl : isSt 4 = true)) rfl rfl hl.1 rfl (Nat.le_of_ble_eq_true rfl) dX10_atom_113 ⟨Nat.zero_le _, Nat.zero_le _⟩ rfl (fun H locs hP hD hS => ?_)
        refine lv_iadd hx hb dX10_atom_116 ?_
        obtain ⟨q9, hq9, h⟩ := f_b h
        refine cl_V (w := (hW G Z Y q7.2)) (w' := (hW G Z Y q9.2)) (rv := none) (bytes := cX8_write) (maxL := 2) (ret := none) (C := RX8) (As := [.int ((10000 : Int32) + q8)]) (rest := []) (stk := []) ⟨hx, hb, hml, hown, hts⟩ hK hE hA hP hD hS (c_X8_write l D G Z Y q7.2 ((10000 : Int32) + q8) q9 hq9) (cwV 1 hts (gwV wd_456 wd_344 wd_345 wd_2 wd_346) rfl rfl rfl hd_X8_write ⟨by show 0 + 1 ≤ 8 + (d + 1); omega, by show 8 + (2 + 11) + 0 ≤ 189 + (d + 1) * 23; omega⟩) (hg_1 G Z Y q7.2) rfl rfl rfl hl.1 rfl (Nat.le_of_ble_eq_true rfl) dX10_atom_117 ⟨Nat.zero_le _, Nat.zero_le _⟩ rfl (fun H locs hP hD hS => ?_)
        refine lv_iconst (v := 1) hx hb dX10_atom_120 (by decide) ?_
        obtain rfl := Option.some.inj h
        exact W.zret (v := (1 : Int32)) hx hb hr rfl (q_end hK hP hD hS) hS.2.2 dX10_atom_121
      · skip
        have h := f_f c6 h
        refine lv_aload_n hx hb dX10_atom_87 rfl (lv_at hl 1 rfl) ?_
        refine va_get (D := D) (ci := 10) (v := .ref (G.2.1 1)) (C := RX10) (T := TX10) (N := 3) hx hb hts inU_X10 hown hK hP _ (hg_Rd G Z Y q1.2 hr0) rfl 0 (by decide) (hts _ wd_88) (fun _ h9 => h9) rfl dX10_atom_88 ?_
        obtain ⟨q10, hq10, h⟩ := f_b h
        refine cl_V (w := (hW G Z Y q1.2)) (w' := (hW G Z Y q10.2)) (rv := some (.int q10.1)) (bytes := cX8_fail) (maxL := 1) (ret := (some .boolean)) (C := RX8) (As := []) (rest := []) (stk := [.int q10.1]) ⟨hx, hb, hml, hown, hts⟩ hK hE hA hP hD hS (c_X8_fail l D G Z Y q1.2 q10 hq10) (cwV 0 hts (gwV wd_454 wd_348 wd_349 wd_2 wd_350) rfl rfl rfl hd_X8_fail ⟨by show 0 + 1 ≤ 8 + (d + 1); omega, by show 8 + (1 + 11) + 0 ≤ 189 + (d + 1) * 23; omega⟩) (hg_1 G Z Y q1.2) rfl rfl rfl hl.1 rfl (Nat.le_of_ble_eq_true rfl) dX10_atom_91 ⟨Nat.zero_le _, Nat.zero_le _⟩ rfl (fun H locs hP hD hS => ?_)
        obtain ⟨c11, h⟩ := f_c h
        obtain rfl := Option.some.inj h
        exact W.zret (v := q10.1) hx hb hr (bn c11) (q_end hK hP hD hS) hS.2.2 dX10_atom_94
    · skip
      have h := f_f c4 h
      refine lv_aload_n hx hb dX10_atom_70 rfl (lv_at hl 1 rfl) ?_
      obtain ⟨q12, hq12, h⟩ := f_b h
      refine cl_V (w := (hW G Z Y q1.2)) (w' := (hW G Z Y q12.2)) (rv := some (.int q12.1)) (bytes := cX10_number) (maxL := 3) (ret := (some .boolean)) (C := RX10) (As := []) (rest := []) (stk := [.int q12.1]) ⟨hx, hb, hml, hown, hts⟩ hK hE hA hP hD hS (c_X10_number l D G Z Y q1.2 F r0 hr0 q12 hq12) (cwV 0 hts (gwV wd_496 wd_498 wp_13 wd_4 wd_499) rfl rfl rfl hd_X10_number ⟨by show 1 + 1 ≤ 8 + (d + 1); omega, by show 8 + (3 + 11) + 21 ≤ 189 + (d + 1) * 23; omega⟩) (hg_Rd G Z Y q1.2 hr0) rfl rfl rfl hl.1 rfl (Nat.le_of_ble_eq_true rfl) dX10_atom_71 ⟨Nat.zero_le _, Nat.zero_le _⟩ rfl (fun H locs hP hD hS => ?_)
      obtain ⟨c13, h⟩ := f_c h
      obtain rfl := Option.some.inj h
      exact W.zret (v := q12.1) hx hb hr (bn c13) (q_end hK hP hD hS) hS.2.2 dX10_atom_74
  · skip
    have h := f_t c2 h
    refine lv_iload_n hx hb dX10_atom_14 rfl (lv_at hl 2 rfl) ?_
    refine lv_bipush (v := 6) hx hb dX10_atom_15 (by decide) ?_
    refine lv_icmp_lt (tgt := 28) hx hb dX10_atom_17 (by decide) (fun c14 => ?_) (fun c14 => ?_)
    · skip
      have h := f_t c14 h
      refine lv_aload_n hx hb dX10_atom_28 rfl (lv_at hl 1 rfl) ?_
      refine va_get (D := D) (ci := 10) (v := .ref (G.2.1 1)) (C := RX10) (T := TX10) (N := 3) hx hb hts inU_X10 hown hK hP _ (hg_Rd G Z Y q1.2 hr0) rfl 0 (by decide) (hts _ wd_88) (fun _ h9 => h9) rfl dX10_atom_29 ?_
      obtain ⟨q15, hq15, h⟩ := f_b h
      refine cl_V (w := (hW G Z Y q1.2)) (w' := (hW G Z Y q15.2)) (rv := none) (bytes := cX8_step) (maxL := 1) (ret := none) (C := RX8) (As := []) (rest := []) (stk := []) ⟨hx, hb, hml, hown, hts⟩ hK hE hA hP hD hS (c_X8_step l D G Z Y q1.2 q15 hq15) (cwV 0 hts (gwV wd_455 wd_335 wd_336 wd_2 wd_337) rfl rfl rfl hd_X8_step ⟨by show 0 + 1 ≤ 8 + (d + 1); omega, by show 8 + (1 + 11) + 0 ≤ 189 + (d + 1) * 23; omega⟩) (hg_1 G Z Y q1.2) rfl rfl rfl hl.1 rfl (Nat.le_of_ble_eq_true rfl) dX10_atom_32 ⟨Nat.zero_le _, Nat.zero_le _⟩ rfl (fun H locs hP hD hS => ?_)
      refine lv_aload_n hx hb dX10_atom_35 rfl (lv_at hl 1 rfl) ?_
      refine lv_iload_n hx hb dX10_atom_36 rfl (lv_at hl 2 rfl) ?_
      refine lv_iconst (v := 1) hx hb dX10_atom_37 (by decide) ?_
      refine lv_iadd hx hb dX10_atom_38 ?_
      obtain ⟨q16, hq16, h⟩ := f_b h
      refine cl_V (w := (hW G Z Y q15.2)) (w' := (hW G Z Y q16.2)) (rv := some (.int q16.1)) (bytes := cX10_total) (maxL := 4) (ret := (some .boolean)) (C := RX10) (As := [.int (x1 + (1 : Int32))]) (rest := []) (stk := [.int q16.1]) ⟨hx, hb, hml, hown, hts⟩ hK hE hA hP hD hS (hu_X10_total q15.2 r0 hr0 (x1 + (1 : Int32)) q16 hq16) (cwV 1 hts (gwV wd_481 wd_483 wp_10 wd_4 wd_484) rfl rfl rfl hd_X10_total ⟨by show 8 + d + 1 ≤ 8 + (d + 1); omega, by show 8 + (4 + 11) + (189 + d * 23) ≤ 189 + (d + 1) * 23; omega⟩) (hg_Rd G Z Y q15.2 hr0) rfl rfl rfl hl.1 rfl (Nat.le_of_ble_eq_true rfl) dX10_atom_39 ⟨Nat.zero_le _, Nat.zero_le _⟩ rfl (fun H locs hP hD hS => ?_)
      refine lv_if_eq (tgt := 61) hx hb dX10_atom_42 (by decide) (fun c17 => ?_) (fun c17 => ?_)
      · skip
        have h := f_t c17 h
        refine lv_iconst (v := 0) hx hb dX10_atom_61 (by decide) ?_
        obtain rfl := Option.some.inj h
        exact W.zret (v := (0 : Int32)) hx hb hr rfl (q_end hK hP hD hS) hS.2.2 dX10_atom_62
      · skip
        have h := f_f c17 h
        refine lv_aload_n hx hb dX10_atom_45 rfl (lv_at hl 1 rfl) ?_
        refine va_get (D := D) (ci := 10) (v := .ref (G.2.1 1)) (C := RX10) (T := TX10) (N := 3) hx hb hts inU_X10 hown hK hP _ (hg_Rd G Z Y q16.2 hr0) rfl 0 (by decide) (hts _ wd_88) (fun _ h9 => h9) rfl dX10_atom_46 ?_
        refine lv_bipush (v := 93) hx hb dX10_atom_49 (by decide) ?_
        obtain ⟨q18, hq18, h⟩ := f_b h
        refine cl_V (w := (hW G Z Y q16.2)) (w' := (hW G Z Y q18.2)) (rv := some (.int q18.1)) (bytes := cX8_expect) (maxL := 2) (ret := (some .boolean)) (C := RX8) (As := [.int (93 : Int32)]) (rest := []) (stk := [.int q18.1]) ⟨hx, hb, hml, hown, hts⟩ hK hE hA hP hD hS (c_X8_expect l D G Z Y q16.2 F (93 : Int32) q18 hq18) (cwV 1 hts (gwV wd_457 wd_339 wd_340 wd_2 wd_341) rfl rfl rfl hd_X8_expect ⟨by show 2 + 1 ≤ 8 + (d + 1); omega, by show 8 + (2 + 11) + 51 ≤ 189 + (d + 1) * 23; omega⟩) (hg_1 G Z Y q16.2) rfl rfl rfl hl.1 rfl (Nat.le_of_ble_eq_true rfl) dX10_atom_51 ⟨Nat.zero_le _, Nat.zero_le _⟩ rfl (fun H locs hP hD hS => ?_)
        refine lv_if_eq (tgt := 61) hx hb dX10_atom_54 (by decide) (fun c19 => ?_) (fun c19 => ?_)
        · skip
          have h := f_t c19 h
          refine lv_iconst (v := 0) hx hb dX10_atom_61 (by decide) ?_
          obtain rfl := Option.some.inj h
          exact W.zret (v := (0 : Int32)) hx hb hr rfl (q_end hK hP hD hS) hS.2.2 dX10_atom_62
        · skip
          have h := f_f c19 h
          refine lv_iconst (v := 1) hx hb dX10_atom_57 (by decide) ?_
          refine lv_goto (tgt := 62) hx hb dX10_atom_58 (by decide) ?_
          obtain rfl := Option.some.inj h
          exact W.zret (v := (1 : Int32)) hx hb hr rfl (q_end hK hP hD hS) hS.2.2 dX10_atom_62
    · skip
      have h := f_f c14 h
      refine lv_aload_n hx hb dX10_atom_20 rfl (lv_at hl 1 rfl) ?_
      refine va_get (D := D) (ci := 10) (v := .ref (G.2.1 1)) (C := RX10) (T := TX10) (N := 3) hx hb hts inU_X10 hown hK hP _ (hg_Rd G Z Y q1.2 hr0) rfl 0 (by decide) (hts _ wd_88) (fun _ h9 => h9) rfl dX10_atom_21 ?_
      obtain ⟨q20, hq20, h⟩ := f_b h
      refine cl_V (w := (hW G Z Y q1.2)) (w' := (hW G Z Y q20.2)) (rv := some (.int q20.1)) (bytes := cX8_fail) (maxL := 1) (ret := (some .boolean)) (C := RX8) (As := []) (rest := []) (stk := [.int q20.1]) ⟨hx, hb, hml, hown, hts⟩ hK hE hA hP hD hS (c_X8_fail l D G Z Y q1.2 q20 hq20) (cwV 0 hts (gwV wd_454 wd_348 wd_349 wd_2 wd_350) rfl rfl rfl hd_X8_fail ⟨by show 0 + 1 ≤ 8 + (d + 1); omega, by show 8 + (1 + 11) + 0 ≤ 189 + (d + 1) * 23; omega⟩) (hg_1 G Z Y q1.2) rfl rfl rfl hl.1 rfl (Nat.le_of_ble_eq_true rfl) dX10_atom_24 ⟨Nat.zero_le _, Nat.zero_le _⟩ rfl (fun H locs hP hD hS => ?_)
      obtain ⟨c21, h⟩ := f_c h
      obtain rfl := Option.some.inj h
      exact W.zret (v := q20.1) hx hb hr (bn c21) (q_end hK hP hD hS) hS.2.2 dX10_atom_27
set_option maxRecDepth 100000 in
set_option maxHeartbeats 8000000 in
theorem c_G_X10s (l : Launch) (D : va_G) (G : hG) (Z : hZ) (Y : va_W) (F : Nat) : ∀ d : Nat, (∀ (σ0 : hSt) (r0 : Nat) (hr0 : isRd r0 = true) (x1 : Int32) (res : (Int32 × hSt)), (G_X10s F Z d).1 σ0 r0 x1 = some res → CT l yX10_total cX10_total 4 (some .boolean) (rmG_X10s d) D G 0 0 [.ref (G.2.1 r0), .int x1] (hW G Z Y σ0) (hW G Z Y res.2) (some (.int res.1))) ∧ (∀ (σ0 : hSt) (r0 : Nat) (hr0 : isRd r0 = true) (x1 : Int32) (res : (Int32 × hSt)), (G_X10s F Z d).2.1 σ0 r0 x1 = some res → CT l yX10_term cX10_term 4 (some .boolean) (rmG_X10s d) D G 0 0 [.ref (G.2.1 r0), .int x1] (hW G Z Y σ0) (hW G Z Y res.2) (some (.int res.1))) ∧ (∀ (σ0 : hSt) (r0 : Nat) (hr0 : isRd r0 = true) (x1 : Int32) (res : (Int32 × hSt)), (G_X10s F Z d).2.2 σ0 r0 x1 = some res → CT l yX10_atom cX10_atom 3 (some .boolean) (rmG_X10s d) D G 0 0 [.ref (G.2.1 r0), .int x1] (hW G Z Y σ0) (hW G Z Y res.2) (some (.int res.1))) := by
  intro d
  induction d with
  | zero =>
    refine ⟨?_, ?_, ?_⟩
    · exact fun σ0 r0 hr0 x1 res h => by
        have h1 : (none : Option (Int32 × hSt)) = some res := h
        cases h1
    · exact fun σ0 r0 hr0 x1 res h => by
        have h1 : (none : Option (Int32 × hSt)) = some res := h
        cases h1
    · exact fun σ0 r0 hr0 x1 res h => by
        have h1 : (none : Option (Int32 × hSt)) = some res := h
        cases h1
  | succ d ih =>
    obtain ⟨i_X10_total, i_X10_term, i_X10_atom⟩ := ih
    refine ⟨?_, ?_, ?_⟩
    · exact fun σ0 r0 hr0 x1 res h => o_X10_total l D G Z Y F d _ i_X10_term σ0 r0 hr0 x1 res h
    · exact fun σ0 r0 hr0 x1 res h => o_X10_term l D G Z Y F d _ i_X10_atom σ0 r0 hr0 x1 res h
    · exact fun σ0 r0 hr0 x1 res h => o_X10_atom l D G Z Y F d _ i_X10_total σ0 r0 hr0 x1 res h
abbrev rm_X10_total : Room := rmG_X10s 30
theorem c_X10_total (l : Launch) (D : va_G) (G : hG) (Z : hZ) (Y : va_W) (σ0 : hSt) (F : Nat) (r0 : Nat) (hr0 : isRd r0 = true) (x1 : Int32) (res : (Int32 × hSt)) (h : f_X10_total F Z σ0 r0 x1 = some res) : CT l yX10_total cX10_total 4 (some .boolean) rm_X10_total D G 0 0 [.ref (G.2.1 r0), .int x1] (hW G Z Y σ0) (hW G Z Y res.2) (some (.int res.1)) := (c_G_X10s l D G Z Y F 30).1 σ0 r0 hr0 x1 res h
abbrev rm_X10_term : Room := rmG_X10s 30
theorem c_X10_term (l : Launch) (D : va_G) (G : hG) (Z : hZ) (Y : va_W) (σ0 : hSt) (F : Nat) (r0 : Nat) (hr0 : isRd r0 = true) (x1 : Int32) (res : (Int32 × hSt)) (h : f_X10_term F Z σ0 r0 x1 = some res) : CT l yX10_term cX10_term 4 (some .boolean) rm_X10_term D G 0 0 [.ref (G.2.1 r0), .int x1] (hW G Z Y σ0) (hW G Z Y res.2) (some (.int res.1)) := (c_G_X10s l D G Z Y F 30).2.1 σ0 r0 hr0 x1 res h
abbrev rm_X10_atom : Room := rmG_X10s 30
theorem c_X10_atom (l : Launch) (D : va_G) (G : hG) (Z : hZ) (Y : va_W) (σ0 : hSt) (F : Nat) (r0 : Nat) (hr0 : isRd r0 = true) (x1 : Int32) (res : (Int32 × hSt)) (h : f_X10_atom F Z σ0 r0 x1 = some res) : CT l yX10_atom cX10_atom 3 (some .boolean) rm_X10_atom D G 0 0 [.ref (G.2.1 r0), .int x1] (hW G Z Y σ0) (hW G Z Y res.2) (some (.int res.1)) := (c_G_X10s l D G Z Y F 30).2.2 σ0 r0 hr0 x1 res h
abbrev rm_X10_comparison : Room := { frames := 39, cells := 0, slots := 0, locals := 902 }
set_option maxRecDepth 100000 in
set_option maxHeartbeats 8000000 in
theorem c_X10_comparison (l : Launch) (D : va_G) (G : hG) (Z : hZ) (Y : va_W) (σ0 : hSt) (F : Nat) (r0 : Nat) (hr0 : isRd r0 = true) (x1 : Int32) (res : (Int32 × hSt)) (h : f_X10_comparison F Z σ0 r0 x1 = some res) : CT l yX10_comparison cX10_comparison 3 (some .boolean) rm_X10_comparison D G 0 0 [.ref (G.2.1 r0), .int x1] (hW G Z Y σ0) (hW G Z Y res.2) (some (.int res.1)) := by
  unfold f_X10_comparison at h
  refine CT.mk (cc := cX10_comparison) (maxL := 3) (ret := (some .boolean)) (own := RX10) (plainFor_of_name (by decide)) rfl (Nat.le_of_ble_eq_true rfl) ?_
  intro p e s m args below meth c A ls C0 hnm hA hP hD hl
  obtain ⟨hx, hb, hr, hml, hown, hts, hlocks, hK, hE⟩ := id C0
  have hS : va_S A s.heap s.heap [] := va_S.rf
  have hl : lv_has ls 3 [(0, .ref (G.2.1 r0)), (1, .int x1)] := hl
  refine lv_aload_n hx hb dX10_comparison_0 rfl (lv_at hl 0 rfl) ?_
  refine va_get (D := D) (ci := 10) (v := .ref (G.2.1 1)) (C := RX10) (T := TX10) (N := 3) hx hb hts inU_X10 hown hK hP _ (hg_Rd G Z Y σ0 hr0) rfl 0 (by decide) (hts _ wd_88) (fun _ h9 => h9) rfl dX10_comparison_1 ?_
  obtain ⟨q1, hq1, h⟩ := f_b h
  refine cl_V (w := (hW G Z Y σ0)) (w' := (hW G Z Y q1.2)) (rv := some (.int q1.1)) (bytes := cX8_next) (maxL := 2) (ret := (some .int)) (C := RX8) (As := []) (rest := []) (stk := [.int q1.1]) ⟨hx, hb, hml, hown, hts⟩ hK hE hA hP hD hS (c_X8_next l D G Z Y σ0 F q1 hq1) (cwV 0 hts (gwV wd_369 wd_324 wd_325 wd_2 wd_326) rfl rfl rfl hd_X8_next ⟨Nat.le_of_ble_eq_true rfl, Nat.le_of_ble_eq_true rfl⟩) (hg_1 G Z Y σ0) rfl rfl rfl hl.1 rfl (Nat.le_of_ble_eq_true rfl) dX10_comparison_4 ⟨Nat.zero_le _, Nat.zero_le _⟩ rfl (fun H locs hP hD hS => ?_)
  refine lv_istore_n (lv' := [(2, .int q1.1), (0, .ref (G.2.1 r0)), (1, .int x1)]) hx hb dX10_comparison_7 rfl hl (by decide) rfl (fun ls hl => ?_)
  refine lv_iload_n hx hb dX10_comparison_8 rfl (lv_at hl 0 rfl) ?_
  obtain ⟨q2, hq2, h⟩ := f_b h
  refine cl_S (w := (hW G Z Y q1.2)) (w' := (hW G Z Y q1.2)) (rv := some (.int q2)) (bytes := cX10_isComparison) (maxL := 1) (ret := (some .boolean)) (As := [.int q1.1]) (rest := []) (stk := [.int q2]) ⟨hx, hb, hml, hown, hts⟩ hK hE hA hP hD hS (c_X10_isComparison l D G (hW G Z Y q1.2) q1.1 q2 hq2) (mkS hts wd_478 wd_479 wd_4 wd_480 rfl rfl hd_X10_isComparison ⟨Nat.le_of_ble_eq_true rfl, Nat.le_of_ble_eq_true rfl⟩) rfl hl.1 rfl (Nat.le_of_ble_eq_true rfl) dX10_comparison_9 ⟨Nat.zero_le _, Nat.zero_le _⟩ rfl (fun H locs hP hD hS => ?_)
  refine lv_if_ne (tgt := 23) hx hb dX10_comparison_12 (by decide) (fun c3 => ?_) (fun c3 => ?_)
  · skip
    have h := f_f c3 h
    refine lv_aload_n hx hb dX10_comparison_23 rfl (lv_at hl 1 rfl) ?_
    refine va_get (D := D) (ci := 10) (v := .ref (G.2.1 1)) (C := RX10) (T := TX10) (N := 3) hx hb hts inU_X10 hown hK hP _ (hg_Rd G Z Y q1.2 hr0) rfl 0 (by decide) (hts _ wd_88) (fun _ h9 => h9) rfl dX10_comparison_24 ?_
    obtain ⟨q4, hq4, h⟩ := f_b h
    refine cl_V (w := (hW G Z Y q1.2)) (w' := (hW G Z Y q4.2)) (rv := none) (bytes := cX8_step) (maxL := 1) (ret := none) (C := RX8) (As := []) (rest := []) (stk := []) ⟨hx, hb, hml, hown, hts⟩ hK hE hA hP hD hS (c_X8_step l D G Z Y q1.2 q4 hq4) (cwV 0 hts (gwV wd_455 wd_335 wd_336 wd_2 wd_337) rfl rfl rfl hd_X8_step ⟨Nat.le_of_ble_eq_true rfl, Nat.le_of_ble_eq_true rfl⟩) (hg_1 G Z Y q1.2) rfl rfl rfl hl.1 rfl (Nat.le_of_ble_eq_true rfl) dX10_comparison_27 ⟨Nat.zero_le _, Nat.zero_le _⟩ rfl (fun H locs hP hD hS => ?_)
    refine lv_aload_n hx hb dX10_comparison_30 rfl (lv_at hl 1 rfl) ?_
    refine lv_iload_n hx hb dX10_comparison_31 rfl (lv_at hl 2 rfl) ?_
    obtain ⟨q5, hq5, h⟩ := f_b h
    refine cl_V (w := (hW G Z Y q4.2)) (w' := (hW G Z Y q5.2)) (rv := some (.int q5.1)) (bytes := cX10_total) (maxL := 4) (ret := (some .boolean)) (C := RX10) (As := [.int x1]) (rest := []) (stk := [.int q5.1]) ⟨hx, hb, hml, hown, hts⟩ hK hE hA hP hD hS (c_X10_total l D G Z Y q4.2 F r0 hr0 x1 q5 hq5) (cwV 1 hts (gwV wd_481 wd_483 wp_10 wd_4 wd_484) rfl rfl rfl hd_X10_total ⟨Nat.le_of_ble_eq_true rfl, Nat.le_of_ble_eq_true rfl⟩) (hg_Rd G Z Y q4.2 hr0) rfl rfl rfl hl.1 rfl (Nat.le_of_ble_eq_true rfl) dX10_comparison_32 ⟨Nat.zero_le _, Nat.zero_le _⟩ rfl (fun H locs hP hD hS => ?_)
    refine lv_if_ne (tgt := 40) hx hb dX10_comparison_35 (by decide) (fun c6 => ?_) (fun c6 => ?_)
    · skip
      have h := f_f c6 h
      refine lv_aload_n hx hb dX10_comparison_40 rfl (lv_at hl 1 rfl) ?_
      refine va_get (D := D) (ci := 10) (v := .ref (G.2.1 1)) (C := RX10) (T := TX10) (N := 3) hx hb hts inU_X10 hown hK hP _ (hg_Rd G Z Y q5.2 hr0) rfl 0 (by decide) (hts _ wd_88) (fun _ h9 => h9) rfl dX10_comparison_41 ?_
      refine lv_sipush (v := 20000) hx hb dX10_comparison_44 (by decide) ?_
      refine lv_iload_n hx hb dX10_comparison_47 rfl (lv_at hl 0 rfl) ?_
      refine lv_iadd hx hb dX10_comparison_48 ?_
      obtain ⟨q7, hq7, h⟩ := f_b h
      refine cl_V (w := (hW G Z Y q5.2)) (w' := (hW G Z Y q7.2)) (rv := none) (bytes := cX8_write) (maxL := 2) (ret := none) (C := RX8) (As := [.int ((20000 : Int32) + q1.1)]) (rest := []) (stk := []) ⟨hx, hb, hml, hown, hts⟩ hK hE hA hP hD hS (c_X8_write l D G Z Y q5.2 ((20000 : Int32) + q1.1) q7 hq7) (cwV 1 hts (gwV wd_456 wd_344 wd_345 wd_2 wd_346) rfl rfl rfl hd_X8_write ⟨Nat.le_of_ble_eq_true rfl, Nat.le_of_ble_eq_true rfl⟩) (hg_1 G Z Y q5.2) rfl rfl rfl hl.1 rfl (Nat.le_of_ble_eq_true rfl) dX10_comparison_49 ⟨Nat.zero_le _, Nat.zero_le _⟩ rfl (fun H locs hP hD hS => ?_)
      refine lv_iconst (v := 1) hx hb dX10_comparison_52 (by decide) ?_
      obtain rfl := Option.some.inj h
      exact W.zret (v := (1 : Int32)) hx hb hr rfl (q_end hK hP hD hS) hS.2.2 dX10_comparison_53
    · skip
      have h := f_t c6 h
      refine lv_iconst (v := 0) hx hb dX10_comparison_38 (by decide) ?_
      obtain rfl := Option.some.inj h
      exact W.zret (v := (0 : Int32)) hx hb hr rfl (q_end hK hP hD hS) hS.2.2 dX10_comparison_39
  · skip
    have h := f_t c3 h
    refine lv_aload_n hx hb dX10_comparison_15 rfl (lv_at hl 1 rfl) ?_
    refine va_get (D := D) (ci := 10) (v := .ref (G.2.1 1)) (C := RX10) (T := TX10) (N := 3) hx hb hts inU_X10 hown hK hP _ (hg_Rd G Z Y q1.2 hr0) rfl 0 (by decide) (hts _ wd_88) (fun _ h9 => h9) rfl dX10_comparison_16 ?_
    obtain ⟨q8, hq8, h⟩ := f_b h
    refine cl_V (w := (hW G Z Y q1.2)) (w' := (hW G Z Y q8.2)) (rv := some (.int q8.1)) (bytes := cX8_fail) (maxL := 1) (ret := (some .boolean)) (C := RX8) (As := []) (rest := []) (stk := [.int q8.1]) ⟨hx, hb, hml, hown, hts⟩ hK hE hA hP hD hS (c_X8_fail l D G Z Y q1.2 q8 hq8) (cwV 0 hts (gwV wd_454 wd_348 wd_349 wd_2 wd_350) rfl rfl rfl hd_X8_fail ⟨Nat.le_of_ble_eq_true rfl, Nat.le_of_ble_eq_true rfl⟩) (hg_1 G Z Y q1.2) rfl rfl rfl hl.1 rfl (Nat.le_of_ble_eq_true rfl) dX10_comparison_19 ⟨Nat.zero_le _, Nat.zero_le _⟩ rfl (fun H locs hP hD hS => ?_)
    obtain ⟨c9, h⟩ := f_c h
    obtain rfl := Option.some.inj h
    exact W.zret (v := q8.1) hx hb hr (bn c9) (q_end hK hP hD hS) hS.2.2 dX10_comparison_22
def rmG_X10c (d : Nat) : Room := { frames := 40 + d, cells := 0, slots := 0, locals := 924 + d * 23 }
set_option maxRecDepth 100000 in
set_option maxHeartbeats 8000000 in
theorem W_X10_condition_L15 {p : Program} {e : Env} {s : State} {m : MethodId} {args : Array Value} {below : List Frame} {meth : Method} {c : Code} {A : Nat → Prop} (l : Launch) (D : va_G) (G : hG) (Z : hZ) (Y : va_W) (F : Nat) (d : Nat) (u_X10_part : (hSt → Nat → Int32 → Int32 → Option (Int32 × hSt))) (hu_X10_part : ∀ (σ0 : hSt) (r0 : Nat) (hr0 : isRd r0 = true) (x1 : Int32) (x2 : Int32) (res : (Int32 × hSt)), u_X10_part σ0 r0 x1 x2 = some res → CT l yX10_part cX10_part 4 (some .boolean) (rmG_X10c d) D G 0 0 [.ref (G.2.1 r0), .int x1, .int x2] (hW G Z Y σ0) (hW G Z Y res.2) (some (.int res.1))) (σ0 : hSt) (r0 : Nat) (hr0 : isRd r0 = true) (x1 : Int32) (x2 : Int32) (y1 : Int32) (res : (Int32 × hSt)) (C0 : Cx p s m args meth c cX10_condition (some .boolean) RX10 4 D G A) (hA : ∀ q : Nat, s.heap.size ≤ q → A q) : ∀ (n : Nat) (σ1 : hSt) (z3 : Int32), f_X10_condition_L15 F Z u_X10_part r0 y1 n σ1 z3 = some res → ∀ (H : Heap) (locs : List Loc) (ls : Array Slot), va_P D vwCl (hW G Z Y σ1) H → va_D A (hW G Z Y σ1) → va_S A s.heap H locs → lv_has ls 4 [(0, .ref (G.2.1 r0)), (1, .int y1), (3, .int z3)] → W p l e (rmG_X10c (d + 1)) s m args below meth c H locs 0 0 (MQ below (Qg (some (.int res.1)) D (tysG G) (hW G Z Y res.2) A) args s 0 0 A) (F0 m 15 ls []) := by
  obtain ⟨hx, hb, hr, hml, hown, hts, hlocks, hK, hE⟩ := id C0
  intro n
  induction n with
  | zero =>
    intro σ1 z3 h
    cases h
  | succ n ih =>
    intro σ1 z3 h H locs ls hP hD hS hl
    rw [f_X10_condition_L15] at h
    refine lv_iload_n hx hb dX10_condition_15 rfl (lv_at hl 2 rfl) ?_
    refine lv_if_le (tgt := 58) hx hb dX10_condition_16 (by decide) (fun c3 => ?_) (fun c3 => ?_)
    · skip
      have h := f_t c3 h
      refine lv_iconst (v := 1) hx hb dX10_condition_58 (by decide) ?_
      obtain rfl := Option.some.inj h
      exact W.zret (v := (1 : Int32)) hx hb hr rfl (q_end hK hP hD hS) hS.2.2 dX10_condition_59
    · skip
      have h := f_f c3 h
      refine lv_aload_n hx hb dX10_condition_19 rfl (lv_at hl 0 rfl) ?_
      refine va_get (D := D) (ci := 10) (v := .ref (G.2.1 1)) (C := RX10) (T := TX10) (N := 3) hx hb hts inU_X10 hown hK hP _ (hg_Rd G Z Y σ1 hr0) rfl 0 (by decide) (hts _ wd_88) (fun _ h9 => h9) rfl dX10_condition_20 ?_
      refine lv_bipush (v := 124) hx hb dX10_condition_23 (by decide) ?_
      obtain ⟨q4, hq4, h⟩ := f_b h
      refine cl_V (w := (hW G Z Y σ1)) (w' := (hW G Z Y q4.2)) (rv := some (.int q4.1)) (bytes := cX8_take) (maxL := 2) (ret := (some .boolean)) (C := RX8) (As := [.int (124 : Int32)]) (rest := []) (stk := [.int q4.1]) ⟨hx, hb, hml, hown, hts⟩ hK hE hA hP hD hS (c_X8_take l D G Z Y σ1 F (124 : Int32) q4 hq4) (cwV 1 hts (gwV wd_509 wd_352 wd_353 wd_2 wd_354) rfl rfl rfl hd_X8_take ⟨by show 2 + 1 ≤ 40 + (d + 1); omega, by show 8 + (2 + 11) + 51 ≤ 924 + (d + 1) * 23; omega⟩) (hg_1 G Z Y σ1) rfl rfl rfl hl.1 rfl (Nat.le_of_ble_eq_true rfl) dX10_condition_25 ⟨Nat.zero_le _, Nat.zero_le _⟩ rfl (fun H locs hP hD hS => ?_)
      refine lv_if_eq (tgt := 58) hx hb dX10_condition_28 (by decide) (fun c5 => ?_) (fun c5 => ?_)
      · skip
        have h := f_t c5 h
        refine lv_iconst (v := 1) hx hb dX10_condition_58 (by decide) ?_
        obtain rfl := Option.some.inj h
        exact W.zret (v := (1 : Int32)) hx hb hr rfl (q_end hK hP hD hS) hS.2.2 dX10_condition_59
      · skip
        have h := f_f c5 h
        refine lv_aload_n hx hb dX10_condition_31 rfl (lv_at hl 0 rfl) ?_
        refine lv_iload_n hx hb dX10_condition_32 rfl (lv_at hl 1 rfl) ?_
        refine lv_iconst (v := 0) hx hb dX10_condition_33 (by decide) ?_
        obtain ⟨q6, hq6, h⟩ := f_b h
        refine cl_V (w := (hW G Z Y q4.2)) (w' := (hW G Z Y q6.2)) (rv := some (.int q6.1)) (bytes := cX10_part) (maxL := 4) (ret := (some .boolean)) (C := RX10) (As := [.int y1, .int (0 : Int32)]) (rest := []) (stk := [.int q6.1]) ⟨hx, hb, hml, hown, hts⟩ hK hE hA hP hD hS (hu_X10_part q4.2 r0 hr0 y1 (0 : Int32) q6 hq6) (cwV 2 hts (gwV wd_466 wd_468 wp_7 wd_4 wd_469) rfl rfl rfl hd_X10_part ⟨by show 40 + d + 1 ≤ 40 + (d + 1); omega, by show 8 + (4 + 11) + (924 + d * 23) ≤ 924 + (d + 1) * 23; omega⟩) (hg_Rd G Z Y q4.2 hr0) rfl rfl rfl hl.1 rfl (Nat.le_of_ble_eq_true rfl) dX10_condition_34 ⟨Nat.zero_le _, Nat.zero_le _⟩ rfl (fun H locs hP hD hS => ?_)
        refine lv_if_ne (tgt := 42) hx hb dX10_condition_37 (by decide) (fun c7 => ?_) (fun c7 => ?_)
        · skip
          have h := f_f c7 h
          refine lv_aload_n hx hb dX10_condition_42 rfl (lv_at hl 0 rfl) ?_
          refine va_get (D := D) (ci := 10) (v := .ref (G.2.1 1)) (C := RX10) (T := TX10) (N := 3) hx hb hts inU_X10 hown hK hP _ (hg_Rd G Z Y q6.2 hr0) rfl 0 (by decide) (hts _ wd_88) (fun _ h9 => h9) rfl dX10_condition_43 ?_
          refine lv_sipush (v := 20124) hx hb dX10_condition_46 (by decide) ?_
          obtain ⟨q8, hq8, h⟩ := f_b h
          refine cl_V (w := (hW G Z Y q6.2)) (w' := (hW G Z Y q8.2)) (rv := none) (bytes := cX8_write) (maxL := 2) (ret := none) (C := RX8) (As := [.int (20124 : Int32)]) (rest := []) (stk := []) ⟨hx, hb, hml, hown, hts⟩ hK hE hA hP hD hS (c_X8_write l D G Z Y q6.2 (20124 : Int32) q8 hq8) (cwV 1 hts (gwV wd_456 wd_344 wd_345 wd_2 wd_346) rfl rfl rfl hd_X8_write ⟨by show 0 + 1 ≤ 40 + (d + 1); omega, by show 8 + (2 + 11) + 0 ≤ 924 + (d + 1) * 23; omega⟩) (hg_1 G Z Y q6.2) rfl rfl rfl hl.1 rfl (Nat.le_of_ble_eq_true rfl) dX10_condition_49 ⟨Nat.zero_le _, Nat.zero_le _⟩ rfl (fun H locs hP hD hS => ?_)
          refine lv_iinc (v := (z3 + (-1 : Int32))) (lv' := [(3, .int (z3 + (-1 : Int32))), (0, .ref (G.2.1 r0)), (1, .int y1)]) hx hb dX10_condition_52 hl (k := 2) rfl rfl (by decide) rfl (fun ls hl => ?_)
          refine lv_goto (tgt := 15) hx hb dX10_condition_55 (by decide) ?_
          exact ih q8.2 (z3 + (-1 : Int32)) h _ _ _ hP hD hS (lv_sub hl [1, 2, 0] rfl)
        · skip
          have h := f_t c7 h
          refine lv_iconst (v := 0) hx hb dX10_condition_40 (by decide) ?_
          obtain rfl := Option.some.inj h
          exact W.zret (v := (0 : Int32)) hx hb hr rfl (q_end hK hP hD hS) hS.2.2 dX10_condition_41
set_option maxRecDepth 100000 in
set_option maxHeartbeats 8000000 in
theorem o_X10_condition (l : Launch) (D : va_G) (G : hG) (Z : hZ) (Y : va_W) (F : Nat) (d : Nat) (u_X10_part : (hSt → Nat → Int32 → Int32 → Option (Int32 × hSt))) (hu_X10_part : ∀ (σ0 : hSt) (r0 : Nat) (hr0 : isRd r0 = true) (x1 : Int32) (x2 : Int32) (res : (Int32 × hSt)), u_X10_part σ0 r0 x1 x2 = some res → CT l yX10_part cX10_part 4 (some .boolean) (rmG_X10c d) D G 0 0 [.ref (G.2.1 r0), .int x1, .int x2] (hW G Z Y σ0) (hW G Z Y res.2) (some (.int res.1))) (σ0 : hSt) (r0 : Nat) (hr0 : isRd r0 = true) (x1 : Int32) (x2 : Int32) (res : (Int32 × hSt)) (h : b_X10_condition F Z u_X10_part σ0 r0 x1 x2 = some res) : CT l yX10_condition cX10_condition 4 (some .boolean) (rmG_X10c (d + 1)) D G 0 0 [.ref (G.2.1 r0), .int x1, .int x2] (hW G Z Y σ0) (hW G Z Y res.2) (some (.int res.1)) := by
  unfold b_X10_condition at h
  refine CT.mk (cc := cX10_condition) (maxL := 4) (ret := (some .boolean)) (own := RX10) (plainFor_of_name (by decide)) rfl (Nat.le_of_ble_eq_true rfl) ?_
  intro p e s m args below meth c A ls C0 hnm hA hP hD hl
  obtain ⟨hx, hb, hr, hml, hown, hts, hlocks, hK, hE⟩ := id C0
  have hS : va_S A s.heap s.heap [] := va_S.rf
  have hl : lv_has ls 4 [(0, .ref (G.2.1 r0)), (1, .int x1), (2, .int x2)] := hl
  refine lv_aload_n hx hb dX10_condition_0 rfl (lv_at hl 0 rfl) ?_
  refine lv_iload_n hx hb dX10_condition_1 rfl (lv_at hl 1 rfl) ?_
  refine lv_iload_n hx hb dX10_condition_2 rfl (lv_at hl 2 rfl) ?_
  obtain ⟨q1, hq1, h⟩ := f_b h
  refine cl_V (w := (hW G Z Y σ0)) (w' := (hW G Z Y q1.2)) (rv := some (.int q1.1)) (bytes := cX10_part) (maxL := 4) (ret := (some .boolean)) (C := RX10) (As := [.int x1, .int x2]) (rest := []) (stk := [.int q1.1]) ⟨hx, hb, hml, hown, hts⟩ hK hE hA hP hD hS (hu_X10_part σ0 r0 hr0 x1 x2 q1 hq1) (cwV 2 hts (gwV wd_466 wd_468 wp_7 wd_4 wd_469) rfl rfl rfl hd_X10_part ⟨by show 40 + d + 1 ≤ 40 + (d + 1); omega, by show 8 + (4 + 11) + (924 + d * 23) ≤ 924 + (d + 1) * 23; omega⟩) (hg_Rd G Z Y σ0 hr0) rfl rfl rfl hl.1 rfl (Nat.le_of_ble_eq_true rfl) dX10_condition_3 ⟨Nat.zero_le _, Nat.zero_le _⟩ rfl (fun H locs hP hD hS => ?_)
  refine lv_if_ne (tgt := 11) hx hb dX10_condition_6 (by decide) (fun c2 => ?_) (fun c2 => ?_)
  · skip
    have h := f_f c2 h
    refine lv_sipush (v := 200) hx hb dX10_condition_11 (by decide) ?_
    refine lv_istore_n (lv' := [(3, .int (200 : Int32)), (0, .ref (G.2.1 r0)), (1, .int x1), (2, .int x2)]) hx hb dX10_condition_14 rfl hl (by decide) rfl (fun ls hl => ?_)
    refine W_X10_condition_L15 l D G Z Y F d u_X10_part hu_X10_part σ0 r0 hr0 x1 x2 x1 res C0 hA F q1.2 (200 : Int32) h _ _ _ hP hD hS (lv_sub hl [1, 2, 0] rfl)
  · skip
    have h := f_t c2 h
    refine lv_iconst (v := 0) hx hb dX10_condition_9 (by decide) ?_
    obtain rfl := Option.some.inj h
    exact W.zret (v := (0 : Int32)) hx hb hr rfl (q_end hK hP hD hS) hS.2.2 dX10_condition_10
set_option maxRecDepth 100000 in
set_option maxHeartbeats 8000000 in
theorem W_X10_part_L15 {p : Program} {e : Env} {s : State} {m : MethodId} {args : Array Value} {below : List Frame} {meth : Method} {c : Code} {A : Nat → Prop} (l : Launch) (D : va_G) (G : hG) (Z : hZ) (Y : va_W) (F : Nat) (d : Nat) (u_X10_unit : (hSt → Nat → Int32 → Int32 → Option (Int32 × hSt))) (hu_X10_unit : ∀ (σ0 : hSt) (r0 : Nat) (hr0 : isRd r0 = true) (x1 : Int32) (x2 : Int32) (res : (Int32 × hSt)), u_X10_unit σ0 r0 x1 x2 = some res → CT l yX10_unit cX10_unit 4 (some .boolean) (rmG_X10c d) D G 0 0 [.ref (G.2.1 r0), .int x1, .int x2] (hW G Z Y σ0) (hW G Z Y res.2) (some (.int res.1))) (σ0 : hSt) (r0 : Nat) (hr0 : isRd r0 = true) (x1 : Int32) (x2 : Int32) (y1 : Int32) (res : (Int32 × hSt)) (C0 : Cx p s m args meth c cX10_part (some .boolean) RX10 4 D G A) (hA : ∀ q : Nat, s.heap.size ≤ q → A q) : ∀ (n : Nat) (σ1 : hSt) (z3 : Int32), f_X10_part_L15 F Z u_X10_unit r0 y1 n σ1 z3 = some res → ∀ (H : Heap) (locs : List Loc) (ls : Array Slot), va_P D vwCl (hW G Z Y σ1) H → va_D A (hW G Z Y σ1) → va_S A s.heap H locs → lv_has ls 4 [(0, .ref (G.2.1 r0)), (1, .int y1), (3, .int z3)] → W p l e (rmG_X10c (d + 1)) s m args below meth c H locs 0 0 (MQ below (Qg (some (.int res.1)) D (tysG G) (hW G Z Y res.2) A) args s 0 0 A) (F0 m 15 ls []) := by
  obtain ⟨hx, hb, hr, hml, hown, hts, hlocks, hK, hE⟩ := id C0
  intro n
  induction n with
  | zero =>
    intro σ1 z3 h
    cases h
  | succ n ih =>
    intro σ1 z3 h H locs ls hP hD hS hl
    rw [f_X10_part_L15] at h
    refine lv_iload_n hx hb dX10_part_15 rfl (lv_at hl 2 rfl) ?_
    refine lv_if_le (tgt := 58) hx hb dX10_part_16 (by decide) (fun c3 => ?_) (fun c3 => ?_)
    · skip
      have h := f_t c3 h
      refine lv_iconst (v := 1) hx hb dX10_part_58 (by decide) ?_
      obtain rfl := Option.some.inj h
      exact W.zret (v := (1 : Int32)) hx hb hr rfl (q_end hK hP hD hS) hS.2.2 dX10_part_59
    · skip
      have h := f_f c3 h
      refine lv_aload_n hx hb dX10_part_19 rfl (lv_at hl 0 rfl) ?_
      refine va_get (D := D) (ci := 10) (v := .ref (G.2.1 1)) (C := RX10) (T := TX10) (N := 3) hx hb hts inU_X10 hown hK hP _ (hg_Rd G Z Y σ1 hr0) rfl 0 (by decide) (hts _ wd_88) (fun _ h9 => h9) rfl dX10_part_20 ?_
      refine lv_bipush (v := 38) hx hb dX10_part_23 (by decide) ?_
      obtain ⟨q4, hq4, h⟩ := f_b h
      refine cl_V (w := (hW G Z Y σ1)) (w' := (hW G Z Y q4.2)) (rv := some (.int q4.1)) (bytes := cX8_take) (maxL := 2) (ret := (some .boolean)) (C := RX8) (As := [.int (38 : Int32)]) (rest := []) (stk := [.int q4.1]) ⟨hx, hb, hml, hown, hts⟩ hK hE hA hP hD hS (c_X8_take l D G Z Y σ1 F (38 : Int32) q4 hq4) (cwV 1 hts (gwV wd_509 wd_352 wd_353 wd_2 wd_354) rfl rfl rfl hd_X8_take ⟨by show 2 + 1 ≤ 40 + (d + 1); omega, by show 8 + (2 + 11) + 51 ≤ 924 + (d + 1) * 23; omega⟩) (hg_1 G Z Y σ1) rfl rfl rfl hl.1 rfl (Nat.le_of_ble_eq_true rfl) dX10_part_25 ⟨Nat.zero_le _, Nat.zero_le _⟩ rfl (fun H locs hP hD hS => ?_)
      refine lv_if_eq (tgt := 58) hx hb dX10_part_28 (by decide) (fun c5 => ?_) (fun c5 => ?_)
      · skip
        have h := f_t c5 h
        refine lv_iconst (v := 1) hx hb dX10_part_58 (by decide) ?_
        obtain rfl := Option.some.inj h
        exact W.zret (v := (1 : Int32)) hx hb hr rfl (q_end hK hP hD hS) hS.2.2 dX10_part_59
      · skip
        have h := f_f c5 h
        refine lv_aload_n hx hb dX10_part_31 rfl (lv_at hl 0 rfl) ?_
        refine lv_iload_n hx hb dX10_part_32 rfl (lv_at hl 1 rfl) ?_
        refine lv_iconst (v := 0) hx hb dX10_part_33 (by decide) ?_
        obtain ⟨q6, hq6, h⟩ := f_b h
        refine cl_V (w := (hW G Z Y q4.2)) (w' := (hW G Z Y q6.2)) (rv := some (.int q6.1)) (bytes := cX10_unit) (maxL := 4) (ret := (some .boolean)) (C := RX10) (As := [.int y1, .int (0 : Int32)]) (rest := []) (stk := [.int q6.1]) ⟨hx, hb, hml, hown, hts⟩ hK hE hA hP hD hS (hu_X10_unit q4.2 r0 hr0 y1 (0 : Int32) q6 hq6) (cwV 2 hts (gwV wd_470 wd_472 wp_8 wd_4 wd_473) rfl rfl rfl hd_X10_unit ⟨by show 40 + d + 1 ≤ 40 + (d + 1); omega, by show 8 + (4 + 11) + (924 + d * 23) ≤ 924 + (d + 1) * 23; omega⟩) (hg_Rd G Z Y q4.2 hr0) rfl rfl rfl hl.1 rfl (Nat.le_of_ble_eq_true rfl) dX10_part_34 ⟨Nat.zero_le _, Nat.zero_le _⟩ rfl (fun H locs hP hD hS => ?_)
        refine lv_if_ne (tgt := 42) hx hb dX10_part_37 (by decide) (fun c7 => ?_) (fun c7 => ?_)
        · skip
          have h := f_f c7 h
          refine lv_aload_n hx hb dX10_part_42 rfl (lv_at hl 0 rfl) ?_
          refine va_get (D := D) (ci := 10) (v := .ref (G.2.1 1)) (C := RX10) (T := TX10) (N := 3) hx hb hts inU_X10 hown hK hP _ (hg_Rd G Z Y q6.2 hr0) rfl 0 (by decide) (hts _ wd_88) (fun _ h9 => h9) rfl dX10_part_43 ?_
          refine lv_sipush (v := 20038) hx hb dX10_part_46 (by decide) ?_
          obtain ⟨q8, hq8, h⟩ := f_b h
          refine cl_V (w := (hW G Z Y q6.2)) (w' := (hW G Z Y q8.2)) (rv := none) (bytes := cX8_write) (maxL := 2) (ret := none) (C := RX8) (As := [.int (20038 : Int32)]) (rest := []) (stk := []) ⟨hx, hb, hml, hown, hts⟩ hK hE hA hP hD hS (c_X8_write l D G Z Y q6.2 (20038 : Int32) q8 hq8) (cwV 1 hts (gwV wd_456 wd_344 wd_345 wd_2 wd_346) rfl rfl rfl hd_X8_write ⟨by show 0 + 1 ≤ 40 + (d + 1); omega, by show 8 + (2 + 11) + 0 ≤ 924 + (d + 1) * 23; omega⟩) (hg_1 G Z Y q6.2) rfl rfl rfl hl.1 rfl (Nat.le_of_ble_eq_true rfl) dX10_part_49 ⟨Nat.zero_le _, Nat.zero_le _⟩ rfl (fun H locs hP hD hS => ?_)
          refine lv_iinc (v := (z3 + (-1 : Int32))) (lv' := [(3, .int (z3 + (-1 : Int32))), (0, .ref (G.2.1 r0)), (1, .int y1)]) hx hb dX10_part_52 hl (k := 2) rfl rfl (by decide) rfl (fun ls hl => ?_)
          refine lv_goto (tgt := 15) hx hb dX10_part_55 (by decide) ?_
          exact ih q8.2 (z3 + (-1 : Int32)) h _ _ _ hP hD hS (lv_sub hl [1, 2, 0] rfl)
        · skip
          have h := f_t c7 h
          refine lv_iconst (v := 0) hx hb dX10_part_40 (by decide) ?_
          obtain rfl := Option.some.inj h
          exact W.zret (v := (0 : Int32)) hx hb hr rfl (q_end hK hP hD hS) hS.2.2 dX10_part_41
set_option maxRecDepth 100000 in
set_option maxHeartbeats 8000000 in
theorem o_X10_part (l : Launch) (D : va_G) (G : hG) (Z : hZ) (Y : va_W) (F : Nat) (d : Nat) (u_X10_unit : (hSt → Nat → Int32 → Int32 → Option (Int32 × hSt))) (hu_X10_unit : ∀ (σ0 : hSt) (r0 : Nat) (hr0 : isRd r0 = true) (x1 : Int32) (x2 : Int32) (res : (Int32 × hSt)), u_X10_unit σ0 r0 x1 x2 = some res → CT l yX10_unit cX10_unit 4 (some .boolean) (rmG_X10c d) D G 0 0 [.ref (G.2.1 r0), .int x1, .int x2] (hW G Z Y σ0) (hW G Z Y res.2) (some (.int res.1))) (σ0 : hSt) (r0 : Nat) (hr0 : isRd r0 = true) (x1 : Int32) (x2 : Int32) (res : (Int32 × hSt)) (h : b_X10_part F Z u_X10_unit σ0 r0 x1 x2 = some res) : CT l yX10_part cX10_part 4 (some .boolean) (rmG_X10c (d + 1)) D G 0 0 [.ref (G.2.1 r0), .int x1, .int x2] (hW G Z Y σ0) (hW G Z Y res.2) (some (.int res.1)) := by
  unfold b_X10_part at h
  refine CT.mk (cc := cX10_part) (maxL := 4) (ret := (some .boolean)) (own := RX10) (plainFor_of_name (by decide)) rfl (Nat.le_of_ble_eq_true rfl) ?_
  intro p e s m args below meth c A ls C0 hnm hA hP hD hl
  obtain ⟨hx, hb, hr, hml, hown, hts, hlocks, hK, hE⟩ := id C0
  have hS : va_S A s.heap s.heap [] := va_S.rf
  have hl : lv_has ls 4 [(0, .ref (G.2.1 r0)), (1, .int x1), (2, .int x2)] := hl
  refine lv_aload_n hx hb dX10_part_0 rfl (lv_at hl 0 rfl) ?_
  refine lv_iload_n hx hb dX10_part_1 rfl (lv_at hl 1 rfl) ?_
  refine lv_iload_n hx hb dX10_part_2 rfl (lv_at hl 2 rfl) ?_
  obtain ⟨q1, hq1, h⟩ := f_b h
  refine cl_V (w := (hW G Z Y σ0)) (w' := (hW G Z Y q1.2)) (rv := some (.int q1.1)) (bytes := cX10_unit) (maxL := 4) (ret := (some .boolean)) (C := RX10) (As := [.int x1, .int x2]) (rest := []) (stk := [.int q1.1]) ⟨hx, hb, hml, hown, hts⟩ hK hE hA hP hD hS (hu_X10_unit σ0 r0 hr0 x1 x2 q1 hq1) (cwV 2 hts (gwV wd_470 wd_472 wp_8 wd_4 wd_473) rfl rfl rfl hd_X10_unit ⟨by show 40 + d + 1 ≤ 40 + (d + 1); omega, by show 8 + (4 + 11) + (924 + d * 23) ≤ 924 + (d + 1) * 23; omega⟩) (hg_Rd G Z Y σ0 hr0) rfl rfl rfl hl.1 rfl (Nat.le_of_ble_eq_true rfl) dX10_part_3 ⟨Nat.zero_le _, Nat.zero_le _⟩ rfl (fun H locs hP hD hS => ?_)
  refine lv_if_ne (tgt := 11) hx hb dX10_part_6 (by decide) (fun c2 => ?_) (fun c2 => ?_)
  · skip
    have h := f_f c2 h
    refine lv_sipush (v := 200) hx hb dX10_part_11 (by decide) ?_
    refine lv_istore_n (lv' := [(3, .int (200 : Int32)), (0, .ref (G.2.1 r0)), (1, .int x1), (2, .int x2)]) hx hb dX10_part_14 rfl hl (by decide) rfl (fun ls hl => ?_)
    refine W_X10_part_L15 l D G Z Y F d u_X10_unit hu_X10_unit σ0 r0 hr0 x1 x2 x1 res C0 hA F q1.2 (200 : Int32) h _ _ _ hP hD hS (lv_sub hl [1, 2, 0] rfl)
  · skip
    have h := f_t c2 h
    refine lv_iconst (v := 0) hx hb dX10_part_9 (by decide) ?_
    obtain rfl := Option.some.inj h
    exact W.zret (v := (0 : Int32)) hx hb hr rfl (q_end hK hP hD hS) hS.2.2 dX10_part_10
set_option maxRecDepth 100000 in
set_option maxHeartbeats 8000000 in
theorem o_X10_unit (l : Launch) (D : va_G) (G : hG) (Z : hZ) (Y : va_W) (F : Nat) (d : Nat) (u_X10_inner : (hSt → Nat → Int32 → Int32 → Option (Int32 × hSt))) (hu_X10_inner : ∀ (σ0 : hSt) (r0 : Nat) (hr0 : isRd r0 = true) (x1 : Int32) (x2 : Int32) (res : (Int32 × hSt)), u_X10_inner σ0 r0 x1 x2 = some res → CT l yX10_inner cX10_inner 3 (some .boolean) (rmG_X10c d) D G 0 0 [.ref (G.2.1 r0), .int x1, .int x2] (hW G Z Y σ0) (hW G Z Y res.2) (some (.int res.1))) (σ0 : hSt) (r0 : Nat) (hr0 : isRd r0 = true) (x1 : Int32) (x2 : Int32) (res : (Int32 × hSt)) (h : b_X10_unit F Z u_X10_inner σ0 r0 x1 x2 = some res) : CT l yX10_unit cX10_unit 4 (some .boolean) (rmG_X10c (d + 1)) D G 0 0 [.ref (G.2.1 r0), .int x1, .int x2] (hW G Z Y σ0) (hW G Z Y res.2) (some (.int res.1)) := by
  unfold b_X10_unit at h
  refine CT.mk (cc := cX10_unit) (maxL := 4) (ret := (some .boolean)) (own := RX10) (plainFor_of_name (by decide)) rfl (Nat.le_of_ble_eq_true rfl) ?_
  intro p e s m args below meth c A ls C0 hnm hA hP hD hl
  obtain ⟨hx, hb, hr, hml, hown, hts, hlocks, hK, hE⟩ := id C0
  have hS : va_S A s.heap s.heap [] := va_S.rf
  have hl : lv_has ls 4 [(0, .ref (G.2.1 r0)), (1, .int x1), (2, .int x2)] := hl
  refine lv_iload_n hx hb dX10_unit_0 rfl (lv_at hl 2 rfl) ?_
  refine lv_if_eq (tgt := 10) hx hb dX10_unit_1 (by decide) (fun c1 => ?_) (fun c1 => ?_)
  · skip
    have h := f_t c1 h
    refine lv_aload_n hx hb dX10_unit_10 rfl (lv_at hl 0 rfl) ?_
    refine va_get (D := D) (ci := 10) (v := .ref (G.2.1 1)) (C := RX10) (T := TX10) (N := 3) hx hb hts inU_X10 hown hK hP _ (hg_Rd G Z Y σ0 hr0) rfl 0 (by decide) (hts _ wd_88) (fun _ h9 => h9) rfl dX10_unit_11 ?_
    obtain ⟨q2, hq2, h⟩ := f_b h
    refine cl_V (w := (hW G Z Y σ0)) (w' := (hW G Z Y q2.2)) (rv := some (.int q2.1)) (bytes := cX8_next) (maxL := 2) (ret := (some .int)) (C := RX8) (As := []) (rest := []) (stk := [.int q2.1]) ⟨hx, hb, hml, hown, hts⟩ hK hE hA hP hD hS (c_X8_next l D G Z Y σ0 F q2 hq2) (cwV 0 hts (gwV wd_369 wd_324 wd_325 wd_2 wd_326) rfl rfl rfl hd_X8_next ⟨by show 1 + 1 ≤ 40 + (d + 1); omega, by show 8 + (2 + 11) + 30 ≤ 924 + (d + 1) * 23; omega⟩) (hg_1 G Z Y σ0) rfl rfl rfl hl.1 rfl (Nat.le_of_ble_eq_true rfl) dX10_unit_14 ⟨Nat.zero_le _, Nat.zero_le _⟩ rfl (fun H locs hP hD hS => ?_)
    refine lv_istore_n (lv' := [(3, .int q2.1), (0, .ref (G.2.1 r0)), (1, .int x1), (2, .int x2)]) hx hb dX10_unit_17 rfl hl (by decide) rfl (fun ls hl => ?_)
    refine lv_iload_n hx hb dX10_unit_18 rfl (lv_at hl 0 rfl) ?_
    refine lv_bipush (v := 33) hx hb dX10_unit_19 (by decide) ?_
    refine lv_icmp_eq (tgt := 30) hx hb dX10_unit_21 (by decide) (fun c3 => ?_) (fun c3 => ?_)
    · skip
      have h := f_t c3 h
      refine lv_iload_n hx hb dX10_unit_30 rfl (lv_at hl 2 rfl) ?_
      refine lv_bipush (v := 6) hx hb dX10_unit_31 (by decide) ?_
      refine lv_icmp_ge (tgt := 47) hx hb dX10_unit_33 (by decide) (fun c4 => ?_) (fun c4 => ?_)
      · skip
        have h := f_t c4 h
        refine lv_aload_n hx hb dX10_unit_47 rfl (lv_at hl 1 rfl) ?_
        refine va_get (D := D) (ci := 10) (v := .ref (G.2.1 1)) (C := RX10) (T := TX10) (N := 3) hx hb hts inU_X10 hown hK hP _ (hg_Rd G Z Y q2.2 hr0) rfl 0 (by decide) (hts _ wd_88) (fun _ h9 => h9) rfl dX10_unit_48 ?_
        obtain ⟨q5, hq5, h⟩ := f_b h
        refine cl_V (w := (hW G Z Y q2.2)) (w' := (hW G Z Y q5.2)) (rv := some (.int q5.1)) (bytes := cX8_fail) (maxL := 1) (ret := (some .boolean)) (C := RX8) (As := []) (rest := []) (stk := [.int q5.1]) ⟨hx, hb, hml, hown, hts⟩ hK hE hA hP hD hS (c_X8_fail l D G Z Y q2.2 q5 hq5) (cwV 0 hts (gwV wd_454 wd_348 wd_349 wd_2 wd_350) rfl rfl rfl hd_X8_fail ⟨by show 0 + 1 ≤ 40 + (d + 1); omega, by show 8 + (1 + 11) + 0 ≤ 924 + (d + 1) * 23; omega⟩) (hg_1 G Z Y q2.2) rfl rfl rfl hl.1 rfl (Nat.le_of_ble_eq_true rfl) dX10_unit_51 ⟨Nat.zero_le _, Nat.zero_le _⟩ rfl (fun H locs hP hD hS => ?_)
        obtain ⟨c6, h⟩ := f_c h
        obtain rfl := Option.some.inj h
        exact W.zret (v := q5.1) hx hb hr (bn c6) (q_end hK hP hD hS) hS.2.2 dX10_unit_54
      · skip
        have h := f_f c4 h
        refine lv_aload_n hx hb dX10_unit_36 rfl (lv_at hl 1 rfl) ?_
        refine lv_iload_n hx hb dX10_unit_37 rfl (lv_at hl 0 rfl) ?_
        refine lv_iload_n hx hb dX10_unit_38 rfl (lv_at hl 2 rfl) ?_
        refine lv_iconst (v := 1) hx hb dX10_unit_39 (by decide) ?_
        refine lv_iadd hx hb dX10_unit_40 ?_
        obtain ⟨q7, hq7, h⟩ := f_b h
        refine cl_V (w := (hW G Z Y q2.2)) (w' := (hW G Z Y q7.2)) (rv := some (.int q7.1)) (bytes := cX10_inner) (maxL := 3) (ret := (some .boolean)) (C := RX10) (As := [.int q2.1, .int (x1 + (1 : Int32))]) (rest := []) (stk := [.int q7.1]) ⟨hx, hb, hml, hown, hts⟩ hK hE hA hP hD hS (hu_X10_inner q2.2 r0 hr0 q2.1 (x1 + (1 : Int32)) q7 hq7) (cwV 2 hts (gwV wd_505 wd_507 wp_14 wd_4 wd_508) rfl rfl rfl hd_X10_inner ⟨by show 40 + d + 1 ≤ 40 + (d + 1); omega, by show 8 + (3 + 11) + (924 + d * 23) ≤ 924 + (d + 1) * 23; omega⟩) (hg_Rd G Z Y q2.2 hr0) rfl rfl rfl hl.1 rfl (Nat.le_of_ble_eq_true rfl) dX10_unit_41 ⟨Nat.zero_le _, Nat.zero_le _⟩ rfl (fun H locs hP hD hS => ?_)
        refine lv_goto (tgt := 54) hx hb dX10_unit_44 (by decide) ?_
        obtain ⟨c8, h⟩ := f_c h
        obtain rfl := Option.some.inj h
        exact W.zret (v := q7.1) hx hb hr (bn c8) (q_end hK hP hD hS) hS.2.2 dX10_unit_54
    · skip
      have h := f_f c3 h
      refine lv_iload_n hx hb dX10_unit_24 rfl (lv_at hl 0 rfl) ?_
      refine lv_bipush (v := 40) hx hb dX10_unit_25 (by decide) ?_
      refine lv_icmp_ne (tgt := 55) hx hb dX10_unit_27 (by decide) (fun c9 => ?_) (fun c9 => ?_)
      · skip
        have h := f_f c9 h
        refine lv_aload_n hx hb dX10_unit_55 rfl (lv_at hl 1 rfl) ?_
        refine lv_iload_n hx hb dX10_unit_56 rfl (lv_at hl 2 rfl) ?_
        obtain ⟨q10, hq10, h⟩ := f_b h
        refine cl_V (w := (hW G Z Y q2.2)) (w' := (hW G Z Y q10.2)) (rv := some (.int q10.1)) (bytes := cX10_total) (maxL := 4) (ret := (some .boolean)) (C := RX10) (As := [.int x1]) (rest := []) (stk := [.int q10.1]) ⟨hx, hb, hml, hown, hts⟩ hK hE hA hP hD hS (c_X10_total l D G Z Y q2.2 F r0 hr0 x1 q10 hq10) (cwV 1 hts (gwV wd_481 wd_483 wp_10 wd_4 wd_484) rfl rfl rfl hd_X10_total ⟨by show 38 + 1 ≤ 40 + (d + 1); omega, by show 8 + (4 + 11) + 879 ≤ 924 + (d + 1) * 23; omega⟩) (hg_Rd G Z Y q2.2 hr0) rfl rfl rfl hl.1 rfl (Nat.le_of_ble_eq_true rfl) dX10_unit_57 ⟨Nat.zero_le _, Nat.zero_le _⟩ rfl (fun H locs hP hD hS => ?_)
        refine lv_if_eq (tgt := 75) hx hb dX10_unit_60 (by decide) (fun c11 => ?_) (fun c11 => ?_)
        · skip
          have h := f_t c11 h
          refine lv_iconst (v := 0) hx hb dX10_unit_75 (by decide) ?_
          obtain rfl := Option.some.inj h
          exact W.zret (v := (0 : Int32)) hx hb hr rfl (q_end hK hP hD hS) hS.2.2 dX10_unit_76
        · skip
          have h := f_f c11 h
          refine lv_aload_n hx hb dX10_unit_63 rfl (lv_at hl 1 rfl) ?_
          refine lv_iload_n hx hb dX10_unit_64 rfl (lv_at hl 2 rfl) ?_
          obtain ⟨q12, hq12, h⟩ := f_b h
          refine cl_V (w := (hW G Z Y q10.2)) (w' := (hW G Z Y q12.2)) (rv := some (.int q12.1)) (bytes := cX10_comparison) (maxL := 3) (ret := (some .boolean)) (C := RX10) (As := [.int x1]) (rest := []) (stk := [.int q12.1]) ⟨hx, hb, hml, hown, hts⟩ hK hE hA hP hD hS (c_X10_comparison l D G Z Y q10.2 F r0 hr0 x1 q12 hq12) (cwV 1 hts (gwV wd_474 wd_476 wp_9 wd_4 wd_477) rfl rfl rfl hd_X10_comparison ⟨by show 39 + 1 ≤ 40 + (d + 1); omega, by show 8 + (3 + 11) + 902 ≤ 924 + (d + 1) * 23; omega⟩) (hg_Rd G Z Y q10.2 hr0) rfl rfl rfl hl.1 rfl (Nat.le_of_ble_eq_true rfl) dX10_unit_65 ⟨Nat.zero_le _, Nat.zero_le _⟩ rfl (fun H locs hP hD hS => ?_)
          refine lv_if_eq (tgt := 75) hx hb dX10_unit_68 (by decide) (fun c13 => ?_) (fun c13 => ?_)
          · skip
            have h := f_t c13 h
            refine lv_iconst (v := 0) hx hb dX10_unit_75 (by decide) ?_
            obtain rfl := Option.some.inj h
            exact W.zret (v := (0 : Int32)) hx hb hr rfl (q_end hK hP hD hS) hS.2.2 dX10_unit_76
          · skip
            have h := f_f c13 h
            refine lv_iconst (v := 1) hx hb dX10_unit_71 (by decide) ?_
            refine lv_goto (tgt := 76) hx hb dX10_unit_72 (by decide) ?_
            obtain rfl := Option.some.inj h
            exact W.zret (v := (1 : Int32)) hx hb hr rfl (q_end hK hP hD hS) hS.2.2 dX10_unit_76
      · skip
        have h := f_t c9 h
        refine lv_iload_n hx hb dX10_unit_30 rfl (lv_at hl 2 rfl) ?_
        refine lv_bipush (v := 6) hx hb dX10_unit_31 (by decide) ?_
        refine lv_icmp_ge (tgt := 47) hx hb dX10_unit_33 (by decide) (fun c14 => ?_) (fun c14 => ?_)
        · skip
          have h := f_t c14 h
          refine lv_aload_n hx hb dX10_unit_47 rfl (lv_at hl 1 rfl) ?_
          refine va_get (D := D) (ci := 10) (v := .ref (G.2.1 1)) (C := RX10) (T := TX10) (N := 3) hx hb hts inU_X10 hown hK hP _ (hg_Rd G Z Y q2.2 hr0) rfl 0 (by decide) (hts _ wd_88) (fun _ h9 => h9) rfl dX10_unit_48 ?_
          obtain ⟨q15, hq15, h⟩ := f_b h
          refine cl_V (w := (hW G Z Y q2.2)) (w' := (hW G Z Y q15.2)) (rv := some (.int q15.1)) (bytes := cX8_fail) (maxL := 1) (ret := (some .boolean)) (C := RX8) (As := []) (rest := []) (stk := [.int q15.1]) ⟨hx, hb, hml, hown, hts⟩ hK hE hA hP hD hS (c_X8_fail l D G Z Y q2.2 q15 hq15) (cwV 0 hts (gwV wd_454 wd_348 wd_349 wd_2 wd_350) rfl rfl rfl hd_X8_fail ⟨by show 0 + 1 ≤ 40 + (d + 1); omega, by show 8 + (1 + 11) + 0 ≤ 924 + (d + 1) * 23; omega⟩) (hg_1 G Z Y q2.2) rfl rfl rfl hl.1 rfl (Nat.le_of_ble_eq_true rfl) dX10_unit_51 ⟨Nat.zero_le _, Nat.zero_le _⟩ rfl (fun H locs hP hD hS => ?_)
          obtain ⟨c16, h⟩ := f_c h
          obtain rfl := Option.some.inj h
          exact W.zret (v := q15.1) hx hb hr (bn c16) (q_end hK hP hD hS) hS.2.2 dX10_unit_54
        · skip
          have h := f_f c14 h
          refine lv_aload_n hx hb dX10_unit_36 rfl (lv_at hl 1 rfl) ?_
          refine lv_iload_n hx hb dX10_unit_37 rfl (lv_at hl 0 rfl) ?_
          refine lv_iload_n hx hb dX10_unit_38 rfl (lv_at hl 2 rfl) ?_
          refine lv_iconst (v := 1) hx hb dX10_unit_39 (by decide) ?_
          refine lv_iadd hx hb dX10_unit_40 ?_
          obtain ⟨q17, hq17, h⟩ := f_b h
          refine cl_V (w := (hW G Z Y q2.2)) (w' := (hW G Z Y q17.2)) (rv := some (.int q17.1)) (bytes := cX10_inner) (maxL := 3) (ret := (some .boolean)) (C := RX10) (As := [.int q2.1, .int (x1 + (1 : Int32))]) (rest := []) (stk := [.int q17.1]) ⟨hx, hb, hml, hown, hts⟩ hK hE hA hP hD hS (hu_X10_inner q2.2 r0 hr0 q2.1 (x1 + (1 : Int32)) q17 hq17) (cwV 2 hts (gwV wd_505 wd_507 wp_14 wd_4 wd_508) rfl rfl rfl hd_X10_inner ⟨by show 40 + d + 1 ≤ 40 + (d + 1); omega, by show 8 + (3 + 11) + (924 + d * 23) ≤ 924 + (d + 1) * 23; omega⟩) (hg_Rd G Z Y q2.2 hr0) rfl rfl rfl hl.1 rfl (Nat.le_of_ble_eq_true rfl) dX10_unit_41 ⟨Nat.zero_le _, Nat.zero_le _⟩ rfl (fun H locs hP hD hS => ?_)
          refine lv_goto (tgt := 54) hx hb dX10_unit_44 (by decide) ?_
          obtain ⟨c18, h⟩ := f_c h
          obtain rfl := Option.some.inj h
          exact W.zret (v := q17.1) hx hb hr (bn c18) (q_end hK hP hD hS) hS.2.2 dX10_unit_54
  · skip
    have h := f_f c1 h
    refine lv_aload_n hx hb dX10_unit_4 rfl (lv_at hl 0 rfl) ?_
    refine lv_iload_n hx hb dX10_unit_5 rfl (lv_at hl 1 rfl) ?_
    obtain ⟨q19, hq19, h⟩ := f_b h
    refine cl_V (w := (hW G Z Y σ0)) (w' := (hW G Z Y q19.2)) (rv := some (.int q19.1)) (bytes := cX10_comparison) (maxL := 3) (ret := (some .boolean)) (C := RX10) (As := [.int x1]) (rest := []) (stk := [.int q19.1]) ⟨hx, hb, hml, hown, hts⟩ hK hE hA hP hD hS (c_X10_comparison l D G Z Y σ0 F r0 hr0 x1 q19 hq19) (cwV 1 hts (gwV wd_474 wd_476 wp_9 wd_4 wd_477) rfl rfl rfl hd_X10_comparison ⟨by show 39 + 1 ≤ 40 + (d + 1); omega, by show 8 + (3 + 11) + 902 ≤ 924 + (d + 1) * 23; omega⟩) (hg_Rd G Z Y σ0 hr0) rfl rfl rfl hl.1 rfl (Nat.le_of_ble_eq_true rfl) dX10_unit_6 ⟨Nat.zero_le _, Nat.zero_le _⟩ rfl (fun H locs hP hD hS => ?_)
    obtain ⟨c20, h⟩ := f_c h
    obtain rfl := Option.some.inj h
    exact W.zret (v := q19.1) hx hb hr (bn c20) (q_end hK hP hD hS) hS.2.2 dX10_unit_9
set_option maxRecDepth 100000 in
set_option maxHeartbeats 8000000 in
theorem o_X10_inner (l : Launch) (D : va_G) (G : hG) (Z : hZ) (Y : va_W) (F : Nat) (d : Nat) (u_X10_condition : (hSt → Nat → Int32 → Int32 → Option (Int32 × hSt))) (hu_X10_condition : ∀ (σ0 : hSt) (r0 : Nat) (hr0 : isRd r0 = true) (x1 : Int32) (x2 : Int32) (res : (Int32 × hSt)), u_X10_condition σ0 r0 x1 x2 = some res → CT l yX10_condition cX10_condition 4 (some .boolean) (rmG_X10c d) D G 0 0 [.ref (G.2.1 r0), .int x1, .int x2] (hW G Z Y σ0) (hW G Z Y res.2) (some (.int res.1))) (u_X10_unit : (hSt → Nat → Int32 → Int32 → Option (Int32 × hSt))) (hu_X10_unit : ∀ (σ0 : hSt) (r0 : Nat) (hr0 : isRd r0 = true) (x1 : Int32) (x2 : Int32) (res : (Int32 × hSt)), u_X10_unit σ0 r0 x1 x2 = some res → CT l yX10_unit cX10_unit 4 (some .boolean) (rmG_X10c d) D G 0 0 [.ref (G.2.1 r0), .int x1, .int x2] (hW G Z Y σ0) (hW G Z Y res.2) (some (.int res.1))) (σ0 : hSt) (r0 : Nat) (hr0 : isRd r0 = true) (x1 : Int32) (x2 : Int32) (res : (Int32 × hSt)) (h : b_X10_inner F Z u_X10_condition u_X10_unit σ0 r0 x1 x2 = some res) : CT l yX10_inner cX10_inner 3 (some .boolean) (rmG_X10c (d + 1)) D G 0 0 [.ref (G.2.1 r0), .int x1, .int x2] (hW G Z Y σ0) (hW G Z Y res.2) (some (.int res.1)) := by
  unfold b_X10_inner at h
  refine CT.mk (cc := cX10_inner) (maxL := 3) (ret := (some .boolean)) (own := RX10) (plainFor_of_name (by decide)) rfl (Nat.le_of_ble_eq_true rfl) ?_
  intro p e s m args below meth c A ls C0 hnm hA hP hD hl
  obtain ⟨hx, hb, hr, hml, hown, hts, hlocks, hK, hE⟩ := id C0
  have hS : va_S A s.heap s.heap [] := va_S.rf
  have hl : lv_has ls 3 [(0, .ref (G.2.1 r0)), (1, .int x1), (2, .int x2)] := hl
  refine lv_aload_n hx hb dX10_inner_0 rfl (lv_at hl 0 rfl) ?_
  refine va_get (D := D) (ci := 10) (v := .ref (G.2.1 1)) (C := RX10) (T := TX10) (N := 3) hx hb hts inU_X10 hown hK hP _ (hg_Rd G Z Y σ0 hr0) rfl 0 (by decide) (hts _ wd_88) (fun _ h9 => h9) rfl dX10_inner_1 ?_
  obtain ⟨q1, hq1, h⟩ := f_b h
  refine cl_V (w := (hW G Z Y σ0)) (w' := (hW G Z Y q1.2)) (rv := none) (bytes := cX8_step) (maxL := 1) (ret := none) (C := RX8) (As := []) (rest := []) (stk := []) ⟨hx, hb, hml, hown, hts⟩ hK hE hA hP hD hS (c_X8_step l D G Z Y σ0 q1 hq1) (cwV 0 hts (gwV wd_455 wd_335 wd_336 wd_2 wd_337) rfl rfl rfl hd_X8_step ⟨by show 0 + 1 ≤ 40 + (d + 1); omega, by show 8 + (1 + 11) + 0 ≤ 924 + (d + 1) * 23; omega⟩) (hg_1 G Z Y σ0) rfl rfl rfl hl.1 rfl (Nat.le_of_ble_eq_true rfl) dX10_inner_4 ⟨Nat.zero_le _, Nat.zero_le _⟩ rfl (fun H locs hP hD hS => ?_)
  refine lv_iload_n hx hb dX10_inner_7 rfl (lv_at hl 1 rfl) ?_
  refine lv_bipush (v := 40) hx hb dX10_inner_8 (by decide) ?_
  refine lv_icmp_ne (tgt := 40) hx hb dX10_inner_10 (by decide) (fun c2 => ?_) (fun c2 => ?_)
  · skip
    have h := f_f c2 h
    refine lv_aload_n hx hb dX10_inner_40 rfl (lv_at hl 0 rfl) ?_
    refine lv_iload_n hx hb dX10_inner_41 rfl (lv_at hl 2 rfl) ?_
    refine lv_iconst (v := 0) hx hb dX10_inner_42 (by decide) ?_
    obtain ⟨q3, hq3, h⟩ := f_b h
    refine cl_V (w := (hW G Z Y q1.2)) (w' := (hW G Z Y q3.2)) (rv := some (.int q3.1)) (bytes := cX10_unit) (maxL := 4) (ret := (some .boolean)) (C := RX10) (As := [.int x2, .int (0 : Int32)]) (rest := []) (stk := [.int q3.1]) ⟨hx, hb, hml, hown, hts⟩ hK hE hA hP hD hS (hu_X10_unit q1.2 r0 hr0 x2 (0 : Int32) q3 hq3) (cwV 2 hts (gwV wd_470 wd_472 wp_8 wd_4 wd_473) rfl rfl rfl hd_X10_unit ⟨by show 40 + d + 1 ≤ 40 + (d + 1); omega, by show 8 + (4 + 11) + (924 + d * 23) ≤ 924 + (d + 1) * 23; omega⟩) (hg_Rd G Z Y q1.2 hr0) rfl rfl rfl hl.1 rfl (Nat.le_of_ble_eq_true rfl) dX10_inner_43 ⟨Nat.zero_le _, Nat.zero_le _⟩ rfl (fun H locs hP hD hS => ?_)
    refine lv_if_ne (tgt := 51) hx hb dX10_inner_46 (by decide) (fun c4 => ?_) (fun c4 => ?_)
    · skip
      have h := f_f c4 h
      refine lv_aload_n hx hb dX10_inner_51 rfl (lv_at hl 0 rfl) ?_
      refine va_get (D := D) (ci := 10) (v := .ref (G.2.1 1)) (C := RX10) (T := TX10) (N := 3) hx hb hts inU_X10 hown hK hP _ (hg_Rd G Z Y q3.2 hr0) rfl 0 (by decide) (hts _ wd_88) (fun _ h9 => h9) rfl dX10_inner_52 ?_
      refine lv_sipush (v := 20033) hx hb dX10_inner_55 (by decide) ?_
      obtain ⟨q5, hq5, h⟩ := f_b h
      refine cl_V (w := (hW G Z Y q3.2)) (w' := (hW G Z Y q5.2)) (rv := none) (bytes := cX8_write) (maxL := 2) (ret := none) (C := RX8) (As := [.int (20033 : Int32)]) (rest := []) (stk := []) ⟨hx, hb, hml, hown, hts⟩ hK hE hA hP hD hS (c_X8_write l D G Z Y q3.2 (20033 : Int32) q5 hq5) (cwV 1 hts (gwV wd_456 wd_344 wd_345 wd_2 wd_346) rfl rfl rfl hd_X8_write ⟨by show 0 + 1 ≤ 40 + (d + 1); omega, by show 8 + (2 + 11) + 0 ≤ 924 + (d + 1) * 23; omega⟩) (hg_1 G Z Y q3.2) rfl rfl rfl hl.1 rfl (Nat.le_of_ble_eq_true rfl) dX10_inner_58 ⟨Nat.zero_le _, Nat.zero_le _⟩ rfl (fun H locs hP hD hS => ?_)
      refine lv_iconst (v := 1) hx hb dX10_inner_61 (by decide) ?_
      obtain rfl := Option.some.inj h
      exact W.zret (v := (1 : Int32)) hx hb hr rfl (q_end hK hP hD hS) hS.2.2 dX10_inner_62
    · skip
      have h := f_t c4 h
      refine lv_iconst (v := 0) hx hb dX10_inner_49 (by decide) ?_
      obtain rfl := Option.some.inj h
      exact W.zret (v := (0 : Int32)) hx hb hr rfl (q_end hK hP hD hS) hS.2.2 dX10_inner_50
  · skip
    have h := f_t c2 h
    refine lv_aload_n hx hb dX10_inner_13 rfl (lv_at hl 0 rfl) ?_
    refine lv_iload_n hx hb dX10_inner_14 rfl (lv_at hl 2 rfl) ?_
    refine lv_iconst (v := 0) hx hb dX10_inner_15 (by decide) ?_
    obtain ⟨q6, hq6, h⟩ := f_b h
    refine cl_V (w := (hW G Z Y q1.2)) (w' := (hW G Z Y q6.2)) (rv := some (.int q6.1)) (bytes := cX10_condition) (maxL := 4) (ret := (some .boolean)) (C := RX10) (As := [.int x2, .int (0 : Int32)]) (rest := []) (stk := [.int q6.1]) ⟨hx, hb, hml, hown, hts⟩ hK hE hA hP hD hS (hu_X10_condition q1.2 r0 hr0 x2 (0 : Int32) q6 hq6) (cwV 2 hts (gwV wd_462 wd_464 wp_6 wd_4 wd_465) rfl rfl rfl hd_X10_condition ⟨by show 40 + d + 1 ≤ 40 + (d + 1); omega, by show 8 + (4 + 11) + (924 + d * 23) ≤ 924 + (d + 1) * 23; omega⟩) (hg_Rd G Z Y q1.2 hr0) rfl rfl rfl hl.1 rfl (Nat.le_of_ble_eq_true rfl) dX10_inner_16 ⟨Nat.zero_le _, Nat.zero_le _⟩ rfl (fun H locs hP hD hS => ?_)
    refine lv_if_eq (tgt := 38) hx hb dX10_inner_19 (by decide) (fun c7 => ?_) (fun c7 => ?_)
    · skip
      have h := f_t c7 h
      refine lv_iconst (v := 0) hx hb dX10_inner_38 (by decide) ?_
      obtain rfl := Option.some.inj h
      exact W.zret (v := (0 : Int32)) hx hb hr rfl (q_end hK hP hD hS) hS.2.2 dX10_inner_39
    · skip
      have h := f_f c7 h
      refine lv_aload_n hx hb dX10_inner_22 rfl (lv_at hl 0 rfl) ?_
      refine va_get (D := D) (ci := 10) (v := .ref (G.2.1 1)) (C := RX10) (T := TX10) (N := 3) hx hb hts inU_X10 hown hK hP _ (hg_Rd G Z Y q6.2 hr0) rfl 0 (by decide) (hts _ wd_88) (fun _ h9 => h9) rfl dX10_inner_23 ?_
      refine lv_bipush (v := 41) hx hb dX10_inner_26 (by decide) ?_
      obtain ⟨q8, hq8, h⟩ := f_b h
      refine cl_V (w := (hW G Z Y q6.2)) (w' := (hW G Z Y q8.2)) (rv := some (.int q8.1)) (bytes := cX8_expect) (maxL := 2) (ret := (some .boolean)) (C := RX8) (As := [.int (41 : Int32)]) (rest := []) (stk := [.int q8.1]) ⟨hx, hb, hml, hown, hts⟩ hK hE hA hP hD hS (c_X8_expect l D G Z Y q6.2 F (41 : Int32) q8 hq8) (cwV 1 hts (gwV wd_457 wd_339 wd_340 wd_2 wd_341) rfl rfl rfl hd_X8_expect ⟨by show 2 + 1 ≤ 40 + (d + 1); omega, by show 8 + (2 + 11) + 51 ≤ 924 + (d + 1) * 23; omega⟩) (hg_1 G Z Y q6.2) rfl rfl rfl hl.1 rfl (Nat.le_of_ble_eq_true rfl) dX10_inner_28 ⟨Nat.zero_le _, Nat.zero_le _⟩ rfl (fun H locs hP hD hS => ?_)
      refine lv_if_eq (tgt := 38) hx hb dX10_inner_31 (by decide) (fun c9 => ?_) (fun c9 => ?_)
      · skip
        have h := f_t c9 h
        refine lv_iconst (v := 0) hx hb dX10_inner_38 (by decide) ?_
        obtain rfl := Option.some.inj h
        exact W.zret (v := (0 : Int32)) hx hb hr rfl (q_end hK hP hD hS) hS.2.2 dX10_inner_39
      · skip
        have h := f_f c9 h
        refine lv_iconst (v := 1) hx hb dX10_inner_34 (by decide) ?_
        refine lv_goto (tgt := 39) hx hb dX10_inner_35 (by decide) ?_
        obtain rfl := Option.some.inj h
        exact W.zret (v := (1 : Int32)) hx hb hr rfl (q_end hK hP hD hS) hS.2.2 dX10_inner_39
set_option maxRecDepth 100000 in
set_option maxHeartbeats 8000000 in
theorem c_G_X10c (l : Launch) (D : va_G) (G : hG) (Z : hZ) (Y : va_W) (F : Nat) : ∀ d : Nat, (∀ (σ0 : hSt) (r0 : Nat) (hr0 : isRd r0 = true) (x1 : Int32) (x2 : Int32) (res : (Int32 × hSt)), (G_X10c F Z d).1 σ0 r0 x1 x2 = some res → CT l yX10_condition cX10_condition 4 (some .boolean) (rmG_X10c d) D G 0 0 [.ref (G.2.1 r0), .int x1, .int x2] (hW G Z Y σ0) (hW G Z Y res.2) (some (.int res.1))) ∧ (∀ (σ0 : hSt) (r0 : Nat) (hr0 : isRd r0 = true) (x1 : Int32) (x2 : Int32) (res : (Int32 × hSt)), (G_X10c F Z d).2.1 σ0 r0 x1 x2 = some res → CT l yX10_part cX10_part 4 (some .boolean) (rmG_X10c d) D G 0 0 [.ref (G.2.1 r0), .int x1, .int x2] (hW G Z Y σ0) (hW G Z Y res.2) (some (.int res.1))) ∧ (∀ (σ0 : hSt) (r0 : Nat) (hr0 : isRd r0 = true) (x1 : Int32) (x2 : Int32) (res : (Int32 × hSt)), (G_X10c F Z d).2.2.1 σ0 r0 x1 x2 = some res → CT l yX10_unit cX10_unit 4 (some .boolean) (rmG_X10c d) D G 0 0 [.ref (G.2.1 r0), .int x1, .int x2] (hW G Z Y σ0) (hW G Z Y res.2) (some (.int res.1))) ∧ (∀ (σ0 : hSt) (r0 : Nat) (hr0 : isRd r0 = true) (x1 : Int32) (x2 : Int32) (res : (Int32 × hSt)), (G_X10c F Z d).2.2.2 σ0 r0 x1 x2 = some res → CT l yX10_inner cX10_inner 3 (some .boolean) (rmG_X10c d) D G 0 0 [.ref (G.2.1 r0), .int x1, .int x2] (hW G Z Y σ0) (hW G Z Y res.2) (some (.int res.1))) := by
  intro d
  induction d with
  | zero =>
    refine ⟨?_, ?_, ?_, ?_⟩
    · exact fun σ0 r0 hr0 x1 x2 res h => by
        have h1 : (none : Option (Int32 × hSt)) = some res := h
        cases h1
    · exact fun σ0 r0 hr0 x1 x2 res h => by
        have h1 : (none : Option (Int32 × hSt)) = some res := h
        cases h1
    · exact fun σ0 r0 hr0 x1 x2 res h => by
        have h1 : (none : Option (Int32 × hSt)) = some res := h
        cases h1
    · exact fun σ0 r0 hr0 x1 x2 res h => by
        have h1 : (none : Option (Int32 × hSt)) = some res := h
        cases h1
  | succ d ih =>
    obtain ⟨i_X10_condition, i_X10_part, i_X10_unit, i_X10_inner⟩ := ih
    refine ⟨?_, ?_, ?_, ?_⟩
    · exact fun σ0 r0 hr0 x1 x2 res h => o_X10_condition l D G Z Y F d _ i_X10_part σ0 r0 hr0 x1 x2 res h
    · exact fun σ0 r0 hr0 x1 x2 res h => o_X10_part l D G Z Y F d _ i_X10_unit σ0 r0 hr0 x1 x2 res h
    · exact fun σ0 r0 hr0 x1 x2 res h => o_X10_unit l D G Z Y F d _ i_X10_inner σ0 r0 hr0 x1 x2 res h
    · exact fun σ0 r0 hr0 x1 x2 res h => o_X10_inner l D G Z Y F d _ i_X10_condition _ i_X10_unit σ0 r0 hr0 x1 x2 res h
abbrev rm_X10_condition : Room := rmG_X10c 36
theorem c_X10_condition (l : Launch) (D : va_G) (G : hG) (Z : hZ) (Y : va_W) (σ0 : hSt) (F : Nat) (r0 : Nat) (hr0 : isRd r0 = true) (x1 : Int32) (x2 : Int32) (res : (Int32 × hSt)) (h : f_X10_condition F Z σ0 r0 x1 x2 = some res) : CT l yX10_condition cX10_condition 4 (some .boolean) rm_X10_condition D G 0 0 [.ref (G.2.1 r0), .int x1, .int x2] (hW G Z Y σ0) (hW G Z Y res.2) (some (.int res.1)) := (c_G_X10c l D G Z Y F 36).1 σ0 r0 hr0 x1 x2 res h
abbrev rm_X10_part : Room := rmG_X10c 36
theorem c_X10_part (l : Launch) (D : va_G) (G : hG) (Z : hZ) (Y : va_W) (σ0 : hSt) (F : Nat) (r0 : Nat) (hr0 : isRd r0 = true) (x1 : Int32) (x2 : Int32) (res : (Int32 × hSt)) (h : f_X10_part F Z σ0 r0 x1 x2 = some res) : CT l yX10_part cX10_part 4 (some .boolean) rm_X10_part D G 0 0 [.ref (G.2.1 r0), .int x1, .int x2] (hW G Z Y σ0) (hW G Z Y res.2) (some (.int res.1)) := (c_G_X10c l D G Z Y F 36).2.1 σ0 r0 hr0 x1 x2 res h
abbrev rm_X10_unit : Room := rmG_X10c 36
theorem c_X10_unit (l : Launch) (D : va_G) (G : hG) (Z : hZ) (Y : va_W) (σ0 : hSt) (F : Nat) (r0 : Nat) (hr0 : isRd r0 = true) (x1 : Int32) (x2 : Int32) (res : (Int32 × hSt)) (h : f_X10_unit F Z σ0 r0 x1 x2 = some res) : CT l yX10_unit cX10_unit 4 (some .boolean) rm_X10_unit D G 0 0 [.ref (G.2.1 r0), .int x1, .int x2] (hW G Z Y σ0) (hW G Z Y res.2) (some (.int res.1)) := (c_G_X10c l D G Z Y F 36).2.2.1 σ0 r0 hr0 x1 x2 res h
abbrev rm_X10_inner : Room := rmG_X10c 36
theorem c_X10_inner (l : Launch) (D : va_G) (G : hG) (Z : hZ) (Y : va_W) (σ0 : hSt) (F : Nat) (r0 : Nat) (hr0 : isRd r0 = true) (x1 : Int32) (x2 : Int32) (res : (Int32 × hSt)) (h : f_X10_inner F Z σ0 r0 x1 x2 = some res) : CT l yX10_inner cX10_inner 3 (some .boolean) rm_X10_inner D G 0 0 [.ref (G.2.1 r0), .int x1, .int x2] (hW G Z Y σ0) (hW G Z Y res.2) (some (.int res.1)) := (c_G_X10c l D G Z Y F 36).2.2.2 σ0 r0 hr0 x1 x2 res h
abbrev rm_X10_standsAtMark : Room := { frames := 2, cells := 0, slots := 0, locals := 51 }
set_option maxRecDepth 100000 in
set_option maxHeartbeats 8000000 in
theorem c_X10_standsAtMark (l : Launch) (D : va_G) (G : hG) (Z : hZ) (Y : va_W) (σ0 : hSt) (F : Nat) (r0 : Nat) (hr0 : isRd r0 = true) (res : (Int32 × hSt)) (h : f_X10_standsAtMark F Z σ0 r0 = some res) : CT l yX10_standsAtMark cX10_standsAtMark 1 (some .boolean) rm_X10_standsAtMark D G 0 0 [.ref (G.2.1 r0)] (hW G Z Y σ0) (hW G Z Y res.2) (some (.int res.1)) := by
  unfold f_X10_standsAtMark at h
  refine CT.mk (cc := cX10_standsAtMark) (maxL := 1) (ret := (some .boolean)) (own := RX10) (plainFor_of_name (by decide)) rfl (Nat.le_of_ble_eq_true rfl) ?_
  intro p e s m args below meth c A ls C0 hnm hA hP hD hl
  obtain ⟨hx, hb, hr, hml, hown, hts, hlocks, hK, hE⟩ := id C0
  have hS : va_S A s.heap s.heap [] := va_S.rf
  have hl : lv_has ls 1 [(0, .ref (G.2.1 r0))] := hl
  refine lv_aload_n hx hb dX10_standsAtMark_0 rfl (lv_at hl 0 rfl) ?_
  refine va_get (D := D) (ci := 10) (v := .ref (G.2.1 1)) (C := RX10) (T := TX10) (N := 3) hx hb hts inU_X10 hown hK hP _ (hg_Rd G Z Y σ0 hr0) rfl 0 (by decide) (hts _ wd_88) (fun _ h9 => h9) rfl dX10_standsAtMark_1 ?_
  obtain ⟨q1, hq1, h⟩ := f_b h
  refine cl_V (w := (hW G Z Y σ0)) (w' := (hW G Z Y q1.2)) (rv := some (.int q1.1)) (bytes := cX8_next) (maxL := 2) (ret := (some .int)) (C := RX8) (As := []) (rest := []) (stk := [.int q1.1]) ⟨hx, hb, hml, hown, hts⟩ hK hE hA hP hD hS (c_X8_next l D G Z Y σ0 F q1 hq1) (cwV 0 hts (gwV wd_369 wd_324 wd_325 wd_2 wd_326) rfl rfl rfl hd_X8_next ⟨Nat.le_of_ble_eq_true rfl, Nat.le_of_ble_eq_true rfl⟩) (hg_1 G Z Y σ0) rfl rfl rfl hl.1 rfl (Nat.le_of_ble_eq_true rfl) dX10_standsAtMark_4 ⟨Nat.zero_le _, Nat.zero_le _⟩ rfl (fun H locs hP hD hS => ?_)
  refine lv_bipush (v := 63) hx hb dX10_standsAtMark_7 (by decide) ?_
  refine lv_icmp_eq (tgt := 22) hx hb dX10_standsAtMark_9 (by decide) (fun c2 => ?_) (fun c2 => ?_)
  · skip
    have h := f_t c2 h
    refine lv_iconst (v := 1) hx hb dX10_standsAtMark_22 (by decide) ?_
    refine lv_goto (tgt := 27) hx hb dX10_standsAtMark_23 (by decide) ?_
    obtain rfl := Option.some.inj h
    exact W.zret (v := (1 : Int32)) hx hb hr rfl (q_end hK hP hD hS) hS.2.2 dX10_standsAtMark_27
  · skip
    have h := f_f c2 h
    refine lv_aload_n hx hb dX10_standsAtMark_12 rfl (lv_at hl 0 rfl) ?_
    refine va_get (D := D) (ci := 10) (v := .ref (G.2.1 1)) (C := RX10) (T := TX10) (N := 3) hx hb hts inU_X10 hown hK hP _ (hg_Rd G Z Y q1.2 hr0) rfl 0 (by decide) (hts _ wd_88) (fun _ h9 => h9) rfl dX10_standsAtMark_13 ?_
    obtain ⟨q3, hq3, h⟩ := f_b h
    refine cl_V (w := (hW G Z Y q1.2)) (w' := (hW G Z Y q3.2)) (rv := some (.int q3.1)) (bytes := cX8_fail) (maxL := 1) (ret := (some .boolean)) (C := RX8) (As := []) (rest := []) (stk := [.int q3.1]) ⟨hx, hb, hml, hown, hts⟩ hK hE hA hP hD hS (c_X8_fail l D G Z Y q1.2 q3 hq3) (cwV 0 hts (gwV wd_454 wd_348 wd_349 wd_2 wd_350) rfl rfl rfl hd_X8_fail ⟨Nat.le_of_ble_eq_true rfl, Nat.le_of_ble_eq_true rfl⟩) (hg_1 G Z Y q1.2) rfl rfl rfl hl.1 rfl (Nat.le_of_ble_eq_true rfl) dX10_standsAtMark_16 ⟨Nat.zero_le _, Nat.zero_le _⟩ rfl (fun H locs hP hD hS => ?_)
    refine lv_if_eq (tgt := 26) hx hb dX10_standsAtMark_19 (by decide) (fun c4 => ?_) (fun c4 => ?_)
    · skip
      have h := f_t c4 h
      refine lv_iconst (v := 0) hx hb dX10_standsAtMark_26 (by decide) ?_
      obtain rfl := Option.some.inj h
      exact W.zret (v := (0 : Int32)) hx hb hr rfl (q_end hK hP hD hS) hS.2.2 dX10_standsAtMark_27
    · skip
      have h := f_f c4 h
      refine lv_iconst (v := 1) hx hb dX10_standsAtMark_22 (by decide) ?_
      refine lv_goto (tgt := 27) hx hb dX10_standsAtMark_23 (by decide) ?_
      obtain rfl := Option.some.inj h
      exact W.zret (v := (1 : Int32)) hx hb hr rfl (q_end hK hP hD hS) hS.2.2 dX10_standsAtMark_27
abbrev rm_X10_opening : Room := { frames := 77, cells := 0, slots := 0, locals := 1775 }
set_option maxRecDepth 100000 in
set_option maxHeartbeats 8000000 in
theorem c_X10_opening (l : Launch) (D : va_G) (G : hG) (Z : hZ) (Y : va_W) (σ0 : hSt) (F : Nat) (r0 : Nat) (hr0 : isRd r0 = true) (res : (Int32 × hSt)) (h : f_X10_opening F Z σ0 r0 = some res) : CT l yX10_opening cX10_opening 2 (some .boolean) rm_X10_opening D G 0 0 [.ref (G.2.1 r0)] (hW G Z Y σ0) (hW G Z Y res.2) (some (.int res.1)) := by
  unfold f_X10_opening at h
  refine CT.mk (cc := cX10_opening) (maxL := 2) (ret := (some .boolean)) (own := RX10) (plainFor_of_name (by decide)) rfl (Nat.le_of_ble_eq_true rfl) ?_
  intro p e s m args below meth c A ls C0 hnm hA hP hD hl
  obtain ⟨hx, hb, hr, hml, hown, hts, hlocks, hK, hE⟩ := id C0
  have hS : va_S A s.heap s.heap [] := va_S.rf
  have hl : lv_has ls 2 [(0, .ref (G.2.1 r0))] := hl
  refine lv_aload_n hx hb dX10_opening_0 rfl (lv_at hl 0 rfl) ?_
  refine va_get (D := D) (ci := 10) (v := .ref (G.2.1 1)) (C := RX10) (T := TX10) (N := 3) hx hb hts inU_X10 hown hK hP _ (hg_Rd G Z Y σ0 hr0) rfl 0 (by decide) (hts _ wd_88) (fun _ h9 => h9) rfl dX10_opening_1 ?_
  obtain ⟨q1, hq1, h⟩ := f_b h
  refine cl_V (w := (hW G Z Y σ0)) (w' := (hW G Z Y q1.2)) (rv := some (.int q1.1)) (bytes := cX8_next) (maxL := 2) (ret := (some .int)) (C := RX8) (As := []) (rest := []) (stk := [.int q1.1]) ⟨hx, hb, hml, hown, hts⟩ hK hE hA hP hD hS (c_X8_next l D G Z Y σ0 F q1 hq1) (cwV 0 hts (gwV wd_369 wd_324 wd_325 wd_2 wd_326) rfl rfl rfl hd_X8_next ⟨Nat.le_of_ble_eq_true rfl, Nat.le_of_ble_eq_true rfl⟩) (hg_1 G Z Y σ0) rfl rfl rfl hl.1 rfl (Nat.le_of_ble_eq_true rfl) dX10_opening_4 ⟨Nat.zero_le _, Nat.zero_le _⟩ rfl (fun H locs hP hD hS => ?_)
  refine lv_istore_n (lv' := [(1, .int q1.1), (0, .ref (G.2.1 r0))]) hx hb dX10_opening_7 rfl hl (by decide) rfl (fun ls hl => ?_)
  refine lv_iload_n hx hb dX10_opening_8 rfl (lv_at hl 0 rfl) ?_
  refine lv_bipush (v := 33) hx hb dX10_opening_9 (by decide) ?_
  refine lv_icmp_eq (tgt := 20) hx hb dX10_opening_11 (by decide) (fun c2 => ?_) (fun c2 => ?_)
  · skip
    have h := f_t c2 h
    refine lv_aload_n hx hb dX10_opening_20 rfl (lv_at hl 1 rfl) ?_
    refine lv_iconst (v := 0) hx hb dX10_opening_21 (by decide) ?_
    refine lv_iconst (v := 0) hx hb dX10_opening_22 (by decide) ?_
    obtain ⟨q3, hq3, h⟩ := f_b h
    refine cl_V (w := (hW G Z Y q1.2)) (w' := (hW G Z Y q3.2)) (rv := some (.int q3.1)) (bytes := cX10_condition) (maxL := 4) (ret := (some .boolean)) (C := RX10) (As := [.int (0 : Int32), .int (0 : Int32)]) (rest := []) (stk := [.int q3.1]) ⟨hx, hb, hml, hown, hts⟩ hK hE hA hP hD hS (c_X10_condition l D G Z Y q1.2 F r0 hr0 (0 : Int32) (0 : Int32) q3 hq3) (cwV 2 hts (gwV wd_462 wd_464 wp_6 wd_4 wd_465) rfl rfl rfl hd_X10_condition ⟨Nat.le_of_ble_eq_true rfl, Nat.le_of_ble_eq_true rfl⟩) (hg_Rd G Z Y q1.2 hr0) rfl rfl rfl hl.1 rfl (Nat.le_of_ble_eq_true rfl) dX10_opening_23 ⟨Nat.zero_le _, Nat.zero_le _⟩ rfl (fun H locs hP hD hS => ?_)
    refine lv_if_eq (tgt := 40) hx hb dX10_opening_26 (by decide) (fun c4 => ?_) (fun c4 => ?_)
    · skip
      have h := f_t c4 h
      refine lv_iconst (v := 0) hx hb dX10_opening_40 (by decide) ?_
      obtain rfl := Option.some.inj h
      exact W.zret (v := (0 : Int32)) hx hb hr rfl (q_end hK hP hD hS) hS.2.2 dX10_opening_41
    · skip
      have h := f_f c4 h
      refine lv_aload_n hx hb dX10_opening_29 rfl (lv_at hl 1 rfl) ?_
      obtain ⟨q5, hq5, h⟩ := f_b h
      refine cl_V (w := (hW G Z Y q3.2)) (w' := (hW G Z Y q5.2)) (rv := some (.int q5.1)) (bytes := cX10_standsAtMark) (maxL := 1) (ret := (some .boolean)) (C := RX10) (As := []) (rest := []) (stk := [.int q5.1]) ⟨hx, hb, hml, hown, hts⟩ hK hE hA hP hD hS (c_X10_standsAtMark l D G Z Y q3.2 F r0 hr0 q5 hq5) (cwV 0 hts (gwV wd_510 wd_512 wp_15 wd_4 wd_513) rfl rfl rfl hd_X10_standsAtMark ⟨Nat.le_of_ble_eq_true rfl, Nat.le_of_ble_eq_true rfl⟩) (hg_Rd G Z Y q3.2 hr0) rfl rfl rfl hl.1 rfl (Nat.le_of_ble_eq_true rfl) dX10_opening_30 ⟨Nat.zero_le _, Nat.zero_le _⟩ rfl (fun H locs hP hD hS => ?_)
      refine lv_if_eq (tgt := 40) hx hb dX10_opening_33 (by decide) (fun c6 => ?_) (fun c6 => ?_)
      · skip
        have h := f_t c6 h
        refine lv_iconst (v := 0) hx hb dX10_opening_40 (by decide) ?_
        obtain rfl := Option.some.inj h
        exact W.zret (v := (0 : Int32)) hx hb hr rfl (q_end hK hP hD hS) hS.2.2 dX10_opening_41
      · skip
        have h := f_f c6 h
        refine lv_iconst (v := 1) hx hb dX10_opening_36 (by decide) ?_
        refine lv_goto (tgt := 41) hx hb dX10_opening_37 (by decide) ?_
        obtain rfl := Option.some.inj h
        exact W.zret (v := (1 : Int32)) hx hb hr rfl (q_end hK hP hD hS) hS.2.2 dX10_opening_41
  · skip
    have h := f_f c2 h
    refine lv_iload_n hx hb dX10_opening_14 rfl (lv_at hl 0 rfl) ?_
    refine lv_bipush (v := 40) hx hb dX10_opening_15 (by decide) ?_
    refine lv_icmp_ne (tgt := 42) hx hb dX10_opening_17 (by decide) (fun c7 => ?_) (fun c7 => ?_)
    · skip
      have h := f_f c7 h
      refine lv_aload_n hx hb dX10_opening_42 rfl (lv_at hl 1 rfl) ?_
      refine lv_iconst (v := 0) hx hb dX10_opening_43 (by decide) ?_
      obtain ⟨q8, hq8, h⟩ := f_b h
      refine cl_V (w := (hW G Z Y q1.2)) (w' := (hW G Z Y q8.2)) (rv := some (.int q8.1)) (bytes := cX10_total) (maxL := 4) (ret := (some .boolean)) (C := RX10) (As := [.int (0 : Int32)]) (rest := []) (stk := [.int q8.1]) ⟨hx, hb, hml, hown, hts⟩ hK hE hA hP hD hS (c_X10_total l D G Z Y q1.2 F r0 hr0 (0 : Int32) q8 hq8) (cwV 1 hts (gwV wd_481 wd_483 wp_10 wd_4 wd_484) rfl rfl rfl hd_X10_total ⟨Nat.le_of_ble_eq_true rfl, Nat.le_of_ble_eq_true rfl⟩) (hg_Rd G Z Y q1.2 hr0) rfl rfl rfl hl.1 rfl (Nat.le_of_ble_eq_true rfl) dX10_opening_44 ⟨Nat.zero_le _, Nat.zero_le _⟩ rfl (fun H locs hP hD hS => ?_)
      refine lv_if_ne (tgt := 52) hx hb dX10_opening_47 (by decide) (fun c9 => ?_) (fun c9 => ?_)
      · skip
        have h := f_f c9 h
        refine lv_aload_n hx hb dX10_opening_52 rfl (lv_at hl 1 rfl) ?_
        refine va_get (D := D) (ci := 10) (v := .ref (G.2.1 1)) (C := RX10) (T := TX10) (N := 3) hx hb hts inU_X10 hown hK hP _ (hg_Rd G Z Y q8.2 hr0) rfl 0 (by decide) (hts _ wd_88) (fun _ h9 => h9) rfl dX10_opening_53 ?_
        obtain ⟨q10, hq10, h⟩ := f_b h
        refine cl_V (w := (hW G Z Y q8.2)) (w' := (hW G Z Y q10.2)) (rv := some (.int q10.1)) (bytes := cX8_next) (maxL := 2) (ret := (some .int)) (C := RX8) (As := []) (rest := []) (stk := [.int q10.1]) ⟨hx, hb, hml, hown, hts⟩ hK hE hA hP hD hS (c_X8_next l D G Z Y q8.2 F q10 hq10) (cwV 0 hts (gwV wd_369 wd_324 wd_325 wd_2 wd_326) rfl rfl rfl hd_X8_next ⟨Nat.le_of_ble_eq_true rfl, Nat.le_of_ble_eq_true rfl⟩) (hg_1 G Z Y q8.2) rfl rfl rfl hl.1 rfl (Nat.le_of_ble_eq_true rfl) dX10_opening_56 ⟨Nat.zero_le _, Nat.zero_le _⟩ rfl (fun H locs hP hD hS => ?_)
        obtain ⟨q11, hq11, h⟩ := f_b h
        refine cl_S (w := (hW G Z Y q10.2)) (w' := (hW G Z Y q10.2)) (rv := some (.int q11)) (bytes := cX10_isComparison) (maxL := 1) (ret := (some .boolean)) (As := [.int q10.1]) (rest := []) (stk := [.int q11]) ⟨hx, hb, hml, hown, hts⟩ hK hE hA hP hD hS (c_X10_isComparison l D G (hW G Z Y q10.2) q10.1 q11 hq11) (mkS hts wd_478 wd_479 wd_4 wd_480 rfl rfl hd_X10_isComparison ⟨Nat.le_of_ble_eq_true rfl, Nat.le_of_ble_eq_true rfl⟩) rfl hl.1 rfl (Nat.le_of_ble_eq_true rfl) dX10_opening_59 ⟨Nat.zero_le _, Nat.zero_le _⟩ rfl (fun H locs hP hD hS => ?_)
        refine lv_if_eq (tgt := 87) hx hb dX10_opening_62 (by decide) (fun c12 => ?_) (fun c12 => ?_)
        · skip
          have h := f_t c12 h
          refine lv_aload_n hx hb dX10_opening_87 rfl (lv_at hl 1 rfl) ?_
          refine va_get (D := D) (ci := 10) (v := .ref (G.2.1 1)) (C := RX10) (T := TX10) (N := 3) hx hb hts inU_X10 hown hK hP _ (hg_Rd G Z Y q10.2 hr0) rfl 0 (by decide) (hts _ wd_88) (fun _ h9 => h9) rfl dX10_opening_88 ?_
          obtain ⟨q13, hq13, h⟩ := f_b h
          refine cl_V (w := (hW G Z Y q10.2)) (w' := (hW G Z Y q13.2)) (rv := some (.int q13.1)) (bytes := cX8_next) (maxL := 2) (ret := (some .int)) (C := RX8) (As := []) (rest := []) (stk := [.int q13.1]) ⟨hx, hb, hml, hown, hts⟩ hK hE hA hP hD hS (c_X8_next l D G Z Y q10.2 F q13 hq13) (cwV 0 hts (gwV wd_369 wd_324 wd_325 wd_2 wd_326) rfl rfl rfl hd_X8_next ⟨Nat.le_of_ble_eq_true rfl, Nat.le_of_ble_eq_true rfl⟩) (hg_1 G Z Y q10.2) rfl rfl rfl hl.1 rfl (Nat.le_of_ble_eq_true rfl) dX10_opening_91 ⟨Nat.zero_le _, Nat.zero_le _⟩ rfl (fun H locs hP hD hS => ?_)
          refine lv_bipush (v := 63) hx hb dX10_opening_94 (by decide) ?_
          refine lv_icmp_ne (tgt := 109) hx hb dX10_opening_96 (by decide) (fun c14 => ?_) (fun c14 => ?_)
          · skip
            have h := f_f c14 h
            refine lv_iconst (v := 1) hx hb dX10_opening_109 (by decide) ?_
            refine lv_goto (tgt := 114) hx hb dX10_opening_110 (by decide) ?_
            obtain rfl := Option.some.inj h
            exact W.zret (v := (1 : Int32)) hx hb hr rfl (q_end hK hP hD hS) hS.2.2 dX10_opening_114
          · skip
            have h := f_t c14 h
            refine lv_aload_n hx hb dX10_opening_99 rfl (lv_at hl 1 rfl) ?_
            refine va_get (D := D) (ci := 10) (v := .ref (G.2.1 1)) (C := RX10) (T := TX10) (N := 3) hx hb hts inU_X10 hown hK hP _ (hg_Rd G Z Y q13.2 hr0) rfl 0 (by decide) (hts _ wd_88) (fun _ h9 => h9) rfl dX10_opening_100 ?_
            obtain ⟨q15, hq15, h⟩ := f_b h
            refine cl_V (w := (hW G Z Y q13.2)) (w' := (hW G Z Y q15.2)) (rv := some (.int q15.1)) (bytes := cX8_fail) (maxL := 1) (ret := (some .boolean)) (C := RX8) (As := []) (rest := []) (stk := [.int q15.1]) ⟨hx, hb, hml, hown, hts⟩ hK hE hA hP hD hS (c_X8_fail l D G Z Y q13.2 q15 hq15) (cwV 0 hts (gwV wd_454 wd_348 wd_349 wd_2 wd_350) rfl rfl rfl hd_X8_fail ⟨Nat.le_of_ble_eq_true rfl, Nat.le_of_ble_eq_true rfl⟩) (hg_1 G Z Y q13.2) rfl rfl rfl hl.1 rfl (Nat.le_of_ble_eq_true rfl) dX10_opening_103 ⟨Nat.zero_le _, Nat.zero_le _⟩ rfl (fun H locs hP hD hS => ?_)
            refine lv_if_eq (tgt := 113) hx hb dX10_opening_106 (by decide) (fun c16 => ?_) (fun c16 => ?_)
            · skip
              have h := f_t c16 h
              refine lv_iconst (v := 0) hx hb dX10_opening_113 (by decide) ?_
              obtain rfl := Option.some.inj h
              exact W.zret (v := (0 : Int32)) hx hb hr rfl (q_end hK hP hD hS) hS.2.2 dX10_opening_114
            · skip
              have h := f_f c16 h
              refine lv_iconst (v := 1) hx hb dX10_opening_109 (by decide) ?_
              refine lv_goto (tgt := 114) hx hb dX10_opening_110 (by decide) ?_
              obtain rfl := Option.some.inj h
              exact W.zret (v := (1 : Int32)) hx hb hr rfl (q_end hK hP hD hS) hS.2.2 dX10_opening_114
        · skip
          have h := f_f c12 h
          refine lv_aload_n hx hb dX10_opening_65 rfl (lv_at hl 1 rfl) ?_
          refine lv_iconst (v := 0) hx hb dX10_opening_66 (by decide) ?_
          refine lv_iconst (v := 1) hx hb dX10_opening_67 (by decide) ?_
          obtain ⟨q17, hq17, h⟩ := f_b h
          refine cl_V (w := (hW G Z Y q10.2)) (w' := (hW G Z Y q17.2)) (rv := some (.int q17.1)) (bytes := cX10_condition) (maxL := 4) (ret := (some .boolean)) (C := RX10) (As := [.int (0 : Int32), .int (1 : Int32)]) (rest := []) (stk := [.int q17.1]) ⟨hx, hb, hml, hown, hts⟩ hK hE hA hP hD hS (c_X10_condition l D G Z Y q10.2 F r0 hr0 (0 : Int32) (1 : Int32) q17 hq17) (cwV 2 hts (gwV wd_462 wd_464 wp_6 wd_4 wd_465) rfl rfl rfl hd_X10_condition ⟨Nat.le_of_ble_eq_true rfl, Nat.le_of_ble_eq_true rfl⟩) (hg_Rd G Z Y q10.2 hr0) rfl rfl rfl hl.1 rfl (Nat.le_of_ble_eq_true rfl) dX10_opening_68 ⟨Nat.zero_le _, Nat.zero_le _⟩ rfl (fun H locs hP hD hS => ?_)
          refine lv_if_eq (tgt := 85) hx hb dX10_opening_71 (by decide) (fun c18 => ?_) (fun c18 => ?_)
          · skip
            have h := f_t c18 h
            refine lv_iconst (v := 0) hx hb dX10_opening_85 (by decide) ?_
            obtain rfl := Option.some.inj h
            exact W.zret (v := (0 : Int32)) hx hb hr rfl (q_end hK hP hD hS) hS.2.2 dX10_opening_86
          · skip
            have h := f_f c18 h
            refine lv_aload_n hx hb dX10_opening_74 rfl (lv_at hl 1 rfl) ?_
            obtain ⟨q19, hq19, h⟩ := f_b h
            refine cl_V (w := (hW G Z Y q17.2)) (w' := (hW G Z Y q19.2)) (rv := some (.int q19.1)) (bytes := cX10_standsAtMark) (maxL := 1) (ret := (some .boolean)) (C := RX10) (As := []) (rest := []) (stk := [.int q19.1]) ⟨hx, hb, hml, hown, hts⟩ hK hE hA hP hD hS (c_X10_standsAtMark l D G Z Y q17.2 F r0 hr0 q19 hq19) (cwV 0 hts (gwV wd_510 wd_512 wp_15 wd_4 wd_513) rfl rfl rfl hd_X10_standsAtMark ⟨Nat.le_of_ble_eq_true rfl, Nat.le_of_ble_eq_true rfl⟩) (hg_Rd G Z Y q17.2 hr0) rfl rfl rfl hl.1 rfl (Nat.le_of_ble_eq_true rfl) dX10_opening_75 ⟨Nat.zero_le _, Nat.zero_le _⟩ rfl (fun H locs hP hD hS => ?_)
            refine lv_if_eq (tgt := 85) hx hb dX10_opening_78 (by decide) (fun c20 => ?_) (fun c20 => ?_)
            · skip
              have h := f_t c20 h
              refine lv_iconst (v := 0) hx hb dX10_opening_85 (by decide) ?_
              obtain rfl := Option.some.inj h
              exact W.zret (v := (0 : Int32)) hx hb hr rfl (q_end hK hP hD hS) hS.2.2 dX10_opening_86
            · skip
              have h := f_f c20 h
              refine lv_iconst (v := 1) hx hb dX10_opening_81 (by decide) ?_
              refine lv_goto (tgt := 86) hx hb dX10_opening_82 (by decide) ?_
              obtain rfl := Option.some.inj h
              exact W.zret (v := (1 : Int32)) hx hb hr rfl (q_end hK hP hD hS) hS.2.2 dX10_opening_86
      · skip
        have h := f_t c9 h
        refine lv_iconst (v := 0) hx hb dX10_opening_50 (by decide) ?_
        obtain rfl := Option.some.inj h
        exact W.zret (v := (0 : Int32)) hx hb hr rfl (q_end hK hP hD hS) hS.2.2 dX10_opening_51
    · skip
      have h := f_t c7 h
      refine lv_aload_n hx hb dX10_opening_20 rfl (lv_at hl 1 rfl) ?_
      refine lv_iconst (v := 0) hx hb dX10_opening_21 (by decide) ?_
      refine lv_iconst (v := 0) hx hb dX10_opening_22 (by decide) ?_
      obtain ⟨q21, hq21, h⟩ := f_b h
      refine cl_V (w := (hW G Z Y q1.2)) (w' := (hW G Z Y q21.2)) (rv := some (.int q21.1)) (bytes := cX10_condition) (maxL := 4) (ret := (some .boolean)) (C := RX10) (As := [.int (0 : Int32), .int (0 : Int32)]) (rest := []) (stk := [.int q21.1]) ⟨hx, hb, hml, hown, hts⟩ hK hE hA hP hD hS (c_X10_condition l D G Z Y q1.2 F r0 hr0 (0 : Int32) (0 : Int32) q21 hq21) (cwV 2 hts (gwV wd_462 wd_464 wp_6 wd_4 wd_465) rfl rfl rfl hd_X10_condition ⟨Nat.le_of_ble_eq_true rfl, Nat.le_of_ble_eq_true rfl⟩) (hg_Rd G Z Y q1.2 hr0) rfl rfl rfl hl.1 rfl (Nat.le_of_ble_eq_true rfl) dX10_opening_23 ⟨Nat.zero_le _, Nat.zero_le _⟩ rfl (fun H locs hP hD hS => ?_)
      refine lv_if_eq (tgt := 40) hx hb dX10_opening_26 (by decide) (fun c22 => ?_) (fun c22 => ?_)
      · skip
        have h := f_t c22 h
        refine lv_iconst (v := 0) hx hb dX10_opening_40 (by decide) ?_
        obtain rfl := Option.some.inj h
        exact W.zret (v := (0 : Int32)) hx hb hr rfl (q_end hK hP hD hS) hS.2.2 dX10_opening_41
      · skip
        have h := f_f c22 h
        refine lv_aload_n hx hb dX10_opening_29 rfl (lv_at hl 1 rfl) ?_
        obtain ⟨q23, hq23, h⟩ := f_b h
        refine cl_V (w := (hW G Z Y q21.2)) (w' := (hW G Z Y q23.2)) (rv := some (.int q23.1)) (bytes := cX10_standsAtMark) (maxL := 1) (ret := (some .boolean)) (C := RX10) (As := []) (rest := []) (stk := [.int q23.1]) ⟨hx, hb, hml, hown, hts⟩ hK hE hA hP hD hS (c_X10_standsAtMark l D G Z Y q21.2 F r0 hr0 q23 hq23) (cwV 0 hts (gwV wd_510 wd_512 wp_15 wd_4 wd_513) rfl rfl rfl hd_X10_standsAtMark ⟨Nat.le_of_ble_eq_true rfl, Nat.le_of_ble_eq_true rfl⟩) (hg_Rd G Z Y q21.2 hr0) rfl rfl rfl hl.1 rfl (Nat.le_of_ble_eq_true rfl) dX10_opening_30 ⟨Nat.zero_le _, Nat.zero_le _⟩ rfl (fun H locs hP hD hS => ?_)
        refine lv_if_eq (tgt := 40) hx hb dX10_opening_33 (by decide) (fun c24 => ?_) (fun c24 => ?_)
        · skip
          have h := f_t c24 h
          refine lv_iconst (v := 0) hx hb dX10_opening_40 (by decide) ?_
          obtain rfl := Option.some.inj h
          exact W.zret (v := (0 : Int32)) hx hb hr rfl (q_end hK hP hD hS) hS.2.2 dX10_opening_41
        · skip
          have h := f_f c24 h
          refine lv_iconst (v := 1) hx hb dX10_opening_36 (by decide) ?_
          refine lv_goto (tgt := 41) hx hb dX10_opening_37 (by decide) ?_
          obtain rfl := Option.some.inj h
          exact W.zret (v := (1 : Int32)) hx hb hr rfl (q_end hK hP hD hS) hS.2.2 dX10_opening_41
abbrev rm_X10_clause : Room := { frames := 78, cells := 0, slots := 0, locals := 1796 }
set_option maxRecDepth 100000 in
set_option maxHeartbeats 8000000 in
theorem c_X10_clause (l : Launch) (D : va_G) (G : hG) (Z : hZ) (Y : va_W) (σ0 : hSt) (F : Nat) (r0 : Nat) (hr0 : isRd r0 = true) (res : (Int32 × hSt)) (h : f_X10_clause F Z σ0 r0 = some res) : CT l yX10_clause cX10_clause 4 (some .boolean) rm_X10_clause D G 0 0 [.ref (G.2.1 r0)] (hW G Z Y σ0) (hW G Z Y res.2) (some (.int res.1)) := by
  unfold f_X10_clause at h
  refine CT.mk (cc := cX10_clause) (maxL := 4) (ret := (some .boolean)) (own := RX10) (plainFor_of_name (by decide)) rfl (Nat.le_of_ble_eq_true rfl) ?_
  intro p e s m args below meth c A ls C0 hnm hA hP hD hl
  obtain ⟨hx, hb, hr, hml, hown, hts, hlocks, hK, hE⟩ := id C0
  have hS : va_S A s.heap s.heap [] := va_S.rf
  have hl : lv_has ls 4 [(0, .ref (G.2.1 r0))] := hl
  refine lv_aload_n hx hb dX10_clause_0 rfl (lv_at hl 0 rfl) ?_
  refine va_get (D := D) (ci := 10) (v := .ref (G.2.1 1)) (C := RX10) (T := TX10) (N := 3) hx hb hts inU_X10 hown hK hP _ (hg_Rd G Z Y σ0 hr0) rfl 0 (by decide) (hts _ wd_88) (fun _ h9 => h9) rfl dX10_clause_1 ?_
  obtain ⟨q1, hq1, h⟩ := f_b h
  refine cl_V (w := (hW G Z Y σ0)) (w' := (hW G Z Y q1.2)) (rv := some (.int q1.1)) (bytes := cX8_next) (maxL := 2) (ret := (some .int)) (C := RX8) (As := []) (rest := []) (stk := [.int q1.1]) ⟨hx, hb, hml, hown, hts⟩ hK hE hA hP hD hS (c_X8_next l D G Z Y σ0 F q1 hq1) (cwV 0 hts (gwV wd_369 wd_324 wd_325 wd_2 wd_326) rfl rfl rfl hd_X8_next ⟨Nat.le_of_ble_eq_true rfl, Nat.le_of_ble_eq_true rfl⟩) (hg_1 G Z Y σ0) rfl rfl rfl hl.1 rfl (Nat.le_of_ble_eq_true rfl) dX10_clause_4 ⟨Nat.zero_le _, Nat.zero_le _⟩ rfl (fun H locs hP hD hS => ?_)
  refine lv_istore_n (lv' := [(1, .int q1.1), (0, .ref (G.2.1 r0))]) hx hb dX10_clause_7 rfl hl (by decide) rfl (fun ls hl => ?_)
  refine lv_aload_n hx hb dX10_clause_8 rfl (lv_at hl 1 rfl) ?_
  refine va_get (D := D) (ci := 10) (v := .ref (G.2.2 (2 * (r0 - 5)))) (C := RX10) (T := TX10) (N := 3) hx hb hts inU_X10 hown hK hP _ (hg_Rd G Z Y q1.2 hr0) rfl 1 (by decide) (hts _ wd_89) (fun _ h9 => h9) rfl dX10_clause_9 ?_
  refine lv_iload_n hx hb dX10_clause_12 rfl (lv_at hl 0 rfl) ?_
  refine lv_i2c (v := ((q1.1 : Int32).toUInt32 % 65536).toInt32) hx hb dX10_clause_13 rfl ?_
  obtain ⟨q2, hq2, h⟩ := f_b h
  refine cl_Vs (w := (hW G Z Y q1.2)) (w' := (hW G Z Y q1.2)) (rv := some (.int q2)) (bytes := cJ0_indexOf_0f7a4) (maxL := 2) (ret := (some .int)) (C := RJ0) (As := [.int ((q1.1 : Int32).toUInt32 % 65536).toInt32]) (rest := []) (stk := [.int q2]) ⟨hx, hb, hml, hown, hts⟩ hK hE hA hP hD hS (c_J0_indexOf_0f7a4 l D G (hW G Z Y q1.2) F (2 * (r0 - 5)) (isSt_Rd0 hr0) (((q1.1 : Int32).toUInt32 % 65536).toInt32) q2 hq2) (cwV 1 hts (gwV wd_370 wd_371 wd_372 wd_13 wd_373) rfl rfl rfl hd_J0_indexOf_0f7a4 ⟨Nat.le_of_ble_eq_true rfl, Nat.le_of_ble_eq_true rfl⟩) (isSt_lt (isSt_Rd0 hr0)) rfl rfl hl.1 rfl (Nat.le_of_ble_eq_true rfl) dX10_clause_14 ⟨Nat.zero_le _, Nat.zero_le _⟩ rfl (fun H locs hP hD hS => ?_)
  refine lv_if_ge (tgt := 28) hx hb dX10_clause_17 (by decide) (fun c3 => ?_) (fun c3 => ?_)
  · skip
    have h := f_t c3 h
    refine lv_aload_n hx hb dX10_clause_28 rfl (lv_at hl 1 rfl) ?_
    refine va_get (D := D) (ci := 10) (v := .ref (G.2.1 1)) (C := RX10) (T := TX10) (N := 3) hx hb hts inU_X10 hown hK hP _ (hg_Rd G Z Y q1.2 hr0) rfl 0 (by decide) (hts _ wd_88) (fun _ h9 => h9) rfl dX10_clause_29 ?_
    obtain ⟨q4, hq4, h⟩ := f_b h
    refine cl_V (w := (hW G Z Y q1.2)) (w' := (hW G Z Y q4.2)) (rv := none) (bytes := cX8_step) (maxL := 1) (ret := none) (C := RX8) (As := []) (rest := []) (stk := []) ⟨hx, hb, hml, hown, hts⟩ hK hE hA hP hD hS (c_X8_step l D G Z Y q1.2 q4 hq4) (cwV 0 hts (gwV wd_455 wd_335 wd_336 wd_2 wd_337) rfl rfl rfl hd_X8_step ⟨Nat.le_of_ble_eq_true rfl, Nat.le_of_ble_eq_true rfl⟩) (hg_1 G Z Y q1.2) rfl rfl rfl hl.1 rfl (Nat.le_of_ble_eq_true rfl) dX10_clause_32 ⟨Nat.zero_le _, Nat.zero_le _⟩ rfl (fun H locs hP hD hS => ?_)
    refine lv_aload_n hx hb dX10_clause_35 rfl (lv_at hl 1 rfl) ?_
    refine va_get (D := D) (ci := 10) (v := .ref (G.2.1 1)) (C := RX10) (T := TX10) (N := 3) hx hb hts inU_X10 hown hK hP _ (hg_Rd G Z Y q4.2 hr0) rfl 0 (by decide) (hts _ wd_88) (fun _ h9 => h9) rfl dX10_clause_36 ?_
    refine va_getN (D := D) (ci := 8) (v := .int (q4.2.1 1 5)) (C := RX8) (T := TX8) (N := 6) hx hb hts inU_X8 hown hK hP _ (hg_1 G Z Y q4.2) rfl 5 (by decide) (nF_use 3 hE rfl) (fun _ h9 => h9) rfl dX10_clause_39 ?_
    refine lv_istore_n (lv' := [(2, .int (q4.2.1 1 5)), (1, .int q1.1), (0, .ref (G.2.1 r0))]) hx hb dX10_clause_42 rfl hl (by decide) rfl (fun ls hl => ?_)
    refine lv_aload_n hx hb dX10_clause_43 rfl (lv_at hl 2 rfl) ?_
    refine va_get (D := D) (ci := 10) (v := .ref (G.2.1 1)) (C := RX10) (T := TX10) (N := 3) hx hb hts inU_X10 hown hK hP _ (hg_Rd G Z Y q4.2 hr0) rfl 0 (by decide) (hts _ wd_88) (fun _ h9 => h9) rfl dX10_clause_44 ?_
    refine lv_iload_n hx hb dX10_clause_47 rfl (lv_at hl 1 rfl) ?_
    obtain ⟨q5, hq5, h⟩ := f_b h
    refine cl_V (w := (hW G Z Y q4.2)) (w' := (hW G Z Y q5.2)) (rv := none) (bytes := cX8_write) (maxL := 2) (ret := none) (C := RX8) (As := [.int q1.1]) (rest := []) (stk := []) ⟨hx, hb, hml, hown, hts⟩ hK hE hA hP hD hS (c_X8_write l D G Z Y q4.2 q1.1 q5 hq5) (cwV 1 hts (gwV wd_456 wd_344 wd_345 wd_2 wd_346) rfl rfl rfl hd_X8_write ⟨Nat.le_of_ble_eq_true rfl, Nat.le_of_ble_eq_true rfl⟩) (hg_1 G Z Y q4.2) rfl rfl rfl hl.1 rfl (Nat.le_of_ble_eq_true rfl) dX10_clause_48 ⟨Nat.zero_le _, Nat.zero_le _⟩ rfl (fun H locs hP hD hS => ?_)
    refine lv_aload_n hx hb dX10_clause_51 rfl (lv_at hl 2 rfl) ?_
    refine va_get (D := D) (ci := 10) (v := .ref (G.2.1 1)) (C := RX10) (T := TX10) (N := 3) hx hb hts inU_X10 hown hK hP _ (hg_Rd G Z Y q5.2 hr0) rfl 0 (by decide) (hts _ wd_88) (fun _ h9 => h9) rfl dX10_clause_52 ?_
    refine lv_iconst (v := 0) hx hb dX10_clause_55 (by decide) ?_
    obtain ⟨q6, hq6, h⟩ := f_b h
    refine cl_V (w := (hW G Z Y q5.2)) (w' := (hW G Z Y q6.2)) (rv := none) (bytes := cX8_write) (maxL := 2) (ret := none) (C := RX8) (As := [.int (0 : Int32)]) (rest := []) (stk := []) ⟨hx, hb, hml, hown, hts⟩ hK hE hA hP hD hS (c_X8_write l D G Z Y q5.2 (0 : Int32) q6 hq6) (cwV 1 hts (gwV wd_456 wd_344 wd_345 wd_2 wd_346) rfl rfl rfl hd_X8_write ⟨Nat.le_of_ble_eq_true rfl, Nat.le_of_ble_eq_true rfl⟩) (hg_1 G Z Y q5.2) rfl rfl rfl hl.1 rfl (Nat.le_of_ble_eq_true rfl) dX10_clause_56 ⟨Nat.zero_le _, Nat.zero_le _⟩ rfl (fun H locs hP hD hS => ?_)
    refine lv_aload_n hx hb dX10_clause_59 rfl (lv_at hl 2 rfl) ?_
    refine va_get (D := D) (ci := 10) (v := .ref (G.2.1 1)) (C := RX10) (T := TX10) (N := 3) hx hb hts inU_X10 hown hK hP _ (hg_Rd G Z Y q6.2 hr0) rfl 0 (by decide) (hts _ wd_88) (fun _ h9 => h9) rfl dX10_clause_60 ?_
    refine lv_iconst (v := 0) hx hb dX10_clause_63 (by decide) ?_
    obtain ⟨q7, hq7, h⟩ := f_b h
    refine cl_V (w := (hW G Z Y q6.2)) (w' := (hW G Z Y q7.2)) (rv := none) (bytes := cX8_write) (maxL := 2) (ret := none) (C := RX8) (As := [.int (0 : Int32)]) (rest := []) (stk := []) ⟨hx, hb, hml, hown, hts⟩ hK hE hA hP hD hS (c_X8_write l D G Z Y q6.2 (0 : Int32) q7 hq7) (cwV 1 hts (gwV wd_456 wd_344 wd_345 wd_2 wd_346) rfl rfl rfl hd_X8_write ⟨Nat.le_of_ble_eq_true rfl, Nat.le_of_ble_eq_true rfl⟩) (hg_1 G Z Y q6.2) rfl rfl rfl hl.1 rfl (Nat.le_of_ble_eq_true rfl) dX10_clause_64 ⟨Nat.zero_le _, Nat.zero_le _⟩ rfl (fun H locs hP hD hS => ?_)
    refine lv_aload_n hx hb dX10_clause_67 rfl (lv_at hl 2 rfl) ?_
    refine va_get (D := D) (ci := 10) (v := .ref (G.2.1 1)) (C := RX10) (T := TX10) (N := 3) hx hb hts inU_X10 hown hK hP _ (hg_Rd G Z Y q7.2 hr0) rfl 0 (by decide) (hts _ wd_88) (fun _ h9 => h9) rfl dX10_clause_68 ?_
    refine va_getN (D := D) (ci := 8) (v := .int (q7.2.1 1 5)) (C := RX8) (T := TX8) (N := 6) hx hb hts inU_X8 hown hK hP _ (hg_1 G Z Y q7.2) rfl 5 (by decide) (nF_use 3 hE rfl) (fun _ h9 => h9) rfl dX10_clause_71 ?_
    refine lv_istore_n (lv' := [(3, .int (q7.2.1 1 5)), (2, .int (q4.2.1 1 5)), (1, .int q1.1), (0, .ref (G.2.1 r0))]) hx hb dX10_clause_74 rfl hl (by decide) rfl (fun ls hl => ?_)
    refine lv_aload_n hx hb dX10_clause_75 rfl (lv_at hl 3 rfl) ?_
    refine va_get (D := D) (ci := 10) (v := .ref (G.2.1 1)) (C := RX10) (T := TX10) (N := 3) hx hb hts inU_X10 hown hK hP _ (hg_Rd G Z Y q7.2 hr0) rfl 0 (by decide) (hts _ wd_88) (fun _ h9 => h9) rfl dX10_clause_76 ?_
    refine lv_bipush (v := 58) hx hb dX10_clause_79 (by decide) ?_
    obtain ⟨q8, hq8, h⟩ := f_b h
    refine cl_V (w := (hW G Z Y q7.2)) (w' := (hW G Z Y q8.2)) (rv := some (.int q8.1)) (bytes := cX8_expect) (maxL := 2) (ret := (some .boolean)) (C := RX8) (As := [.int (58 : Int32)]) (rest := []) (stk := [.int q8.1]) ⟨hx, hb, hml, hown, hts⟩ hK hE hA hP hD hS (c_X8_expect l D G Z Y q7.2 F (58 : Int32) q8 hq8) (cwV 1 hts (gwV wd_457 wd_339 wd_340 wd_2 wd_341) rfl rfl rfl hd_X8_expect ⟨Nat.le_of_ble_eq_true rfl, Nat.le_of_ble_eq_true rfl⟩) (hg_1 G Z Y q7.2) rfl rfl rfl hl.1 rfl (Nat.le_of_ble_eq_true rfl) dX10_clause_81 ⟨Nat.zero_le _, Nat.zero_le _⟩ rfl (fun H locs hP hD hS => ?_)
    refine lv_if_eq (tgt := 94) hx hb dX10_clause_84 (by decide) (fun c9 => ?_) (fun c9 => ?_)
    · skip
      have h := f_t c9 h
      refine lv_iconst (v := 0) hx hb dX10_clause_94 (by decide) ?_
      obtain rfl := Option.some.inj h
      exact W.zret (v := (0 : Int32)) hx hb hr rfl (q_end hK hP hD hS) hS.2.2 dX10_clause_95
    · skip
      have h := f_f c9 h
      refine lv_aload_n hx hb dX10_clause_87 rfl (lv_at hl 3 rfl) ?_
      obtain ⟨q10, hq10, h⟩ := f_b h
      refine cl_V (w := (hW G Z Y q8.2)) (w' := (hW G Z Y q10.2)) (rv := some (.int q10.1)) (bytes := cX10_opening) (maxL := 2) (ret := (some .boolean)) (C := RX10) (As := []) (rest := []) (stk := [.int q10.1]) ⟨hx, hb, hml, hown, hts⟩ hK hE hA hP hD hS (c_X10_opening l D G Z Y q8.2 F r0 hr0 q10 hq10) (cwV 0 hts (gwV wd_458 wd_460 wp_5 wd_4 wd_461) rfl rfl rfl hd_X10_opening ⟨Nat.le_of_ble_eq_true rfl, Nat.le_of_ble_eq_true rfl⟩) (hg_Rd G Z Y q8.2 hr0) rfl rfl rfl hl.1 rfl (Nat.le_of_ble_eq_true rfl) dX10_clause_88 ⟨Nat.zero_le _, Nat.zero_le _⟩ rfl (fun H locs hP hD hS => ?_)
      refine lv_if_ne (tgt := 96) hx hb dX10_clause_91 (by decide) (fun c11 => ?_) (fun c11 => ?_)
      · skip
        have h := f_f c11 h
        refine lv_aload_n hx hb dX10_clause_96 rfl (lv_at hl 3 rfl) ?_
        refine va_get (D := D) (ci := 10) (v := .ref (G.2.1 1)) (C := RX10) (T := TX10) (N := 3) hx hb hts inU_X10 hown hK hP _ (hg_Rd G Z Y q10.2 hr0) rfl 0 (by decide) (hts _ wd_88) (fun _ h9 => h9) rfl dX10_clause_97 ?_
        refine lv_bipush (v := 63) hx hb dX10_clause_100 (by decide) ?_
        obtain ⟨q12, hq12, h⟩ := f_b h
        refine cl_V (w := (hW G Z Y q10.2)) (w' := (hW G Z Y q12.2)) (rv := some (.int q12.1)) (bytes := cX8_take) (maxL := 2) (ret := (some .boolean)) (C := RX8) (As := [.int (63 : Int32)]) (rest := []) (stk := [.int q12.1]) ⟨hx, hb, hml, hown, hts⟩ hK hE hA hP hD hS (c_X8_take l D G Z Y q10.2 F (63 : Int32) q12 hq12) (cwV 1 hts (gwV wd_509 wd_352 wd_353 wd_2 wd_354) rfl rfl rfl hd_X8_take ⟨Nat.le_of_ble_eq_true rfl, Nat.le_of_ble_eq_true rfl⟩) (hg_1 G Z Y q10.2) rfl rfl rfl hl.1 rfl (Nat.le_of_ble_eq_true rfl) dX10_clause_102 ⟨Nat.zero_le _, Nat.zero_le _⟩ rfl (fun H locs hP hD hS => ?_)
        refine lv_if_eq (tgt := 145) hx hb dX10_clause_105 (by decide) (fun c13 => ?_) (fun c13 => ?_)
        · skip
          have h := f_t c13 h
          refine lv_aload_n hx hb dX10_clause_145 rfl (lv_at hl 3 rfl) ?_
          refine va_get (D := D) (ci := 10) (v := .ref (G.2.1 1)) (C := RX10) (T := TX10) (N := 3) hx hb hts inU_X10 hown hK hP _ (hg_Rd G Z Y q12.2 hr0) rfl 0 (by decide) (hts _ wd_88) (fun _ h9 => h9) rfl dX10_clause_146 ?_
          refine lv_iload_n hx hb dX10_clause_149 rfl (lv_at hl 1 rfl) ?_
          refine lv_iconst (v := 2) hx hb dX10_clause_150 (by decide) ?_
          refine lv_iadd hx hb dX10_clause_151 ?_
          refine lv_aload_n hx hb dX10_clause_152 rfl (lv_at hl 3 rfl) ?_
          refine va_get (D := D) (ci := 10) (v := .ref (G.2.1 1)) (C := RX10) (T := TX10) (N := 3) hx hb hts inU_X10 hown hK hP _ (hg_Rd G Z Y q12.2 hr0) rfl 0 (by decide) (hts _ wd_88) (fun _ h9 => h9) rfl dX10_clause_153 ?_
          refine va_getN (D := D) (ci := 8) (v := .int (q12.2.1 1 5)) (C := RX8) (T := TX8) (N := 6) hx hb hts inU_X8 hown hK hP _ (hg_1 G Z Y q12.2) rfl 5 (by decide) (nF_use 3 hE rfl) (fun _ h9 => h9) rfl dX10_clause_156 ?_
          refine lv_iload_n hx hb dX10_clause_159 rfl (lv_at hl 0 rfl) ?_
          refine lv_isub hx hb dX10_clause_160 ?_
          obtain ⟨q14, hq14, h⟩ := f_b h
          refine cl_V (w := (hW G Z Y q12.2)) (w' := (hW G Z Y q14.2)) (rv := none) (bytes := cX8_rewrite) (maxL := 3) (ret := none) (C := RX8) (As := [.int ((q4.2.1 1 5) + (2 : Int32)), .int ((q12.2.1 1 5) - (q7.2.1 1 5))]) (rest := []) (stk := []) ⟨hx, hb, hml, hown, hts⟩ hK hE hA hP hD hS (c_X8_rewrite l D G Z Y q12.2 ((q4.2.1 1 5) + (2 : Int32)) ((q12.2.1 1 5) - (q7.2.1 1 5)) q14 hq14) (cwV 2 hts (gwV wd_514 wd_515 wd_516 wd_2 wd_517) rfl rfl rfl hd_X8_rewrite ⟨Nat.le_of_ble_eq_true rfl, Nat.le_of_ble_eq_true rfl⟩) (hg_1 G Z Y q12.2) rfl rfl rfl hl.1 rfl (Nat.le_of_ble_eq_true rfl) dX10_clause_161 ⟨Nat.zero_le _, Nat.zero_le _⟩ rfl (fun H locs hP hD hS => ?_)
          refine lv_iconst (v := 1) hx hb dX10_clause_164 (by decide) ?_
          obtain rfl := Option.some.inj h
          exact W.zret (v := (1 : Int32)) hx hb hr rfl (q_end hK hP hD hS) hS.2.2 dX10_clause_165
        · skip
          have h := f_f c13 h
          refine lv_aload_n hx hb dX10_clause_108 rfl (lv_at hl 3 rfl) ?_
          refine va_get (D := D) (ci := 10) (v := .ref (G.2.1 1)) (C := RX10) (T := TX10) (N := 3) hx hb hts inU_X10 hown hK hP _ (hg_Rd G Z Y q12.2 hr0) rfl 0 (by decide) (hts _ wd_88) (fun _ h9 => h9) rfl dX10_clause_109 ?_
          refine lv_iload_n hx hb dX10_clause_112 rfl (lv_at hl 1 rfl) ?_
          refine lv_iconst (v := 1) hx hb dX10_clause_113 (by decide) ?_
          refine lv_iadd hx hb dX10_clause_114 ?_
          refine lv_aload_n hx hb dX10_clause_115 rfl (lv_at hl 3 rfl) ?_
          refine va_get (D := D) (ci := 10) (v := .ref (G.2.1 1)) (C := RX10) (T := TX10) (N := 3) hx hb hts inU_X10 hown hK hP _ (hg_Rd G Z Y q12.2 hr0) rfl 0 (by decide) (hts _ wd_88) (fun _ h9 => h9) rfl dX10_clause_116 ?_
          refine va_getN (D := D) (ci := 8) (v := .int (q12.2.1 1 5)) (C := RX8) (T := TX8) (N := 6) hx hb hts inU_X8 hown hK hP _ (hg_1 G Z Y q12.2) rfl 5 (by decide) (nF_use 3 hE rfl) (fun _ h9 => h9) rfl dX10_clause_119 ?_
          refine lv_iload_n hx hb dX10_clause_122 rfl (lv_at hl 0 rfl) ?_
          refine lv_isub hx hb dX10_clause_123 ?_
          obtain ⟨q15, hq15, h⟩ := f_b h
          refine cl_V (w := (hW G Z Y q12.2)) (w' := (hW G Z Y q15.2)) (rv := none) (bytes := cX8_rewrite) (maxL := 3) (ret := none) (C := RX8) (As := [.int ((q4.2.1 1 5) + (1 : Int32)), .int ((q12.2.1 1 5) - (q7.2.1 1 5))]) (rest := []) (stk := []) ⟨hx, hb, hml, hown, hts⟩ hK hE hA hP hD hS (c_X8_rewrite l D G Z Y q12.2 ((q4.2.1 1 5) + (1 : Int32)) ((q12.2.1 1 5) - (q7.2.1 1 5)) q15 hq15) (cwV 2 hts (gwV wd_514 wd_515 wd_516 wd_2 wd_517) rfl rfl rfl hd_X8_rewrite ⟨Nat.le_of_ble_eq_true rfl, Nat.le_of_ble_eq_true rfl⟩) (hg_1 G Z Y q12.2) rfl rfl rfl hl.1 rfl (Nat.le_of_ble_eq_true rfl) dX10_clause_124 ⟨Nat.zero_le _, Nat.zero_le _⟩ rfl (fun H locs hP hD hS => ?_)
          refine lv_aload_n hx hb dX10_clause_127 rfl (lv_at hl 3 rfl) ?_
          refine va_get (D := D) (ci := 10) (v := .ref (G.2.1 1)) (C := RX10) (T := TX10) (N := 3) hx hb hts inU_X10 hown hK hP _ (hg_Rd G Z Y q15.2 hr0) rfl 0 (by decide) (hts _ wd_88) (fun _ h9 => h9) rfl dX10_clause_128 ?_
          refine va_getN (D := D) (ci := 8) (v := .int (q15.2.1 1 5)) (C := RX8) (T := TX8) (N := 6) hx hb hts inU_X8 hown hK hP _ (hg_1 G Z Y q15.2) rfl 5 (by decide) (nF_use 3 hE rfl) (fun _ h9 => h9) rfl dX10_clause_131 ?_
          refine lv_istore_n (lv' := [(3, .int (q15.2.1 1 5)), (2, .int (q4.2.1 1 5)), (1, .int q1.1), (0, .ref (G.2.1 r0))]) hx hb dX10_clause_134 rfl hl (by decide) rfl (fun ls hl => ?_)
          refine lv_aload_n hx hb dX10_clause_135 rfl (lv_at hl 3 rfl) ?_
          refine lv_iconst (v := 0) hx hb dX10_clause_136 (by decide) ?_
          obtain ⟨q16, hq16, h⟩ := f_b h
          refine cl_V (w := (hW G Z Y q15.2)) (w' := (hW G Z Y q16.2)) (rv := some (.int q16.1)) (bytes := cX10_total) (maxL := 4) (ret := (some .boolean)) (C := RX10) (As := [.int (0 : Int32)]) (rest := []) (stk := [.int q16.1]) ⟨hx, hb, hml, hown, hts⟩ hK hE hA hP hD hS (c_X10_total l D G Z Y q15.2 F r0 hr0 (0 : Int32) q16 hq16) (cwV 1 hts (gwV wd_481 wd_483 wp_10 wd_4 wd_484) rfl rfl rfl hd_X10_total ⟨Nat.le_of_ble_eq_true rfl, Nat.le_of_ble_eq_true rfl⟩) (hg_Rd G Z Y q15.2 hr0) rfl rfl rfl hl.1 rfl (Nat.le_of_ble_eq_true rfl) dX10_clause_137 ⟨Nat.zero_le _, Nat.zero_le _⟩ rfl (fun H locs hP hD hS => ?_)
          refine lv_if_ne (tgt := 145) hx hb dX10_clause_140 (by decide) (fun c17 => ?_) (fun c17 => ?_)
          · skip
            have h := f_f c17 h
            refine lv_aload_n hx hb dX10_clause_145 rfl (lv_at hl 3 rfl) ?_
            refine va_get (D := D) (ci := 10) (v := .ref (G.2.1 1)) (C := RX10) (T := TX10) (N := 3) hx hb hts inU_X10 hown hK hP _ (hg_Rd G Z Y q16.2 hr0) rfl 0 (by decide) (hts _ wd_88) (fun _ h9 => h9) rfl dX10_clause_146 ?_
            refine lv_iload_n hx hb dX10_clause_149 rfl (lv_at hl 1 rfl) ?_
            refine lv_iconst (v := 2) hx hb dX10_clause_150 (by decide) ?_
            refine lv_iadd hx hb dX10_clause_151 ?_
            refine lv_aload_n hx hb dX10_clause_152 rfl (lv_at hl 3 rfl) ?_
            refine va_get (D := D) (ci := 10) (v := .ref (G.2.1 1)) (C := RX10) (T := TX10) (N := 3) hx hb hts inU_X10 hown hK hP _ (hg_Rd G Z Y q16.2 hr0) rfl 0 (by decide) (hts _ wd_88) (fun _ h9 => h9) rfl dX10_clause_153 ?_
            refine va_getN (D := D) (ci := 8) (v := .int (q16.2.1 1 5)) (C := RX8) (T := TX8) (N := 6) hx hb hts inU_X8 hown hK hP _ (hg_1 G Z Y q16.2) rfl 5 (by decide) (nF_use 3 hE rfl) (fun _ h9 => h9) rfl dX10_clause_156 ?_
            refine lv_iload_n hx hb dX10_clause_159 rfl (lv_at hl 0 rfl) ?_
            refine lv_isub hx hb dX10_clause_160 ?_
            obtain ⟨q18, hq18, h⟩ := f_b h
            refine cl_V (w := (hW G Z Y q16.2)) (w' := (hW G Z Y q18.2)) (rv := none) (bytes := cX8_rewrite) (maxL := 3) (ret := none) (C := RX8) (As := [.int ((q4.2.1 1 5) + (2 : Int32)), .int ((q16.2.1 1 5) - (q15.2.1 1 5))]) (rest := []) (stk := []) ⟨hx, hb, hml, hown, hts⟩ hK hE hA hP hD hS (c_X8_rewrite l D G Z Y q16.2 ((q4.2.1 1 5) + (2 : Int32)) ((q16.2.1 1 5) - (q15.2.1 1 5)) q18 hq18) (cwV 2 hts (gwV wd_514 wd_515 wd_516 wd_2 wd_517) rfl rfl rfl hd_X8_rewrite ⟨Nat.le_of_ble_eq_true rfl, Nat.le_of_ble_eq_true rfl⟩) (hg_1 G Z Y q16.2) rfl rfl rfl hl.1 rfl (Nat.le_of_ble_eq_true rfl) dX10_clause_161 ⟨Nat.zero_le _, Nat.zero_le _⟩ rfl (fun H locs hP hD hS => ?_)
            refine lv_iconst (v := 1) hx hb dX10_clause_164 (by decide) ?_
            obtain rfl := Option.some.inj h
            exact W.zret (v := (1 : Int32)) hx hb hr rfl (q_end hK hP hD hS) hS.2.2 dX10_clause_165
          · skip
            have h := f_t c17 h
            refine lv_iconst (v := 0) hx hb dX10_clause_143 (by decide) ?_
            obtain rfl := Option.some.inj h
            exact W.zret (v := (0 : Int32)) hx hb hr rfl (q_end hK hP hD hS) hS.2.2 dX10_clause_144
      · skip
        have h := f_t c11 h
        refine lv_iconst (v := 0) hx hb dX10_clause_94 (by decide) ?_
        obtain rfl := Option.some.inj h
        exact W.zret (v := (0 : Int32)) hx hb hr rfl (q_end hK hP hD hS) hS.2.2 dX10_clause_95
  · skip
    have h := f_f c3 h
    refine lv_aload_n hx hb dX10_clause_20 rfl (lv_at hl 1 rfl) ?_
    refine va_get (D := D) (ci := 10) (v := .ref (G.2.1 1)) (C := RX10) (T := TX10) (N := 3) hx hb hts inU_X10 hown hK hP _ (hg_Rd G Z Y q1.2 hr0) rfl 0 (by decide) (hts _ wd_88) (fun _ h9 => h9) rfl dX10_clause_21 ?_
    obtain ⟨q19, hq19, h⟩ := f_b h
    refine cl_V (w := (hW G Z Y q1.2)) (w' := (hW G Z Y q19.2)) (rv := some (.int q19.1)) (bytes := cX8_fail) (maxL := 1) (ret := (some .boolean)) (C := RX8) (As := []) (rest := []) (stk := [.int q19.1]) ⟨hx, hb, hml, hown, hts⟩ hK hE hA hP hD hS (c_X8_fail l D G Z Y q1.2 q19 hq19) (cwV 0 hts (gwV wd_454 wd_348 wd_349 wd_2 wd_350) rfl rfl rfl hd_X8_fail ⟨Nat.le_of_ble_eq_true rfl, Nat.le_of_ble_eq_true rfl⟩) (hg_1 G Z Y q1.2) rfl rfl rfl hl.1 rfl (Nat.le_of_ble_eq_true rfl) dX10_clause_24 ⟨Nat.zero_le _, Nat.zero_le _⟩ rfl (fun H locs hP hD hS => ?_)
    obtain ⟨c20, h⟩ := f_c h
    obtain rfl := Option.some.inj h
    exact W.zret (v := q19.1) hx hb hr (bn c20) (q_end hK hP hD hS) hS.2.2 dX10_clause_27
abbrev rm_X10_read : Room := { frames := 79, cells := 0, slots := 0, locals := 1819 }
set_option maxRecDepth 100000 in
set_option maxHeartbeats 8000000 in
theorem W_X10_read_L16 {p : Program} {e : Env} {s : State} {m : MethodId} {args : Array Value} {below : List Frame} {meth : Method} {c : Code} {A : Nat → Prop} (l : Launch) (D : va_G) (G : hG) (Z : hZ) (Y : va_W) (σ0 : hSt) (F : Nat) (r0 : Nat) (hr0 : isRd r0 = true) (res : (Int32 × hSt)) (C0 : Cx p s m args meth c cX10_read (some .int) RX10 3 D G A) (hA : ∀ q : Nat, s.heap.size ≤ q → A q) (k47 : hSt → Int32 → Option (Int32 × hSt)) (hk47 : ∀ (σ1 : hSt) (z1 : Int32), k47 σ1 z1 = some res → ∀ (H : Heap) (locs : List Loc) (ls : Array Slot), va_P D vwCl (hW G Z Y σ1) H → va_D A (hW G Z Y σ1) → va_S A s.heap H locs → lv_has ls 3 [(0, .ref (G.2.1 r0)), (1, .int z1)] → W p l e rm_X10_read s m args below meth c H locs 0 0 (MQ below (Qg (some (.int res.1)) D (tysG G) (hW G Z Y res.2) A) args s 0 0 A) (F0 m 47 ls [])) : ∀ (n : Nat) (σ1 : hSt) (z1 : Int32) (z2 : Int32), f_X10_read_L16 F Z r0 k47 n σ1 z1 z2 = some res → ∀ (H : Heap) (locs : List Loc) (ls : Array Slot), va_P D vwCl (hW G Z Y σ1) H → va_D A (hW G Z Y σ1) → va_S A s.heap H locs → lv_has ls 3 [(0, .ref (G.2.1 r0)), (1, .int z1), (2, .int z2)] → W p l e rm_X10_read s m args below meth c H locs 0 0 (MQ below (Qg (some (.int res.1)) D (tysG G) (hW G Z Y res.2) A) args s 0 0 A) (F0 m 16 ls []) := by
  obtain ⟨hx, hb, hr, hml, hown, hts, hlocks, hK, hE⟩ := id C0
  intro n
  induction n with
  | zero =>
    intro σ1 z1 z2 h
    cases h
  | succ n ih =>
    intro σ1 z1 z2 h H locs ls hP hD hS hl
    rw [f_X10_read_L16] at h
    refine lv_iload_n hx hb dX10_read_16 rfl (lv_at hl 2 rfl) ?_
    refine lv_if_le (tgt := 47) hx hb dX10_read_17 (by decide) (fun c3 => ?_) (fun c3 => ?_)
    · skip
      have h := f_t c3 h
      exact hk47 σ1 z1 h _ _ _ hP hD hS (lv_sub hl [0, 1] rfl)
    · skip
      have h := f_f c3 h
      refine lv_iload_n hx hb dX10_read_20 rfl (lv_at hl 1 rfl) ?_
      refine lv_if_eq (tgt := 47) hx hb dX10_read_21 (by decide) (fun c4 => ?_) (fun c4 => ?_)
      · skip
        have h := f_t c4 h
        exact hk47 σ1 z1 h _ _ _ hP hD hS (lv_sub hl [0, 1] rfl)
      · skip
        have h := f_f c4 h
        refine lv_aload_n hx hb dX10_read_24 rfl (lv_at hl 0 rfl) ?_
        refine va_get (D := D) (ci := 10) (v := .ref (G.2.1 1)) (C := RX10) (T := TX10) (N := 3) hx hb hts inU_X10 hown hK hP _ (hg_Rd G Z Y σ1 hr0) rfl 0 (by decide) (hts _ wd_88) (fun _ h9 => h9) rfl dX10_read_25 ?_
        refine lv_bipush (v := 59) hx hb dX10_read_28 (by decide) ?_
        obtain ⟨q5, hq5, h⟩ := f_b h
        refine cl_V (w := (hW G Z Y σ1)) (w' := (hW G Z Y q5.2)) (rv := some (.int q5.1)) (bytes := cX8_take) (maxL := 2) (ret := (some .boolean)) (C := RX8) (As := [.int (59 : Int32)]) (rest := []) (stk := [.int q5.1]) ⟨hx, hb, hml, hown, hts⟩ hK hE hA hP hD hS (c_X8_take l D G Z Y σ1 F (59 : Int32) q5 hq5) (cwV 1 hts (gwV wd_509 wd_352 wd_353 wd_2 wd_354) rfl rfl rfl hd_X8_take ⟨Nat.le_of_ble_eq_true rfl, Nat.le_of_ble_eq_true rfl⟩) (hg_1 G Z Y σ1) rfl rfl rfl hl.1 rfl (Nat.le_of_ble_eq_true rfl) dX10_read_30 ⟨Nat.zero_le _, Nat.zero_le _⟩ rfl (fun H locs hP hD hS => ?_)
        refine lv_if_eq (tgt := 47) hx hb dX10_read_33 (by decide) (fun c6 => ?_) (fun c6 => ?_)
        · skip
          have h := f_t c6 h
          exact hk47 q5.2 z1 h _ _ _ hP hD hS (lv_sub hl [0, 1] rfl)
        · skip
          have h := f_f c6 h
          refine lv_aload_n hx hb dX10_read_36 rfl (lv_at hl 0 rfl) ?_
          obtain ⟨q7, hq7, h⟩ := f_b h
          refine cl_V (w := (hW G Z Y q5.2)) (w' := (hW G Z Y q7.2)) (rv := some (.int q7.1)) (bytes := cX10_clause) (maxL := 4) (ret := (some .boolean)) (C := RX10) (As := []) (rest := []) (stk := [.int q7.1]) ⟨hx, hb, hml, hown, hts⟩ hK hE hA hP hD hS (c_X10_clause l D G Z Y q5.2 F r0 hr0 q7 hq7) (cwV 0 hts (gwV wd_365 wd_367 wp_4 wd_4 wd_368) rfl rfl rfl hd_X10_clause ⟨Nat.le_of_ble_eq_true rfl, Nat.le_of_ble_eq_true rfl⟩) (hg_Rd G Z Y q5.2 hr0) rfl rfl rfl hl.1 rfl (Nat.le_of_ble_eq_true rfl) dX10_read_37 ⟨Nat.zero_le _, Nat.zero_le _⟩ rfl (fun H locs hP hD hS => ?_)
          refine lv_istore_n (lv' := [(1, .int q7.1), (0, .ref (G.2.1 r0)), (2, .int z2)]) hx hb dX10_read_40 rfl hl (by decide) rfl (fun ls hl => ?_)
          refine lv_iinc (v := (z2 + (-1 : Int32))) (lv' := [(2, .int (z2 + (-1 : Int32))), (1, .int q7.1), (0, .ref (G.2.1 r0))]) hx hb dX10_read_41 hl (k := 2) rfl rfl (by decide) rfl (fun ls hl => ?_)
          refine lv_goto (tgt := 16) hx hb dX10_read_44 (by decide) ?_
          exact ih q7.2 q7.1 (z2 + (-1 : Int32)) h _ _ _ hP hD hS (lv_sub hl [2, 1, 0] rfl)
set_option maxRecDepth 100000 in
set_option maxHeartbeats 8000000 in
theorem c_X10_read (l : Launch) (D : va_G) (G : hG) (Z : hZ) (Y : va_W) (σ0 : hSt) (F : Nat) (r0 : Nat) (hr0 : isRd r0 = true) (res : (Int32 × hSt)) (h : f_X10_read F Z σ0 r0 = some res) : CT l yX10_read cX10_read 3 (some .int) rm_X10_read D G 0 0 [.ref (G.2.1 r0)] (hW G Z Y σ0) (hW G Z Y res.2) (some (.int res.1)) := by
  unfold f_X10_read at h
  refine CT.mk (cc := cX10_read) (maxL := 3) (ret := (some .int)) (own := RX10) (plainFor_of_name (by decide)) rfl (Nat.le_of_ble_eq_true rfl) ?_
  intro p e s m args below meth c A ls C0 hnm hA hP hD hl
  obtain ⟨hx, hb, hr, hml, hown, hts, hlocks, hK, hE⟩ := id C0
  have hS : va_S A s.heap s.heap [] := va_S.rf
  have hl : lv_has ls 3 [(0, .ref (G.2.1 r0))] := hl
  refine lv_aload_n hx hb dX10_read_0 rfl (lv_at hl 0 rfl) ?_
  refine va_get (D := D) (ci := 10) (v := .ref (G.2.1 1)) (C := RX10) (T := TX10) (N := 3) hx hb hts inU_X10 hown hK hP _ (hg_Rd G Z Y σ0 hr0) rfl 0 (by decide) (hts _ wd_88) (fun _ h9 => h9) rfl dX10_read_1 ?_
  obtain ⟨q1, hq1, h⟩ := f_b h
  refine cl_V (w := (hW G Z Y σ0)) (w' := (hW G Z Y q1.2)) (rv := none) (bytes := cX8_begin) (maxL := 1) (ret := none) (C := RX8) (As := []) (rest := []) (stk := []) ⟨hx, hb, hml, hown, hts⟩ hK hE hA hP hD hS (c_X8_begin l D G Z Y σ0 q1 hq1) (cwV 0 hts (gwV wd_364 wd_308 wd_309 wd_2 wd_310) rfl rfl rfl hd_X8_begin ⟨Nat.le_of_ble_eq_true rfl, Nat.le_of_ble_eq_true rfl⟩) (hg_1 G Z Y σ0) rfl rfl rfl hl.1 rfl (Nat.le_of_ble_eq_true rfl) dX10_read_4 ⟨Nat.zero_le _, Nat.zero_le _⟩ rfl (fun H locs hP hD hS => ?_)
  refine lv_aload_n hx hb dX10_read_7 rfl (lv_at hl 0 rfl) ?_
  obtain ⟨q2, hq2, h⟩ := f_b h
  refine cl_V (w := (hW G Z Y q1.2)) (w' := (hW G Z Y q2.2)) (rv := some (.int q2.1)) (bytes := cX10_clause) (maxL := 4) (ret := (some .boolean)) (C := RX10) (As := []) (rest := []) (stk := [.int q2.1]) ⟨hx, hb, hml, hown, hts⟩ hK hE hA hP hD hS (c_X10_clause l D G Z Y q1.2 F r0 hr0 q2 hq2) (cwV 0 hts (gwV wd_365 wd_367 wp_4 wd_4 wd_368) rfl rfl rfl hd_X10_clause ⟨Nat.le_of_ble_eq_true rfl, Nat.le_of_ble_eq_true rfl⟩) (hg_Rd G Z Y q1.2 hr0) rfl rfl rfl hl.1 rfl (Nat.le_of_ble_eq_true rfl) dX10_read_8 ⟨Nat.zero_le _, Nat.zero_le _⟩ rfl (fun H locs hP hD hS => ?_)
  refine lv_istore_n (lv' := [(1, .int q2.1), (0, .ref (G.2.1 r0))]) hx hb dX10_read_11 rfl hl (by decide) rfl (fun ls hl => ?_)
  refine lv_sipush (v := 200) hx hb dX10_read_12 (by decide) ?_
  refine lv_istore_n (lv' := [(2, .int (200 : Int32)), (1, .int q2.1), (0, .ref (G.2.1 r0))]) hx hb dX10_read_15 rfl hl (by decide) rfl (fun ls hl => ?_)
  refine W_X10_read_L16 l D G Z Y σ0 F r0 hr0 res C0 hA _ ?_ F q2.2 q2.1 (200 : Int32) h _ _ _ hP hD hS (lv_sub hl [2, 1, 0] rfl)
  · intro σ1 z1 h H locs ls hP hD hS hl
    refine lv_iload_n hx hb dX10_read_47 rfl (lv_at hl 1 rfl) ?_
    refine lv_if_eq (tgt := 65) hx hb dX10_read_48 (by decide) (fun c8 => ?_) (fun c8 => ?_)
    · skip
      have h := f_t c8 h
      refine lv_aload_n hx hb dX10_read_65 rfl (lv_at hl 0 rfl) ?_
      refine va_get (D := D) (ci := 10) (v := .ref (G.2.1 1)) (C := RX10) (T := TX10) (N := 3) hx hb hts inU_X10 hown hK hP _ (hg_Rd G Z Y σ1 hr0) rfl 0 (by decide) (hts _ wd_88) (fun _ h9 => h9) rfl dX10_read_66 ?_
      refine va_getN (D := D) (ci := 8) (v := .int (σ1.1 1 4)) (C := RX8) (T := TX8) (N := 6) hx hb hts inU_X8 hown hK hP _ (hg_1 G Z Y σ1) rfl 4 (by decide) (nF_use 2 hE rfl) (fun _ h9 => h9) rfl dX10_read_69 ?_
      obtain rfl := Option.some.inj h
      exact W.iret (v := (σ1.1 1 4)) hx hb hr (q_end hK hP hD hS) hS.2.2 dX10_read_72
    · skip
      have h := f_f c8 h
      refine lv_aload_n hx hb dX10_read_51 rfl (lv_at hl 0 rfl) ?_
      refine va_get (D := D) (ci := 10) (v := .ref (G.2.1 1)) (C := RX10) (T := TX10) (N := 3) hx hb hts inU_X10 hown hK hP _ (hg_Rd G Z Y σ1 hr0) rfl 0 (by decide) (hts _ wd_88) (fun _ h9 => h9) rfl dX10_read_52 ?_
      obtain ⟨q9, hq9, h⟩ := f_b h
      refine cl_V (w := (hW G Z Y σ1)) (w' := (hW G Z Y q9.2)) (rv := some (.int q9.1)) (bytes := cX8_expectEnd) (maxL := 1) (ret := (some .boolean)) (C := RX8) (As := []) (rest := []) (stk := [.int q9.1]) ⟨hx, hb, hml, hown, hts⟩ hK hE hA hP hD hS (c_X8_expectEnd l D G Z Y σ1 F q9 hq9) (cwV 0 hts (gwV wd_518 wd_356 wd_357 wd_2 wd_358) rfl rfl rfl hd_X8_expectEnd ⟨Nat.le_of_ble_eq_true rfl, Nat.le_of_ble_eq_true rfl⟩) (hg_1 G Z Y σ1) rfl rfl rfl hl.1 rfl (Nat.le_of_ble_eq_true rfl) dX10_read_55 ⟨Nat.zero_le _, Nat.zero_le _⟩ rfl (fun H locs hP hD hS => ?_)
      refine lv_if_eq (tgt := 65) hx hb dX10_read_58 (by decide) (fun c10 => ?_) (fun c10 => ?_)
      · skip
        have h := f_t c10 h
        refine lv_aload_n hx hb dX10_read_65 rfl (lv_at hl 0 rfl) ?_
        refine va_get (D := D) (ci := 10) (v := .ref (G.2.1 1)) (C := RX10) (T := TX10) (N := 3) hx hb hts inU_X10 hown hK hP _ (hg_Rd G Z Y q9.2 hr0) rfl 0 (by decide) (hts _ wd_88) (fun _ h9 => h9) rfl dX10_read_66 ?_
        refine va_getN (D := D) (ci := 8) (v := .int (q9.2.1 1 4)) (C := RX8) (T := TX8) (N := 6) hx hb hts inU_X8 hown hK hP _ (hg_1 G Z Y q9.2) rfl 4 (by decide) (nF_use 2 hE rfl) (fun _ h9 => h9) rfl dX10_read_69 ?_
        obtain rfl := Option.some.inj h
        exact W.iret (v := (q9.2.1 1 4)) hx hb hr (q_end hK hP hD hS) hS.2.2 dX10_read_72
      · skip
        have h := f_f c10 h
        refine lv_iconst (v := (-1)) hx hb dX10_read_61 (by decide) ?_
        refine lv_goto (tgt := 72) hx hb dX10_read_62 (by decide) ?_
        obtain rfl := Option.some.inj h
        exact W.iret (v := (-1 : Int32)) hx hb hr (q_end hK hP hD hS) hS.2.2 dX10_read_72
