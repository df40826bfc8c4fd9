abbrev rm_J0_coder_7d493 : Room := { frames := 0, cells := 0, slots := 0, locals := 0 }
set_option maxRecDepth 100000 in
set_option maxHeartbeats 8000000 in
theorem c_J0_coder_7d493 (l : Launch) (D : va_G) (G : hG) (w : va_W) (r0 : Nat) (hr0 : isSt r0 = true) (res : Int32) (h : f_J0_coder_7d493 r0 = some res) : CT l yJ0_coder_7d493 cJ0_coder_7d493 1 (some .byte) rm_J0_coder_7d493 D G 0 0 [.ref (G.2.2 r0)] w w (some (.int res)) := by
  unfold f_J0_coder_7d493 at h
  refine CT.mk (cc := cJ0_coder_7d493) (maxL := 1) (ret := (some .byte)) (own := RJ0) (plainFor_of_name (by decide)) rfl (Nat.le_of_ble_eq_true rfl) ?_
  intro p e s m args below meth c A ls C0 hnm hA hP hD hl
  obtain ⟨hx, hb, hr, hml, hown, hts, hlocks, hK, hE⟩ := id C0
  have hS : va_S A s.heap s.heap [] := va_S.rf
  have hl : lv_has ls 1 [(0, .ref (G.2.2 r0))] := hl
  refine va_gets hx hb hE.2.1 hS hown (hts _ wd_382) (fun _ h9 => h9) dJ0_coder_7d493_0 ?_
  refine lv_if_eq (tgt := 13) hx hb dJ0_coder_7d493_3 (by decide) (fun c1 => ?_) (fun c1 => ?_)
  · skip
    have h := f_t c1 h
    refine lv_iconst (v := 1) hx hb dJ0_coder_7d493_13 (by decide) ?_
    obtain rfl := Option.some.inj h
    exact W.zret (v := (1 : Int32)) hx hb hr rfl (q_end hK hP hD hS) hS.2.2 dJ0_coder_7d493_14
  · skip
    have h := f_f c1 h
    refine lv_aload_n hx hb dJ0_coder_7d493_6 rfl (lv_at hl 0 rfl) ?_
    refine vk_getf hx hb (hE.1.1 _ (isSt_lt hr0)).2.1 hS hown (hts _ wd_1905) (fun _ h9 => h9) dJ0_coder_7d493_7 ?_
    refine lv_goto (tgt := 14) hx hb dJ0_coder_7d493_10 (by decide) ?_
    obtain rfl := Option.some.inj h
    exact W.zret (v := (0 : Int32)) hx hb hr rfl (q_end hK hP hD hS) hS.2.2 dJ0_coder_7d493_14
abbrev rm_J0_isLatin1_aae02 : Room := { frames := 0, cells := 0, slots := 0, locals := 0 }
set_option maxRecDepth 100000 in
set_option maxHeartbeats 8000000 in
theorem c_J0_isLatin1_aae02 (l : Launch) (D : va_G) (G : hG) (w : va_W) (r0 : Nat) (hr0 : isSt r0 = true) (res : Int32) (h : f_J0_isLatin1_aae02 r0 = some res) : CT l yJ0_isLatin1_aae02 cJ0_isLatin1_aae02 1 (some .boolean) rm_J0_isLatin1_aae02 D G 0 0 [.ref (G.2.2 r0)] w w (some (.int res)) := by
  unfold f_J0_isLatin1_aae02 at h
  refine CT.mk (cc := cJ0_isLatin1_aae02) (maxL := 1) (ret := (some .boolean)) (own := RJ0) (plainFor_of_name (by decide)) rfl (Nat.le_of_ble_eq_true rfl) ?_
  intro p e s m args below meth c A ls C0 hnm hA hP hD hl
  obtain ⟨hx, hb, hr, hml, hown, hts, hlocks, hK, hE⟩ := id C0
  have hS : va_S A s.heap s.heap [] := va_S.rf
  have hl : lv_has ls 1 [(0, .ref (G.2.2 r0))] := hl
  refine va_gets hx hb hE.2.1 hS hown (hts _ wd_382) (fun _ h9 => h9) dJ0_isLatin1_aae02_0 ?_
  refine lv_if_eq (tgt := 17) hx hb dJ0_isLatin1_aae02_3 (by decide) (fun c1 => ?_) (fun c1 => ?_)
  · skip
    have h := f_t c1 h
    refine lv_iconst (v := 0) hx hb dJ0_isLatin1_aae02_17 (by decide) ?_
    obtain rfl := Option.some.inj h
    exact W.zret (v := (0 : Int32)) hx hb hr rfl (q_end hK hP hD hS) hS.2.2 dJ0_isLatin1_aae02_18
  · skip
    have h := f_f c1 h
    refine lv_aload_n hx hb dJ0_isLatin1_aae02_6 rfl (lv_at hl 0 rfl) ?_
    refine vk_getf hx hb (hE.1.1 _ (isSt_lt hr0)).2.1 hS hown (hts _ wd_1905) (fun _ h9 => h9) dJ0_isLatin1_aae02_7 ?_
    refine lv_if_ne (tgt := 17) hx hb dJ0_isLatin1_aae02_10 (by decide) (fun c2 => ?_) (fun c2 => ?_)
    · skip
      have h := f_f c2 h
      refine lv_iconst (v := 0) hx hb dJ0_isLatin1_aae02_17 (by decide) ?_
      obtain rfl := Option.some.inj h
      exact W.zret (v := (0 : Int32)) hx hb hr rfl (q_end hK hP hD hS) hS.2.2 dJ0_isLatin1_aae02_18
    · skip
      have h := f_t c2 h
      refine lv_iconst (v := 1) hx hb dJ0_isLatin1_aae02_13 (by decide) ?_
      refine lv_goto (tgt := 18) hx hb dJ0_isLatin1_aae02_14 (by decide) ?_
      obtain rfl := Option.some.inj h
      exact W.zret (v := (1 : Int32)) hx hb hr rfl (q_end hK hP hD hS) hS.2.2 dJ0_isLatin1_aae02_18
abbrev rm_J0_length_8abf5 : Room := { frames := 1, cells := 0, slots := 0, locals := 20 }
set_option maxRecDepth 100000 in
set_option maxHeartbeats 8000000 in
theorem c_J0_length_8abf5 (l : Launch) (D : va_G) (G : hG) (w : va_W) (r0 : Nat) (hr0 : isSt r0 = true) (res : Int32) (h : f_J0_length_8abf5 r0 = some res) : CT l yJ0_length_8abf5 cJ0_length_8abf5 1 (some .int) rm_J0_length_8abf5 D G 0 0 [.ref (G.2.2 r0)] w w (some (.int res)) := by
  unfold f_J0_length_8abf5 at h
  refine CT.mk (cc := cJ0_length_8abf5) (maxL := 1) (ret := (some .int)) (own := RJ0) (plainFor_of_name (by decide)) rfl (Nat.le_of_ble_eq_true rfl) ?_
  intro p e s m args below meth c A ls C0 hnm hA hP hD hl
  obtain ⟨hx, hb, hr, hml, hown, hts, hlocks, hK, hE⟩ := id C0
  have hS : va_S A s.heap s.heap [] := va_S.rf
  have hl : lv_has ls 1 [(0, .ref (G.2.2 r0))] := hl
  refine lv_aload_n hx hb dJ0_length_8abf5_0 rfl (lv_at hl 0 rfl) ?_
  refine vk_getf hx hb (hE.1.1 _ (isSt_lt hr0)).2.2.1 hS hown (hts _ wd_1906) (fun _ h9 => h9) dJ0_length_8abf5_1 ?_
  refine va_tlen (v := (Int32.ofNat (slen r0))) hx hb (hE.1.1 _ (isSt_lt hr0)).2.2.2 hS rfl dJ0_length_8abf5_4 ?_
  refine lv_aload_n hx hb dJ0_length_8abf5_5 rfl (lv_at hl 0 rfl) ?_
  obtain ⟨q1, hq1, h⟩ := f_b h
  refine cl_Vs (w := w) (w' := w) (rv := some (.int q1)) (bytes := cJ0_coder_7d493) (maxL := 1) (ret := (some .byte)) (C := RJ0) (As := []) (rest := [.int (Int32.ofNat (slen r0))]) (stk := [.int q1, .int (Int32.ofNat (slen r0))]) ⟨hx, hb, hml, hown, hts⟩ hK hE hA hP hD hS (c_J0_coder_7d493 l D G w r0 hr0 q1 hq1) (cwV 0 hts (gwV wd_388 wd_389 wd_390 wd_13 wd_391) rfl rfl rfl hd_J0_coder_7d493 ⟨Nat.le_of_ble_eq_true rfl, Nat.le_of_ble_eq_true rfl⟩) (isSt_lt hr0) rfl rfl hl.1 rfl (Nat.le_of_ble_eq_true rfl) dJ0_length_8abf5_6 ⟨Nat.zero_le _, Nat.zero_le _⟩ rfl (fun H locs hP hD hS => ?_)
  refine lv_ishr hx hb dJ0_length_8abf5_9 ?_
  obtain rfl := Option.some.inj h
  exact W.iret (v := ((Int32.ofNat (slen r0)) >>> (q1 &&& 31))) hx hb hr (q_end hK hP hD hS) hS.2.2 dJ0_length_8abf5_10
abbrev rm_J1_canEncode_9a6ad : Room := { frames := 0, cells := 0, slots := 0, locals := 0 }
set_option maxRecDepth 100000 in
set_option maxHeartbeats 8000000 in
theorem c_J1_canEncode_9a6ad (l : Launch) (D : va_G) (G : hG) (w : va_W) (x0 : Int32) (res : Int32) (h : f_J1_canEncode_9a6ad x0 = some res) : CT l yJ1_canEncode_9a6ad cJ1_canEncode_9a6ad 1 (some .boolean) rm_J1_canEncode_9a6ad D G 0 0 [.int x0] w w (some (.int res)) := by
  unfold f_J1_canEncode_9a6ad at h
  refine CT.mk (cc := cJ1_canEncode_9a6ad) (maxL := 1) (ret := (some .boolean)) (own := RJ1) (plainFor_of_name (by decide)) rfl (Nat.le_of_ble_eq_true rfl) ?_
  intro p e s m args below meth c A ls C0 hnm hA hP hD hl
  obtain ⟨hx, hb, hr, hml, hown, hts, hlocks, hK, hE⟩ := id C0
  have hS : va_S A s.heap s.heap [] := va_S.rf
  have hl : lv_has ls 1 [(0, .int x0)] := hl
  refine lv_iload_n hx hb dJ1_canEncode_9a6ad_0 rfl (lv_at hl 0 rfl) ?_
  refine lv_if_lt (tgt := 15) hx hb dJ1_canEncode_9a6ad_1 (by decide) (fun c1 => ?_) (fun c1 => ?_)
  · skip
    have h := f_t c1 h
    refine lv_iconst (v := 0) hx hb dJ1_canEncode_9a6ad_15 (by decide) ?_
    obtain rfl := Option.some.inj h
    exact W.zret (v := (0 : Int32)) hx hb hr rfl (q_end hK hP hD hS) hS.2.2 dJ1_canEncode_9a6ad_16
  · skip
    have h := f_f c1 h
    refine lv_iload_n hx hb dJ1_canEncode_9a6ad_4 rfl (lv_at hl 0 rfl) ?_
    refine lv_sipush (v := 255) hx hb dJ1_canEncode_9a6ad_5 (by decide) ?_
    refine lv_icmp_gt (tgt := 15) hx hb dJ1_canEncode_9a6ad_8 (by decide) (fun c2 => ?_) (fun c2 => ?_)
    · skip
      have h := f_t c2 h
      refine lv_iconst (v := 0) hx hb dJ1_canEncode_9a6ad_15 (by decide) ?_
      obtain rfl := Option.some.inj h
      exact W.zret (v := (0 : Int32)) hx hb hr rfl (q_end hK hP hD hS) hS.2.2 dJ1_canEncode_9a6ad_16
    · skip
      have h := f_f c2 h
      refine lv_iconst (v := 1) hx hb dJ1_canEncode_9a6ad_11 (by decide) ?_
      refine lv_goto (tgt := 16) hx hb dJ1_canEncode_9a6ad_12 (by decide) ?_
      obtain rfl := Option.some.inj h
      exact W.zret (v := (1 : Int32)) hx hb hr rfl (q_end hK hP hD hS) hS.2.2 dJ1_canEncode_9a6ad_16
abbrev rm_J1_indexOfChar_4cfef : Room := { frames := 0, cells := 0, slots := 0, locals := 0 }
set_option maxRecDepth 100000 in
set_option maxHeartbeats 8000000 in
theorem W_J1_indexOfChar_4cfef_L7 {p : Program} {e : Env} {s : State} {m : MethodId} {args : Array Value} {below : List Frame} {meth : Method} {c : Code} {A : Nat → Prop} (l : Launch) (D : va_G) (G : hG) (w : va_W) (F : Nat) (r0 : Nat) (hr0 : isSt r0 = true) (x1 : Int32) (x2 : Int32) (x3 : Int32) (y3 : Int32) (y4 : Int32) (res : Int32) (C0 : Cx p s m args meth c cJ1_indexOfChar_4cfef (some .int) RJ1 6 D G A) (hA : ∀ q : Nat, s.heap.size ≤ q → A q) : ∀ (n : Nat) (z5 : Int32), f_J1_indexOfChar_4cfef_L7 r0 y3 y4 n z5 = some res → ∀ (H : Heap) (locs : List Loc) (ls : Array Slot), va_P D vwCl w H → va_D A w → va_S A s.heap H locs → lv_has ls 6 [(0, .ref (G.2.2 (100 + r0))), (3, .int y3), (4, .int y4), (5, .int z5)] → W p l e rm_J1_indexOfChar_4cfef s m args below meth c H locs 0 0 (MQ below (Qg (some (.int res)) D (tysG G) w A) args s 0 0 A) (F0 m 7 ls []) := by
  obtain ⟨hx, hb, hr, hml, hown, hts, hlocks, hK, hE⟩ := id C0
  intro n
  induction n with
  | zero =>
    intro z5 h
    cases h
  | succ n ih =>
    intro z5 h H locs ls hP hD hS hl
    rw [f_J1_indexOfChar_4cfef_L7] at h
    refine lv_iload hx hb dJ1_indexOfChar_4cfef_7 (lv_at hl 3 rfl) ?_
    refine lv_iload_n hx hb dJ1_indexOfChar_4cfef_9 rfl (lv_at hl 1 rfl) ?_
    refine lv_icmp_ge (tgt := 31) hx hb dJ1_indexOfChar_4cfef_10 (by decide) (fun c1 => ?_) (fun c1 => ?_)
    · skip
      have h := f_t c1 h
      refine lv_iconst (v := (-1)) hx hb dJ1_indexOfChar_4cfef_31 (by decide) ?_
      obtain rfl := Option.some.inj h
      exact W.iret (v := (-1 : Int32)) hx hb hr (q_end hK hP hD hS) hS.2.2 dJ1_indexOfChar_4cfef_32
    · skip
      have h := f_f c1 h
      refine lv_aload_n hx hb dJ1_indexOfChar_4cfef_13 rfl (lv_at hl 0 rfl) ?_
      refine lv_iload hx hb dJ1_indexOfChar_4cfef_14 (lv_at hl 3 rfl) ?_
      obtain ⟨c2, h⟩ := f_n h
      refine va_tb (v := .int (sch r0 (z5 : Int32).toNatClampNeg)) hx hb (hE.1.1 _ (isSt_lt hr0)).2.2.2 hS c2 rfl dJ1_indexOfChar_4cfef_16 ?_
      refine lv_iload hx hb dJ1_indexOfChar_4cfef_17 (lv_at hl 2 rfl) ?_
      refine lv_icmp_ne (tgt := 25) hx hb dJ1_indexOfChar_4cfef_19 (by decide) (fun c3 => ?_) (fun c3 => ?_)
      · skip
        have h := f_f c3 h
        refine lv_iinc (v := (z5 + 1)) (lv' := [(5, .int (z5 + 1)), (0, .ref (G.2.2 (100 + r0))), (3, .int y3), (4, .int y4)]) hx hb dJ1_indexOfChar_4cfef_25 hl (k := 3) rfl rfl (by decide) rfl (fun ls hl => ?_)
        refine lv_goto (tgt := 7) hx hb dJ1_indexOfChar_4cfef_28 (by decide) ?_
        exact ih (z5 + 1) h _ _ _ hP hD hS (lv_sub hl [1, 2, 3, 0] rfl)
      · skip
        have h := f_t c3 h
        refine lv_iload hx hb dJ1_indexOfChar_4cfef_22 (lv_at hl 3 rfl) ?_
        obtain rfl := Option.some.inj h
        exact W.iret (v := z5) hx hb hr (q_end hK hP hD hS) hS.2.2 dJ1_indexOfChar_4cfef_24
set_option maxRecDepth 100000 in
set_option maxHeartbeats 8000000 in
theorem c_J1_indexOfChar_4cfef (l : Launch) (D : va_G) (G : hG) (w : va_W) (F : Nat) (r0 : Nat) (hr0 : isSt r0 = true) (x1 : Int32) (x2 : Int32) (x3 : Int32) (res : Int32) (h : f_J1_indexOfChar_4cfef F r0 x1 x2 x3 = some res) : CT l yJ1_indexOfChar_4cfef cJ1_indexOfChar_4cfef 6 (some .int) rm_J1_indexOfChar_4cfef D G 0 0 [.ref (G.2.2 (100 + r0)), .int x1, .int x2, .int x3] w w (some (.int res)) := by
  unfold f_J1_indexOfChar_4cfef at h
  refine CT.mk (cc := cJ1_indexOfChar_4cfef) (maxL := 6) (ret := (some .int)) (own := RJ1) (plainFor_of_name (by decide)) rfl (Nat.le_of_ble_eq_true rfl) ?_
  intro p e s m args below meth c A ls C0 hnm hA hP hD hl
  obtain ⟨hx, hb, hr, hml, hown, hts, hlocks, hK, hE⟩ := id C0
  have hS : va_S A s.heap s.heap [] := va_S.rf
  have hl : lv_has ls 6 [(0, .ref (G.2.2 (100 + r0))), (1, .int x1), (2, .int x2), (3, .int x3)] := hl
  refine lv_iload_n hx hb dJ1_indexOfChar_4cfef_0 rfl (lv_at hl 1 rfl) ?_
  refine lv_i2b (v := (x1 : Int32).toInt8.toInt32) hx hb dJ1_indexOfChar_4cfef_1 rfl ?_
  refine lv_istore (lv' := [(4, .int (x1 : Int32).toInt8.toInt32), (0, .ref (G.2.2 (100 + r0))), (1, .int x1), (2, .int x2), (3, .int x3)]) hx hb dJ1_indexOfChar_4cfef_2 hl (by decide) rfl (fun ls hl => ?_)
  refine lv_iload_n hx hb dJ1_indexOfChar_4cfef_4 rfl (lv_at hl 3 rfl) ?_
  refine lv_istore (lv' := [(5, .int x2), (4, .int (x1 : Int32).toInt8.toInt32), (0, .ref (G.2.2 (100 + r0))), (1, .int x1), (2, .int x2), (3, .int x3)]) hx hb dJ1_indexOfChar_4cfef_5 hl (by decide) rfl (fun ls hl => ?_)
  refine W_J1_indexOfChar_4cfef_L7 l D G w F r0 hr0 x1 x2 x3 x3 ((x1 : Int32).toInt8.toInt32) res C0 hA F x2 h _ _ _ hP hD hS (lv_sub hl [2, 5, 1, 0] rfl)
abbrev rm_J1_indexOf_4cfef : Room := { frames := 1, cells := 0, slots := 0, locals := 30 }
set_option maxRecDepth 100000 in
set_option maxHeartbeats 8000000 in
theorem c_J1_indexOf_4cfef (l : Launch) (D : va_G) (G : hG) (w : va_W) (F : Nat) (r0 : Nat) (hr0 : isSt r0 = true) (x1 : Int32) (x2 : Int32) (x3 : Int32) (res : Int32) (h : f_J1_indexOf_4cfef F r0 x1 x2 x3 = some res) : CT l yJ1_indexOf_4cfef cJ1_indexOf_4cfef 4 (some .int) rm_J1_indexOf_4cfef D G 0 0 [.ref (G.2.2 (100 + r0)), .int x1, .int x2, .int x3] w w (some (.int res)) := by
  unfold f_J1_indexOf_4cfef at h
  refine CT.mk (cc := cJ1_indexOf_4cfef) (maxL := 4) (ret := (some .int)) (own := RJ1) (plainFor_of_name (by decide)) rfl (Nat.le_of_ble_eq_true rfl) ?_
  intro p e s m args below meth c A ls C0 hnm hA hP hD hl
  obtain ⟨hx, hb, hr, hml, hown, hts, hlocks, hK, hE⟩ := id C0
  have hS : va_S A s.heap s.heap [] := va_S.rf
  have hl : lv_has ls 4 [(0, .ref (G.2.2 (100 + r0))), (1, .int x1), (2, .int x2), (3, .int x3)] := hl
  refine lv_iload_n hx hb dJ1_indexOf_4cfef_0 rfl (lv_at hl 1 rfl) ?_
  obtain ⟨q1, hq1, h⟩ := f_b h
  refine cl_S (w := w) (w' := w) (rv := some (.int q1)) (bytes := cJ1_canEncode_9a6ad) (maxL := 1) (ret := (some .boolean)) (As := [.int x1]) (rest := []) (stk := [.int q1]) ⟨hx, hb, hml, hown, hts⟩ hK hE hA hP hD hS (c_J1_canEncode_9a6ad l D G w x1 q1 hq1) (mkS hts wd_395 wd_396 wd_14 wd_397 rfl rfl hd_J1_canEncode_9a6ad ⟨Nat.le_of_ble_eq_true rfl, Nat.le_of_ble_eq_true rfl⟩) rfl hl.1 rfl (Nat.le_of_ble_eq_true rfl) dJ1_indexOf_4cfef_1 ⟨Nat.zero_le _, Nat.zero_le _⟩ rfl (fun H locs hP hD hS => ?_)
  refine lv_if_ne (tgt := 9) hx hb dJ1_indexOf_4cfef_4 (by decide) (fun c2 => ?_) (fun c2 => ?_)
  · skip
    have h := f_f c2 h
    refine lv_iload_n hx hb dJ1_indexOf_4cfef_9 rfl (lv_at hl 2 rfl) ?_
    refine lv_iconst (v := 0) hx hb dJ1_indexOf_4cfef_10 (by decide) ?_
    refine va_mmax hx hb (hml.trans hl.1.symm) hown (hts _ wd_398) (hts _ wd_328) (hts _ wd_12) (hts _ wd_329) (Nat.le_of_ble_eq_true rfl) (Nat.le_of_ble_eq_true rfl) (Nat.zero_le _) (Nat.zero_le _) dJ1_indexOf_4cfef_11 ?_
    refine lv_istore_n (lv' := [(2, .int (if x2 < (0 : Int32) then (0 : Int32) else x2)), (0, .ref (G.2.2 (100 + r0))), (1, .int x1), (3, .int x3)]) hx hb dJ1_indexOf_4cfef_14 rfl hl (by decide) rfl (fun ls hl => ?_)
    refine lv_iload_n hx hb dJ1_indexOf_4cfef_15 rfl (lv_at hl 3 rfl) ?_
    refine lv_aload_n hx hb dJ1_indexOf_4cfef_16 rfl (lv_at hl 1 rfl) ?_
    refine va_tlen (v := (Int32.ofNat (slen r0))) hx hb (hE.1.1 _ (isSt_lt hr0)).2.2.2 hS rfl dJ1_indexOf_4cfef_17 ?_
    refine va_mmin hx hb (hml.trans hl.1.symm) hown (hts _ wd_399) (hts _ wd_400) (hts _ wd_12) (hts _ wd_401) (Nat.le_of_ble_eq_true rfl) (Nat.le_of_ble_eq_true rfl) (Nat.zero_le _) (Nat.zero_le _) dJ1_indexOf_4cfef_18 ?_
    refine lv_istore_n (lv' := [(3, .int (if (Int32.ofNat (slen r0)) < x3 then (Int32.ofNat (slen r0)) else x3)), (2, .int (if x2 < (0 : Int32) then (0 : Int32) else x2)), (0, .ref (G.2.2 (100 + r0))), (1, .int x1)]) hx hb dJ1_indexOf_4cfef_21 rfl hl (by decide) rfl (fun ls hl => ?_)
    refine lv_iload_n hx hb dJ1_indexOf_4cfef_22 rfl (lv_at hl 1 rfl) ?_
    refine lv_iload_n hx hb dJ1_indexOf_4cfef_23 rfl (lv_at hl 0 rfl) ?_
    refine lv_icmp_lt (tgt := 29) hx hb dJ1_indexOf_4cfef_24 (by decide) (fun c3 => ?_) (fun c3 => ?_)
    · skip
      have h := f_t c3 h
      refine lv_aload_n hx hb dJ1_indexOf_4cfef_29 rfl (lv_at hl 2 rfl) ?_
      refine lv_iload_n hx hb dJ1_indexOf_4cfef_30 rfl (lv_at hl 3 rfl) ?_
      refine lv_iload_n hx hb dJ1_indexOf_4cfef_31 rfl (lv_at hl 1 rfl) ?_
      refine lv_iload_n hx hb dJ1_indexOf_4cfef_32 rfl (lv_at hl 0 rfl) ?_
      obtain ⟨q4, hq4, h⟩ := f_b h
      refine cl_S (w := w) (w' := w) (rv := some (.int q4)) (bytes := cJ1_indexOfChar_4cfef) (maxL := 6) (ret := (some .int)) (As := [.ref (G.2.2 (100 + r0)), .int x1, .int (if x2 < (0 : Int32) then (0 : Int32) else x2), .int (if (Int32.ofNat (slen r0)) < x3 then (Int32.ofNat (slen r0)) else x3)]) (rest := []) (stk := [.int q4]) ⟨hx, hb, hml, hown, hts⟩ hK hE hA hP hD hS (c_J1_indexOfChar_4cfef l D G w F r0 hr0 x1 (if x2 < (0 : Int32) then (0 : Int32) else x2) (if (Int32.ofNat (slen r0)) < x3 then (Int32.ofNat (slen r0)) else x3) q4 hq4) (mkS hts wd_402 wd_403 wd_14 wd_404 rfl rfl hd_J1_indexOfChar_4cfef ⟨Nat.le_of_ble_eq_true rfl, Nat.le_of_ble_eq_true rfl⟩) rfl hl.1 rfl (Nat.le_of_ble_eq_true rfl) dJ1_indexOf_4cfef_33 ⟨Nat.zero_le _, Nat.zero_le _⟩ rfl (fun H locs hP hD hS => ?_)
      obtain rfl := Option.some.inj h
      exact W.iret (v := q4) hx hb hr (q_end hK hP hD hS) hS.2.2 dJ1_indexOf_4cfef_36
    · skip
      have h := f_f c3 h
      refine lv_iconst (v := (-1)) hx hb dJ1_indexOf_4cfef_27 (by decide) ?_
      obtain rfl := Option.some.inj h
      exact W.iret (v := (-1 : Int32)) hx hb hr (q_end hK hP hD hS) hS.2.2 dJ1_indexOf_4cfef_28
  · skip
    have h := f_t c2 h
    refine lv_iconst (v := (-1)) hx hb dJ1_indexOf_4cfef_7 (by decide) ?_
    obtain rfl := Option.some.inj h
    exact W.iret (v := (-1 : Int32)) hx hb hr (q_end hK hP hD hS) hS.2.2 dJ1_indexOf_4cfef_8
abbrev rm_J0_indexOf_7cf53 : Room := { frames := 6, cells := 0, slots := 0, locals := 146 }
set_option maxRecDepth 100000 in
set_option maxHeartbeats 8000000 in
theorem c_J0_indexOf_7cf53 (l : Launch) (D : va_G) (G : hG) (w : va_W) (F : Nat) (r0 : Nat) (hr0 : isSt r0 = true) (x1 : Int32) (x2 : Int32) (res : Int32) (h : f_J0_indexOf_7cf53 F r0 x1 x2 = some res) : CT l yJ0_indexOf_7cf53 cJ0_indexOf_7cf53 3 (some .int) rm_J0_indexOf_7cf53 D G 0 0 [.ref (G.2.2 r0), .int x1, .int x2] w w (some (.int res)) := by
  unfold f_J0_indexOf_7cf53 at h
  refine CT.mk (cc := cJ0_indexOf_7cf53) (maxL := 3) (ret := (some .int)) (own := RJ0) (plainFor_of_name (by decide)) rfl (Nat.le_of_ble_eq_true rfl) ?_
  intro p e s m args below meth c A ls C0 hnm hA hP hD hl
  obtain ⟨hx, hb, hr, hml, hown, hts, hlocks, hK, hE⟩ := id C0
  have hS : va_S A s.heap s.heap [] := va_S.rf
  have hl : lv_has ls 3 [(0, .ref (G.2.2 r0)), (1, .int x1), (2, .int x2)] := hl
  refine lv_aload_n hx hb dJ0_indexOf_7cf53_0 rfl (lv_at hl 0 rfl) ?_
  obtain ⟨q1, hq1, h⟩ := f_b h
  refine cl_Vs (w := w) (w' := w) (rv := some (.int q1)) (bytes := cJ0_isLatin1_aae02) (maxL := 1) (ret := (some .boolean)) (C := RJ0) (As := []) (rest := []) (stk := [.int q1]) ⟨hx, hb, hml, hown, hts⟩ hK hE hA hP hD hS (c_J0_isLatin1_aae02 l D G w r0 hr0 q1 hq1) (cwV 0 hts (gwV wd_378 wd_379 wd_380 wd_13 wd_381) rfl rfl rfl hd_J0_isLatin1_aae02 ⟨Nat.le_of_ble_eq_true rfl, Nat.le_of_ble_eq_true rfl⟩) (isSt_lt hr0) rfl rfl hl.1 rfl (Nat.le_of_ble_eq_true rfl) dJ0_indexOf_7cf53_1 ⟨Nat.zero_le _, Nat.zero_le _⟩ rfl (fun H locs hP hD hS => ?_)
  refine lv_if_eq (tgt := 23) hx hb dJ0_indexOf_7cf53_4 (by decide) (fun c2 => ?_) (fun c2 => ?_)
  · skip
    have h := f_t c2 h
    refine lv_aload_n hx hb dJ0_indexOf_7cf53_23 rfl (lv_at hl 0 rfl) ?_
    refine vk_getf hx hb (hE.1.1 _ (isSt_lt hr0)).2.2.1 hS hown (hts _ wd_1906) (fun _ h9 => h9) dJ0_indexOf_7cf53_24 ?_
    refine lv_iload_n hx hb dJ0_indexOf_7cf53_27 rfl (lv_at hl 1 rfl) ?_
    refine lv_iload_n hx hb dJ0_indexOf_7cf53_28 rfl (lv_at hl 2 rfl) ?_
    refine lv_aload_n hx hb dJ0_indexOf_7cf53_29 rfl (lv_at hl 0 rfl) ?_
    obtain ⟨q3, hq3, h⟩ := f_b h
    refine cl_Vs (w := w) (w' := w) (rv := some (.int q3)) (bytes := cJ0_length_8abf5) (maxL := 1) (ret := (some .int)) (C := RJ0) (As := []) (rest := [.int x2, .int x1, .ref (G.2.2 (100 + r0))]) (stk := [.int q3, .int x2, .int x1, .ref (G.2.2 (100 + r0))]) ⟨hx, hb, hml, hown, hts⟩ hK hE hA hP hD hS (c_J0_length_8abf5 l D G w r0 hr0 q3 hq3) (cwV 0 hts (gwV wd_384 wd_385 wd_386 wd_13 wd_387) rfl rfl rfl hd_J0_length_8abf5 ⟨Nat.le_of_ble_eq_true rfl, Nat.le_of_ble_eq_true rfl⟩) (isSt_lt hr0) rfl rfl hl.1 rfl (Nat.le_of_ble_eq_true rfl) dJ0_indexOf_7cf53_30 ⟨Nat.zero_le _, Nat.zero_le _⟩ rfl (fun H locs hP hD hS => ?_)
    cases h
  · skip
    have h := f_f c2 h
    refine lv_aload_n hx hb dJ0_indexOf_7cf53_7 rfl (lv_at hl 0 rfl) ?_
    refine vk_getf hx hb (hE.1.1 _ (isSt_lt hr0)).2.2.1 hS hown (hts _ wd_1906) (fun _ h9 => h9) dJ0_indexOf_7cf53_8 ?_
    refine lv_iload_n hx hb dJ0_indexOf_7cf53_11 rfl (lv_at hl 1 rfl) ?_
    refine lv_iload_n hx hb dJ0_indexOf_7cf53_12 rfl (lv_at hl 2 rfl) ?_
    refine lv_aload_n hx hb dJ0_indexOf_7cf53_13 rfl (lv_at hl 0 rfl) ?_
    obtain ⟨q4, hq4, h⟩ := f_b h
    refine cl_Vs (w := w) (w' := w) (rv := some (.int q4)) (bytes := cJ0_length_8abf5) (maxL := 1) (ret := (some .int)) (C := RJ0) (As := []) (rest := [.int x2, .int x1, .ref (G.2.2 (100 + r0))]) (stk := [.int q4, .int x2, .int x1, .ref (G.2.2 (100 + r0))]) ⟨hx, hb, hml, hown, hts⟩ hK hE hA hP hD hS (c_J0_length_8abf5 l D G w r0 hr0 q4 hq4) (cwV 0 hts (gwV wd_384 wd_385 wd_386 wd_13 wd_387) rfl rfl rfl hd_J0_length_8abf5 ⟨Nat.le_of_ble_eq_true rfl, Nat.le_of_ble_eq_true rfl⟩) (isSt_lt hr0) rfl rfl hl.1 rfl (Nat.le_of_ble_eq_true rfl) dJ0_indexOf_7cf53_14 ⟨Nat.zero_le _, Nat.zero_le _⟩ rfl (fun H locs hP hD hS => ?_)
    obtain ⟨q5, hq5, h⟩ := f_b h
    refine cl_S (w := w) (w' := w) (rv := some (.int q5)) (bytes := cJ1_indexOf_4cfef) (maxL := 4) (ret := (some .int)) (As := [.ref (G.2.2 (100 + r0)), .int x1, .int x2, .int q4]) (rest := []) (stk := [.int q5]) ⟨hx, hb, hml, hown, hts⟩ hK hE hA hP hD hS (c_J1_indexOf_4cfef l D G w F r0 hr0 x1 x2 q4 q5 hq5) (mkS hts wd_392 wd_393 wd_14 wd_394 rfl rfl hd_J1_indexOf_4cfef ⟨Nat.le_of_ble_eq_true rfl, Nat.le_of_ble_eq_true rfl⟩) rfl hl.1 rfl (Nat.le_of_ble_eq_true rfl) dJ0_indexOf_7cf53_17 ⟨Nat.zero_le _, Nat.zero_le _⟩ rfl (fun H locs hP hD hS => ?_)
    refine lv_goto (tgt := 36) hx hb dJ0_indexOf_7cf53_20 (by decide) ?_
    obtain rfl := Option.some.inj h
    exact W.iret (v := q5) hx hb hr (q_end hK hP hD hS) hS.2.2 dJ0_indexOf_7cf53_36
abbrev rm_J0_indexOf_0f7a4 : Room := { frames := 7, cells := 0, slots := 0, locals := 168 }
set_option maxRecDepth 100000 in
set_option maxHeartbeats 8000000 in
theorem c_J0_indexOf_0f7a4 (l : Launch) (D : va_G) (G : hG) (w : va_W) (F : Nat) (r0 : Nat) (hr0 : isSt r0 = true) (x1 : Int32) (res : Int32) (h : f_J0_indexOf_0f7a4 F r0 x1 = some res) : CT l yJ0_indexOf_0f7a4 cJ0_indexOf_0f7a4 2 (some .int) rm_J0_indexOf_0f7a4 D G 0 0 [.ref (G.2.2 r0), .int x1] w w (some (.int res)) := by
  unfold f_J0_indexOf_0f7a4 at h
  refine CT.mk (cc := cJ0_indexOf_0f7a4) (maxL := 2) (ret := (some .int)) (own := RJ0) (plainFor_of_name (by decide)) rfl (Nat.le_of_ble_eq_true rfl) ?_
  intro p e s m args below meth c A ls C0 hnm hA hP hD hl
  obtain ⟨hx, hb, hr, hml, hown, hts, hlocks, hK, hE⟩ := id C0
  have hS : va_S A s.heap s.heap [] := va_S.rf
  have hl : lv_has ls 2 [(0, .ref (G.2.2 r0)), (1, .int x1)] := hl
  refine lv_aload_n hx hb dJ0_indexOf_0f7a4_0 rfl (lv_at hl 0 rfl) ?_
  refine lv_iload_n hx hb dJ0_indexOf_0f7a4_1 rfl (lv_at hl 1 rfl) ?_
  refine lv_iconst (v := 0) hx hb dJ0_indexOf_0f7a4_2 (by decide) ?_
  obtain ⟨q1, hq1, h⟩ := f_b h
  refine cl_Vs (w := w) (w' := w) (rv := some (.int q1)) (bytes := cJ0_indexOf_7cf53) (maxL := 3) (ret := (some .int)) (C := RJ0) (As := [.int x1, .int (0 : Int32)]) (rest := []) (stk := [.int q1]) ⟨hx, hb, hml, hown, hts⟩ hK hE hA hP hD hS (c_J0_indexOf_7cf53 l D G w F r0 hr0 x1 (0 : Int32) q1 hq1) (cwV 2 hts (gwV wd_374 wd_375 wd_376 wd_13 wd_377) rfl rfl rfl hd_J0_indexOf_7cf53 ⟨Nat.le_of_ble_eq_true rfl, Nat.le_of_ble_eq_true rfl⟩) (isSt_lt hr0) rfl rfl hl.1 rfl (Nat.le_of_ble_eq_true rfl) dJ0_indexOf_0f7a4_3 ⟨Nat.zero_le _, Nat.zero_le _⟩ rfl (fun H locs hP hD hS => ?_)
  obtain rfl := Option.some.inj h
  exact W.iret (v := q1) hx hb hr (q_end hK hP hD hS) hS.2.2 dJ0_indexOf_0f7a4_6
abbrev rm_X3_plus : Room := { frames := 0, cells := 0, slots := 0, locals := 0 }
set_option maxRecDepth 100000 in
set_option maxHeartbeats 8000000 in
theorem c_X3_plus (l : Launch) (D : va_G) (G : hG) (w : va_W) (x0 : Int64) (x2 : Int64) (x4 : Int64) (res : Int64) (h : f_X3_plus x0 x2 x4 = some res) : CT l yX3_plus cX3_plus 8 (some .long) rm_X3_plus D G 0 0 [.long x0, .long x2, .long x4] w w (some (.long res)) := by
  unfold f_X3_plus at h
  refine CT.mk (cc := cX3_plus) (maxL := 8) (ret := (some .long)) (own := RX3) (plainFor_of_name (by decide)) rfl (Nat.le_of_ble_eq_true rfl) ?_
  intro p e s m args below meth c A ls C0 hnm hA hP hD hl
  obtain ⟨hx, hb, hr, hml, hown, hts, hlocks, hK, hE⟩ := id C0
  have hS : va_S A s.heap s.heap [] := va_S.rf
  have hl : lv_has ls 8 [(0, .long x0), (2, .long x2), (4, .long x4)] := hl
  refine lv_lload_n hx hb dX3_plus_0 rfl (lv_at hl 0 rfl) ?_
  refine lv_lload_n hx hb dX3_plus_1 rfl (lv_at hl 1 rfl) ?_
  refine lv_ladd hx hb dX3_plus_2 ?_
  refine lv_lstore (lv' := [(6, .long (x0 + x2)), (0, .long x0), (2, .long x2), (4, .long x4)]) hx hb dX3_plus_3 hl (by decide) rfl (fun ls hl => ?_)
  refine lv_lload hx hb dX3_plus_5 (lv_at hl 0 rfl) ?_
  refine lv_lload hx hb dX3_plus_7 (lv_at hl 3 rfl) ?_
  refine W.lcmp hx hb dX3_plus_9 ?_
  refine lv_if_lt (tgt := 21) hx hb dX3_plus_10 (by decide) (fun c1 => ?_) (fun c1 => ?_)
  · skip
    have c1 := (lg_cmp_lt _ _).mp c1
    have h := f_t c1 h
    refine lv_lload hx hb dX3_plus_21 (lv_at hl 0 rfl) ?_
    obtain rfl := Option.some.inj h
    exact W.lret (v := (x0 + x2)) hx hb hr (q_end hK hP hD hS) hS.2.2 dX3_plus_23
  · skip
    have c1 := mt (lg_cmp_lt _ _).mpr c1
    have h := f_f c1 h
    refine lv_lload hx hb dX3_plus_13 (lv_at hl 0 rfl) ?_
    refine lv_lload hx hb dX3_plus_15 (lv_at hl 3 rfl) ?_
    refine lv_lsub hx hb dX3_plus_17 ?_
    refine lv_goto (tgt := 23) hx hb dX3_plus_18 (by decide) ?_
    obtain rfl := Option.some.inj h
    exact W.lret (v := ((x0 + x2) - x4)) hx hb hr (q_end hK hP hD hS) hS.2.2 dX3_plus_23
abbrev rm_X3_minus : Room := { frames := 0, cells := 0, slots := 0, locals := 0 }
set_option maxRecDepth 100000 in
set_option maxHeartbeats 8000000 in
theorem c_X3_minus (l : Launch) (D : va_G) (G : hG) (w : va_W) (x0 : Int64) (x2 : Int64) (x4 : Int64) (res : Int64) (h : f_X3_minus x0 x2 x4 = some res) : CT l yX3_minus cX3_minus 6 (some .long) rm_X3_minus D G 0 0 [.long x0, .long x2, .long x4] w w (some (.long res)) := by
  unfold f_X3_minus at h
  refine CT.mk (cc := cX3_minus) (maxL := 6) (ret := (some .long)) (own := RX3) (plainFor_of_name (by decide)) rfl (Nat.le_of_ble_eq_true rfl) ?_
  intro p e s m args below meth c A ls C0 hnm hA hP hD hl
  obtain ⟨hx, hb, hr, hml, hown, hts, hlocks, hK, hE⟩ := id C0
  have hS : va_S A s.heap s.heap [] := va_S.rf
  have hl : lv_has ls 6 [(0, .long x0), (2, .long x2), (4, .long x4)] := hl
  refine lv_lload_n hx hb dX3_minus_0 rfl (lv_at hl 0 rfl) ?_
  refine lv_lload_n hx hb dX3_minus_1 rfl (lv_at hl 1 rfl) ?_
  refine W.lcmp hx hb dX3_minus_2 ?_
  refine lv_if_lt (tgt := 12) hx hb dX3_minus_3 (by decide) (fun c1 => ?_) (fun c1 => ?_)
  · skip
    have c1 := (lg_cmp_lt _ _).mp c1
    have h := f_t c1 h
    refine lv_lload_n hx hb dX3_minus_12 rfl (lv_at hl 0 rfl) ?_
    refine lv_lload_n hx hb dX3_minus_13 rfl (lv_at hl 1 rfl) ?_
    refine lv_lsub hx hb dX3_minus_14 ?_
    refine lv_lload hx hb dX3_minus_15 (lv_at hl 2 rfl) ?_
    refine lv_ladd hx hb dX3_minus_17 ?_
    obtain rfl := Option.some.inj h
    exact W.lret (v := ((x0 - x2) + x4)) hx hb hr (q_end hK hP hD hS) hS.2.2 dX3_minus_18
  · skip
    have c1 := mt (lg_cmp_lt _ _).mpr c1
    have h := f_f c1 h
    refine lv_lload_n hx hb dX3_minus_6 rfl (lv_at hl 0 rfl) ?_
    refine lv_lload_n hx hb dX3_minus_7 rfl (lv_at hl 1 rfl) ?_
    refine lv_lsub hx hb dX3_minus_8 ?_
    refine lv_goto (tgt := 18) hx hb dX3_minus_9 (by decide) ?_
    obtain rfl := Option.some.inj h
    exact W.lret (v := (x0 - x2)) hx hb hr (q_end hK hP hD hS) hS.2.2 dX3_minus_18
abbrev rm_X3_times : Room := { frames := 0, cells := 0, slots := 0, locals := 0 }
set_option maxRecDepth 100000 in
set_option maxHeartbeats 8000000 in
theorem c_X3_times (l : Launch) (D : va_G) (G : hG) (w : va_W) (x0 : Int64) (x2 : Int64) (x4 : Int64) (res : Int64) (h : f_X3_times x0 x2 x4 = some res) : CT l yX3_times cX3_times 6 (some .long) rm_X3_times D G 0 0 [.long x0, .long x2, .long x4] w w (some (.long res)) := by
  unfold f_X3_times at h
  refine CT.mk (cc := cX3_times) (maxL := 6) (ret := (some .long)) (own := RX3) (plainFor_of_name (by decide)) rfl (Nat.le_of_ble_eq_true rfl) ?_
  intro p e s m args below meth c A ls C0 hnm hA hP hD hl
  obtain ⟨hx, hb, hr, hml, hown, hts, hlocks, hK, hE⟩ := id C0
  have hS : va_S A s.heap s.heap [] := va_S.rf
  have hl : lv_has ls 6 [(0, .long x0), (2, .long x2), (4, .long x4)] := hl
  refine lv_lload_n hx hb dX3_times_0 rfl (lv_at hl 0 rfl) ?_
  refine lv_ldc2 (v := 2) hx hb hown (hts _ wd_596) dX3_times_1 ?_
  refine W.lcmp hx hb dX3_times_4 ?_
  refine lv_if_lt (tgt := 23) hx hb dX3_times_5 (by decide) (fun c1 => ?_) (fun c1 => ?_)
  · skip
    have c1 := (lg_cmp_lt _ _).mp c1
    have h := f_t c1 h
    refine lv_lload_n hx hb dX3_times_23 rfl (lv_at hl 0 rfl) ?_
    refine lv_lload_n hx hb dX3_times_24 rfl (lv_at hl 1 rfl) ?_
    refine lv_lmul hx hb dX3_times_25 ?_
    refine lv_goto (tgt := 35) hx hb dX3_times_26 (by decide) ?_
    obtain rfl := Option.some.inj h
    exact W.lret (v := (x0 * x2)) hx hb hr (q_end hK hP hD hS) hS.2.2 dX3_times_35
  · skip
    have c1 := mt (lg_cmp_lt _ _).mpr c1
    have h := f_f c1 h
    refine lv_lload_n hx hb dX3_times_8 rfl (lv_at hl 1 rfl) ?_
    refine lv_ldc2 (v := 2) hx hb hown (hts _ wd_596) dX3_times_9 ?_
    refine W.lcmp hx hb dX3_times_12 ?_
    refine lv_if_lt (tgt := 23) hx hb dX3_times_13 (by decide) (fun c2 => ?_) (fun c2 => ?_)
    · skip
      have c2 := (lg_cmp_lt _ _).mp c2
      have h := f_t c2 h
      refine lv_lload_n hx hb dX3_times_23 rfl (lv_at hl 0 rfl) ?_
      refine lv_lload_n hx hb dX3_times_24 rfl (lv_at hl 1 rfl) ?_
      refine lv_lmul hx hb dX3_times_25 ?_
      refine lv_goto (tgt := 35) hx hb dX3_times_26 (by decide) ?_
      obtain rfl := Option.some.inj h
      exact W.lret (v := (x0 * x2)) hx hb hr (q_end hK hP hD hS) hS.2.2 dX3_times_35
    · skip
      have c2 := mt (lg_cmp_lt _ _).mpr c2
      have h := f_f c2 h
      refine lv_lload hx hb dX3_times_16 (lv_at hl 2 rfl) ?_
      refine lv_lconst (v := 1) hx hb dX3_times_18 (by decide) ?_
      refine W.lcmp hx hb dX3_times_19 ?_
      refine lv_if_ge (tgt := 29) hx hb dX3_times_20 (by decide) (fun c3 => ?_) (fun c3 => ?_)
      · skip
        have c3 := (lg_cmp_ge _ _).mp c3
        have h := f_t c3 h
        refine lv_lload_n hx hb dX3_times_29 rfl (lv_at hl 0 rfl) ?_
        refine lv_lload_n hx hb dX3_times_30 rfl (lv_at hl 1 rfl) ?_
        refine lv_lmul hx hb dX3_times_31 ?_
        refine lv_lload hx hb dX3_times_32 (lv_at hl 2 rfl) ?_
        obtain ⟨c4, h⟩ := f_n h
        refine lv_lrem hx hb dX3_times_34 c4 ?_
        obtain rfl := Option.some.inj h
        exact W.lret (v := ((x0 * x2) - (x0 * x2) / x4 * x4)) hx hb hr (q_end hK hP hD hS) hS.2.2 dX3_times_35
      · skip
        have c3 := mt (lg_cmp_ge _ _).mpr c3
        have h := f_f c3 h
        refine lv_lload_n hx hb dX3_times_23 rfl (lv_at hl 0 rfl) ?_
        refine lv_lload_n hx hb dX3_times_24 rfl (lv_at hl 1 rfl) ?_
        refine lv_lmul hx hb dX3_times_25 ?_
        refine lv_goto (tgt := 35) hx hb dX3_times_26 (by decide) ?_
        obtain rfl := Option.some.inj h
        exact W.lret (v := (x0 * x2)) hx hb hr (q_end hK hP hD hS) hS.2.2 dX3_times_35
abbrev rm_J9_floorMod_f86c9 : Room := { frames := 0, cells := 0, slots := 0, locals := 0 }
set_option maxRecDepth 100000 in
set_option maxHeartbeats 8000000 in
theorem c_J9_floorMod_f86c9 (l : Launch) (D : va_G) (G : hG) (w : va_W) (x0 : Int64) (x2 : Int64) (res : Int64) (h : f_J9_floorMod_f86c9 x0 x2 = some res) : CT l yJ9_floorMod_f86c9 cJ9_floorMod_f86c9 6 (some .long) rm_J9_floorMod_f86c9 D G 0 0 [.long x0, .long x2] w w (some (.long res)) := by
  unfold f_J9_floorMod_f86c9 at h
  refine CT.mk (cc := cJ9_floorMod_f86c9) (maxL := 6) (ret := (some .long)) (own := RJ9) (q_math rfl (by decide +kernel)) rfl (Nat.le_of_ble_eq_true rfl) ?_
  intro p e s m args below meth c A ls C0 hnm hA hP hD hl
  obtain ⟨hx, hb, hr, hml, hown, hts, hlocks, hK, hE⟩ := id C0
  have hS : va_S A s.heap s.heap [] := va_S.rf
  have hl : lv_has ls 6 [(0, .long x0), (2, .long x2)] := hl
  refine lv_lload_n hx hb dJ9_floorMod_f86c9_0 rfl (lv_at hl 0 rfl) ?_
  refine lv_lload_n hx hb dJ9_floorMod_f86c9_1 rfl (lv_at hl 1 rfl) ?_
  obtain ⟨c1, h⟩ := f_n h
  refine lv_lrem hx hb dJ9_floorMod_f86c9_2 c1 ?_
  refine lv_lstore (lv' := [(4, .long (x0 - x0 / x2 * x2)), (0, .long x0), (2, .long x2)]) hx hb dJ9_floorMod_f86c9_3 hl (by decide) rfl (fun ls hl => ?_)
  refine lv_lload_n hx hb dJ9_floorMod_f86c9_5 rfl (lv_at hl 1 rfl) ?_
  refine lv_lload_n hx hb dJ9_floorMod_f86c9_6 rfl (lv_at hl 2 rfl) ?_
  refine lv_lxor hx hb dJ9_floorMod_f86c9_7 ?_
  refine lv_lconst (v := 0) hx hb dJ9_floorMod_f86c9_8 (by decide) ?_
  refine W.lcmp hx hb dJ9_floorMod_f86c9_9 ?_
  refine lv_if_ge (tgt := 25) hx hb dJ9_floorMod_f86c9_10 (by decide) (fun c2 => ?_) (fun c2 => ?_)
  · skip
    have c2 := (lg_cmp_ge _ _).mp c2
    have h := f_t c2 h
    refine lv_lload hx hb dJ9_floorMod_f86c9_25 (lv_at hl 0 rfl) ?_
    obtain rfl := Option.some.inj h
    exact W.lret (v := (x0 - x0 / x2 * x2)) hx hb hr (q_end hK hP hD hS) hS.2.2 dJ9_floorMod_f86c9_27
  · skip
    have c2 := mt (lg_cmp_ge _ _).mpr c2
    have h := f_f c2 h
    refine lv_lload hx hb dJ9_floorMod_f86c9_13 (lv_at hl 0 rfl) ?_
    refine lv_lconst (v := 0) hx hb dJ9_floorMod_f86c9_15 (by decide) ?_
    refine W.lcmp hx hb dJ9_floorMod_f86c9_16 ?_
    refine lv_if_eq (tgt := 25) hx hb dJ9_floorMod_f86c9_17 (by decide) (fun c3 => ?_) (fun c3 => ?_)
    · skip
      have c3 := (lg_cmp_eq _ _).mp c3
      have h := f_t c3 h
      refine lv_lload hx hb dJ9_floorMod_f86c9_25 (lv_at hl 0 rfl) ?_
      obtain rfl := Option.some.inj h
      exact W.lret (v := (x0 - x0 / x2 * x2)) hx hb hr (q_end hK hP hD hS) hS.2.2 dJ9_floorMod_f86c9_27
    · skip
      have c3 := mt (lg_cmp_eq _ _).mpr c3
      have h := f_f c3 h
      refine lv_lload hx hb dJ9_floorMod_f86c9_20 (lv_at hl 0 rfl) ?_
      refine lv_lload_n hx hb dJ9_floorMod_f86c9_22 rfl (lv_at hl 2 rfl) ?_
      refine lv_ladd hx hb dJ9_floorMod_f86c9_23 ?_
      obtain rfl := Option.some.inj h
      exact W.lret (v := ((x0 - x0 / x2 * x2) + x2)) hx hb hr (q_end hK hP hD hS) hS.2.2 dJ9_floorMod_f86c9_24
abbrev rm_X3_rest : Room := { frames := 1, cells := 0, slots := 0, locals := 25 }
set_option maxRecDepth 100000 in
set_option maxHeartbeats 8000000 in
theorem c_X3_rest (l : Launch) (D : va_G) (G : hG) (w : va_W) (x0 : Int64) (x2 : Int64) (res : Int64) (h : f_X3_rest x0 x2 = some res) : CT l yX3_rest cX3_rest 4 (some .long) rm_X3_rest D G 0 0 [.long x0, .long x2] w w (some (.long res)) := by
  unfold f_X3_rest at h
  refine CT.mk (cc := cX3_rest) (maxL := 4) (ret := (some .long)) (own := RX3) (plainFor_of_name (by decide)) rfl (Nat.le_of_ble_eq_true rfl) ?_
  intro p e s m args below meth c A ls C0 hnm hA hP hD hl
  obtain ⟨hx, hb, hr, hml, hown, hts, hlocks, hK, hE⟩ := id C0
  have hS : va_S A s.heap s.heap [] := va_S.rf
  have hl : lv_has ls 4 [(0, .long x0), (2, .long x2)] := hl
  refine lv_lload_n hx hb dX3_rest_0 rfl (lv_at hl 1 rfl) ?_
  refine lv_lconst (v := 1) hx hb dX3_rest_1 (by decide) ?_
  refine W.lcmp hx hb dX3_rest_2 ?_
  refine lv_if_ge (tgt := 10) hx hb dX3_rest_3 (by decide) (fun c1 => ?_) (fun c1 => ?_)
  · skip
    have c1 := (lg_cmp_ge _ _).mp c1
    have h := f_t c1 h
    refine lv_lload_n hx hb dX3_rest_10 rfl (lv_at hl 0 rfl) ?_
    refine lv_lload_n hx hb dX3_rest_11 rfl (lv_at hl 1 rfl) ?_
    obtain ⟨q2, hq2, h⟩ := f_b h
    refine cl_S (w := w) (w' := w) (rv := some (.long q2)) (bytes := cJ9_floorMod_f86c9) (maxL := 6) (ret := (some .long)) (As := [.long x0, .long x2]) (rest := []) (stk := [.long q2]) ⟨hx, hb, hml, hown, hts⟩ hK hE hA hP hD hS (c_J9_floorMod_f86c9 l D G w x0 x2 q2 hq2) (mkS hts wd_710 wd_711 wd_12 wd_712 rfl rfl hd_J9_floorMod_f86c9 ⟨Nat.le_of_ble_eq_true rfl, Nat.le_of_ble_eq_true rfl⟩) rfl hl.1 rfl (Nat.le_of_ble_eq_true rfl) dX3_rest_12 ⟨Nat.zero_le _, Nat.zero_le _⟩ rfl (fun H locs hP hD hS => ?_)
    obtain rfl := Option.some.inj h
    exact W.lret (v := q2) hx hb hr (q_end hK hP hD hS) hS.2.2 dX3_rest_15
  · skip
    have c1 := mt (lg_cmp_ge _ _).mpr c1
    have h := f_f c1 h
    refine lv_lconst (v := 0) hx hb dX3_rest_6 (by decide) ?_
    refine lv_goto (tgt := 15) hx hb dX3_rest_7 (by decide) ?_
    obtain rfl := Option.some.inj h
    exact W.lret (v := (0 : Int64)) hx hb hr (q_end hK hP hD hS) hS.2.2 dX3_rest_15
abbrev rm_J6_bitCount_0f7a4 : Room := { frames := 0, cells := 0, slots := 0, locals := 0 }
set_option maxRecDepth 100000 in
set_option maxHeartbeats 8000000 in
theorem c_J6_bitCount_0f7a4 (l : Launch) (D : va_G) (G : hG) (w : va_W) (x0 : Int32) (res : Int32) (h : f_J6_bitCount_0f7a4 x0 = some res) : CT l yJ6_bitCount_0f7a4 cJ6_bitCount_0f7a4 1 (some .int) rm_J6_bitCount_0f7a4 D G 0 0 [.int x0] w w (some (.int res)) := by
  unfold f_J6_bitCount_0f7a4 at h
  refine CT.mk (cc := cJ6_bitCount_0f7a4) (maxL := 1) (ret := (some .int)) (own := RJ6) (plainFor_of_name (by decide)) rfl (Nat.le_of_ble_eq_true rfl) ?_
  intro p e s m args below meth c A ls C0 hnm hA hP hD hl
  obtain ⟨hx, hb, hr, hml, hown, hts, hlocks, hK, hE⟩ := id C0
  have hS : va_S A s.heap s.heap [] := va_S.rf
  have hl : lv_has ls 1 [(0, .int x0)] := hl
  refine lv_iload_n hx hb dJ6_bitCount_0f7a4_0 rfl (lv_at hl 0 rfl) ?_
  refine lv_iload_n hx hb dJ6_bitCount_0f7a4_1 rfl (lv_at hl 0 rfl) ?_
  refine lv_iconst (v := 1) hx hb dJ6_bitCount_0f7a4_2 (by decide) ?_
  refine lv_iushr (v := ((x0 : Int32).toUInt32 >>> (((1 : Int32) : Int32).toUInt32 &&& Int32.toUInt32 31)).toInt32) hx hb dJ6_bitCount_0f7a4_3 rfl ?_
  refine lv_ldcw (v := 1431655765) hx hb hown (hts _ wd_1139) dJ6_bitCount_0f7a4_4 ?_
  refine lv_iand hx hb dJ6_bitCount_0f7a4_7 ?_
  refine lv_isub hx hb dJ6_bitCount_0f7a4_8 ?_
  refine lv_istore_n (lv' := [(0, .int (x0 - (((x0 : Int32).toUInt32 >>> (((1 : Int32) : Int32).toUInt32 &&& Int32.toUInt32 31)).toInt32 &&& (1431655765 : Int32))))]) hx hb dJ6_bitCount_0f7a4_9 rfl hl (by decide) rfl (fun ls hl => ?_)
  refine lv_iload_n hx hb dJ6_bitCount_0f7a4_10 rfl (lv_at hl 0 rfl) ?_
  refine lv_ldcw (v := 858993459) hx hb hown (hts _ wd_1140) dJ6_bitCount_0f7a4_11 ?_
  refine lv_iand hx hb dJ6_bitCount_0f7a4_14 ?_
  refine lv_iload_n hx hb dJ6_bitCount_0f7a4_15 rfl (lv_at hl 0 rfl) ?_
  refine lv_iconst (v := 2) hx hb dJ6_bitCount_0f7a4_16 (by decide) ?_
  refine lv_iushr (v := (((x0 - (((x0 : Int32).toUInt32 >>> (((1 : Int32) : Int32).toUInt32 &&& Int32.toUInt32 31)).toInt32 &&& (1431655765 : Int32))) : Int32).toUInt32 >>> (((2 : Int32) : Int32).toUInt32 &&& Int32.toUInt32 31)).toInt32) hx hb dJ6_bitCount_0f7a4_17 rfl ?_
  refine lv_ldcw (v := 858993459) hx hb hown (hts _ wd_1140) dJ6_bitCount_0f7a4_18 ?_
  refine lv_iand hx hb dJ6_bitCount_0f7a4_21 ?_
  refine lv_iadd hx hb dJ6_bitCount_0f7a4_22 ?_
  refine lv_istore_n (lv' := [(0, .int (((x0 - (((x0 : Int32).toUInt32 >>> (((1 : Int32) : Int32).toUInt32 &&& Int32.toUInt32 31)).toInt32 &&& (1431655765 : Int32))) &&& (858993459 : Int32)) + ((((x0 - (((x0 : Int32).toUInt32 >>> (((1 : Int32) : Int32).toUInt32 &&& Int32.toUInt32 31)).toInt32 &&& (1431655765 : Int32))) : Int32).toUInt32 >>> (((2 : Int32) : Int32).toUInt32 &&& Int32.toUInt32 31)).toInt32 &&& (858993459 : Int32))))]) hx hb dJ6_bitCount_0f7a4_23 rfl hl (by decide) rfl (fun ls hl => ?_)
  refine lv_iload_n hx hb dJ6_bitCount_0f7a4_24 rfl (lv_at hl 0 rfl) ?_
  refine lv_iload_n hx hb dJ6_bitCount_0f7a4_25 rfl (lv_at hl 0 rfl) ?_
  refine lv_iconst (v := 4) hx hb dJ6_bitCount_0f7a4_26 (by decide) ?_
  refine lv_iushr (v := (((((x0 - (((x0 : Int32).toUInt32 >>> (((1 : Int32) : Int32).toUInt32 &&& Int32.toUInt32 31)).toInt32 &&& (1431655765 : Int32))) &&& (858993459 : Int32)) + ((((x0 - (((x0 : Int32).toUInt32 >>> (((1 : Int32) : Int32).toUInt32 &&& Int32.toUInt32 31)).toInt32 &&& (1431655765 : Int32))) : Int32).toUInt32 >>> (((2 : Int32) : Int32).toUInt32 &&& Int32.toUInt32 31)).toInt32 &&& (858993459 : Int32))) : Int32).toUInt32 >>> (((4 : Int32) : Int32).toUInt32 &&& Int32.toUInt32 31)).toInt32) hx hb dJ6_bitCount_0f7a4_27 rfl ?_
  refine lv_iadd hx hb dJ6_bitCount_0f7a4_28 ?_
  refine lv_ldcw (v := 252645135) hx hb hown (hts _ wd_1141) dJ6_bitCount_0f7a4_29 ?_
  refine lv_iand hx hb dJ6_bitCount_0f7a4_32 ?_
  refine lv_istore_n (lv' := [(0, .int (((((x0 - (((x0 : Int32).toUInt32 >>> (((1 : Int32) : Int32).toUInt32 &&& Int32.toUInt32 31)).toInt32 &&& (1431655765 : Int32))) &&& (858993459 : Int32)) + ((((x0 - (((x0 : Int32).toUInt32 >>> (((1 : Int32) : Int32).toUInt32 &&& Int32.toUInt32 31)).toInt32 &&& (1431655765 : Int32))) : Int32).toUInt32 >>> (((2 : Int32) : Int32).toUInt32 &&& Int32.toUInt32 31)).toInt32 &&& (858993459 : Int32))) + (((((x0 - (((x0 : Int32).toUInt32 >>> (((1 : Int32) : Int32).toUInt32 &&& Int32.toUInt32 31)).toInt32 &&& (1431655765 : Int32))) &&& (858993459 : Int32)) + ((((x0 - (((x0 : Int32).toUInt32 >>> (((1 : Int32) : Int32).toUInt32 &&& Int32.toUInt32 31)).toInt32 &&& (1431655765 : Int32))) : Int32).toUInt32 >>> (((2 : Int32) : Int32).toUInt32 &&& Int32.toUInt32 31)).toInt32 &&& (858993459 : Int32))) : Int32).toUInt32 >>> (((4 : Int32) : Int32).toUInt32 &&& Int32.toUInt32 31)).toInt32) &&& (252645135 : Int32)))]) hx hb dJ6_bitCount_0f7a4_33 rfl hl (by decide) rfl (fun ls hl => ?_)
  refine lv_iload_n hx hb dJ6_bitCount_0f7a4_34 rfl (lv_at hl 0 rfl) ?_
  refine lv_iload_n hx hb dJ6_bitCount_0f7a4_35 rfl (lv_at hl 0 rfl) ?_
  refine lv_bipush (v := 8) hx hb dJ6_bitCount_0f7a4_36 (by decide) ?_
  refine lv_iushr (v := (((((((x0 - (((x0 : Int32).toUInt32 >>> (((1 : Int32) : Int32).toUInt32 &&& Int32.toUInt32 31)).toInt32 &&& (1431655765 : Int32))) &&& (858993459 : Int32)) + ((((x0 - (((x0 : Int32).toUInt32 >>> (((1 : Int32) : Int32).toUInt32 &&& Int32.toUInt32 31)).toInt32 &&& (1431655765 : Int32))) : Int32).toUInt32 >>> (((2 : Int32) : Int32).toUInt32 &&& Int32.toUInt32 31)).toInt32 &&& (858993459 : Int32))) + (((((x0 - (((x0 : Int32).toUInt32 >>> (((1 : Int32) : Int32).toUInt32 &&& Int32.toUInt32 31)).toInt32 &&& (1431655765 : Int32))) &&& (858993459 : Int32)) + ((((x0 - (((x0 : Int32).toUInt32 >>> (((1 : Int32) : Int32).toUInt32 &&& Int32.toUInt32 31)).toInt32 &&& (1431655765 : Int32))) : Int32).toUInt32 >>> (((2 : Int32) : Int32).toUInt32 &&& Int32.toUInt32 31)).toInt32 &&& (858993459 : Int32))) : Int32).toUInt32 >>> (((4 : Int32) : Int32).toUInt32 &&& Int32.toUInt32 31)).toInt32) &&& (252645135 : Int32)) : Int32).toUInt32 >>> (((8 : Int32) : Int32).toUInt32 &&& Int32.toUInt32 31)).toInt32) hx hb dJ6_bitCount_0f7a4_38 rfl ?_
  refine lv_iadd hx hb dJ6_bitCount_0f7a4_39 ?_
  refine lv_istore_n (lv' := [(0, .int ((((((x0 - (((x0 : Int32).toUInt32 >>> (((1 : Int32) : Int32).toUInt32 &&& Int32.toUInt32 31)).toInt32 &&& (1431655765 : Int32))) &&& (858993459 : Int32)) + ((((x0 - (((x0 : Int32).toUInt32 >>> (((1 : Int32) : Int32).toUInt32 &&& Int32.toUInt32 31)).toInt32 &&& (1431655765 : Int32))) : Int32).toUInt32 >>> (((2 : Int32) : Int32).toUInt32 &&& Int32.toUInt32 31)).toInt32 &&& (858993459 : Int32))) + (((((x0 - (((x0 : Int32).toUInt32 >>> (((1 : Int32) : Int32).toUInt32 &&& Int32.toUInt32 31)).toInt32 &&& (1431655765 : Int32))) &&& (858993459 : Int32)) + ((((x0 - (((x0 : Int32).toUInt32 >>> (((1 : Int32) : Int32).toUInt32 &&& Int32.toUInt32 31)).toInt32 &&& (1431655765 : Int32))) : Int32).toUInt32 >>> (((2 : Int32) : Int32).toUInt32 &&& Int32.toUInt32 31)).toInt32 &&& (858993459 : Int32))) : Int32).toUInt32 >>> (((4 : Int32) : Int32).toUInt32 &&& Int32.toUInt32 31)).toInt32) &&& (252645135 : Int32)) + (((((((x0 - (((x0 : Int32).toUInt32 >>> (((1 : Int32) : Int32).toUInt32 &&& Int32.toUInt32 31)).toInt32 &&& (1431655765 : Int32))) &&& (858993459 : Int32)) + ((((x0 - (((x0 : Int32).toUInt32 >>> (((1 : Int32) : Int32).toUInt32 &&& Int32.toUInt32 31)).toInt32 &&& (1431655765 : Int32))) : Int32).toUInt32 >>> (((2 : Int32) : Int32).toUInt32 &&& Int32.toUInt32 31)).toInt32 &&& (858993459 : Int32))) + (((((x0 - (((x0 : Int32).toUInt32 >>> (((1 : Int32) : Int32).toUInt32 &&& Int32.toUInt32 31)).toInt32 &&& (1431655765 : Int32))) &&& (858993459 : Int32)) + ((((x0 - (((x0 : Int32).toUInt32 >>> (((1 : Int32) : Int32).toUInt32 &&& Int32.toUInt32 31)).toInt32 &&& (1431655765 : Int32))) : Int32).toUInt32 >>> (((2 : Int32) : Int32).toUInt32 &&& Int32.toUInt32 31)).toInt32 &&& (858993459 : Int32))) : Int32).toUInt32 >>> (((4 : Int32) : Int32).toUInt32 &&& Int32.toUInt32 31)).toInt32) &&& (252645135 : Int32)) : Int32).toUInt32 >>> (((8 : Int32) : Int32).toUInt32 &&& Int32.toUInt32 31)).toInt32))]) hx hb dJ6_bitCount_0f7a4_40 rfl hl (by decide) rfl (fun ls hl => ?_)
  refine lv_iload_n hx hb dJ6_bitCount_0f7a4_41 rfl (lv_at hl 0 rfl) ?_
  refine lv_iload_n hx hb dJ6_bitCount_0f7a4_42 rfl (lv_at hl 0 rfl) ?_
  refine lv_bipush (v := 16) hx hb dJ6_bitCount_0f7a4_43 (by decide) ?_
  refine lv_iushr (v := ((((((((x0 - (((x0 : Int32).toUInt32 >>> (((1 : Int32) : Int32).toUInt32 &&& Int32.toUInt32 31)).toInt32 &&& (1431655765 : Int32))) &&& (858993459 : Int32)) + ((((x0 - (((x0 : Int32).toUInt32 >>> (((1 : Int32) : Int32).toUInt32 &&& Int32.toUInt32 31)).toInt32 &&& (1431655765 : Int32))) : Int32).toUInt32 >>> (((2 : Int32) : Int32).toUInt32 &&& Int32.toUInt32 31)).toInt32 &&& (858993459 : Int32))) + (((((x0 - (((x0 : Int32).toUInt32 >>> (((1 : Int32) : Int32).toUInt32 &&& Int32.toUInt32 31)).toInt32 &&& (1431655765 : Int32))) &&& (858993459 : Int32)) + ((((x0 - (((x0 : Int32).toUInt32 >>> (((1 : Int32) : Int32).toUInt32 &&& Int32.toUInt32 31)).toInt32 &&& (1431655765 : Int32))) : Int32).toUInt32 >>> (((2 : Int32) : Int32).toUInt32 &&& Int32.toUInt32 31)).toInt32 &&& (858993459 : Int32))) : Int32).toUInt32 >>> (((4 : Int32) : Int32).toUInt32 &&& Int32.toUInt32 31)).toInt32) &&& (252645135 : Int32)) + (((((((x0 - (((x0 : Int32).toUInt32 >>> (((1 : Int32) : Int32).toUInt32 &&& Int32.toUInt32 31)).toInt32 &&& (1431655765 : Int32))) &&& (858993459 : Int32)) + ((((x0 - (((x0 : Int32).toUInt32 >>> (((1 : Int32) : Int32).toUInt32 &&& Int32.toUInt32 31)).toInt32 &&& (1431655765 : Int32))) : Int32).toUInt32 >>> (((2 : Int32) : Int32).toUInt32 &&& Int32.toUInt32 31)).toInt32 &&& (858993459 : Int32))) + (((((x0 - (((x0 : Int32).toUInt32 >>> (((1 : Int32) : Int32).toUInt32 &&& Int32.toUInt32 31)).toInt32 &&& (1431655765 : Int32))) &&& (858993459 : Int32)) + ((((x0 - (((x0 : Int32).toUInt32 >>> (((1 : Int32) : Int32).toUInt32 &&& Int32.toUInt32 31)).toInt32 &&& (1431655765 : Int32))) : Int32).toUInt32 >>> (((2 : Int32) : Int32).toUInt32 &&& Int32.toUInt32 31)).toInt32 &&& (858993459 : Int32))) : Int32).toUInt32 >>> (((4 : Int32) : Int32).toUInt32 &&& Int32.toUInt32 31)).toInt32) &&& (252645135 : Int32)) : Int32).toUInt32 >>> (((8 : Int32) : Int32).toUInt32 &&& Int32.toUInt32 31)).toInt32) : Int32).toUInt32 >>> (((16 : Int32) : Int32).toUInt32 &&& Int32.toUInt32 31)).toInt32) hx hb dJ6_bitCount_0f7a4_45 rfl ?_
  refine lv_iadd hx hb dJ6_bitCount_0f7a4_46 ?_
  refine lv_istore_n (lv' := [(0, .int (((((((x0 - (((x0 : Int32).toUInt32 >>> (((1 : Int32) : Int32).toUInt32 &&& Int32.toUInt32 31)).toInt32 &&& (1431655765 : Int32))) &&& (858993459 : Int32)) + ((((x0 - (((x0 : Int32).toUInt32 >>> (((1 : Int32) : Int32).toUInt32 &&& Int32.toUInt32 31)).toInt32 &&& (1431655765 : Int32))) : Int32).toUInt32 >>> (((2 : Int32) : Int32).toUInt32 &&& Int32.toUInt32 31)).toInt32 &&& (858993459 : Int32))) + (((((x0 - (((x0 : Int32).toUInt32 >>> (((1 : Int32) : Int32).toUInt32 &&& Int32.toUInt32 31)).toInt32 &&& (1431655765 : Int32))) &&& (858993459 : Int32)) + ((((x0 - (((x0 : Int32).toUInt32 >>> (((1 : Int32) : Int32).toUInt32 &&& Int32.toUInt32 31)).toInt32 &&& (1431655765 : Int32))) : Int32).toUInt32 >>> (((2 : Int32) : Int32).toUInt32 &&& Int32.toUInt32 31)).toInt32 &&& (858993459 : Int32))) : Int32).toUInt32 >>> (((4 : Int32) : Int32).toUInt32 &&& Int32.toUInt32 31)).toInt32) &&& (252645135 : Int32)) + (((((((x0 - (((x0 : Int32).toUInt32 >>> (((1 : Int32) : Int32).toUInt32 &&& Int32.toUInt32 31)).toInt32 &&& (1431655765 : Int32))) &&& (858993459 : Int32)) + ((((x0 - (((x0 : Int32).toUInt32 >>> (((1 : Int32) : Int32).toUInt32 &&& Int32.toUInt32 31)).toInt32 &&& (1431655765 : Int32))) : Int32).toUInt32 >>> (((2 : Int32) : Int32).toUInt32 &&& Int32.toUInt32 31)).toInt32 &&& (858993459 : Int32))) + (((((x0 - (((x0 : Int32).toUInt32 >>> (((1 : Int32) : Int32).toUInt32 &&& Int32.toUInt32 31)).toInt32 &&& (1431655765 : Int32))) &&& (858993459 : Int32)) + ((((x0 - (((x0 : Int32).toUInt32 >>> (((1 : Int32) : Int32).toUInt32 &&& Int32.toUInt32 31)).toInt32 &&& (1431655765 : Int32))) : Int32).toUInt32 >>> (((2 : Int32) : Int32).toUInt32 &&& Int32.toUInt32 31)).toInt32 &&& (858993459 : Int32))) : Int32).toUInt32 >>> (((4 : Int32) : Int32).toUInt32 &&& Int32.toUInt32 31)).toInt32) &&& (252645135 : Int32)) : Int32).toUInt32 >>> (((8 : Int32) : Int32).toUInt32 &&& Int32.toUInt32 31)).toInt32) + ((((((((x0 - (((x0 : Int32).toUInt32 >>> (((1 : Int32) : Int32).toUInt32 &&& Int32.toUInt32 31)).toInt32 &&& (1431655765 : Int32))) &&& (858993459 : Int32)) + ((((x0 - (((x0 : Int32).toUInt32 >>> (((1 : Int32) : Int32).toUInt32 &&& Int32.toUInt32 31)).toInt32 &&& (1431655765 : Int32))) : Int32).toUInt32 >>> (((2 : Int32) : Int32).toUInt32 &&& Int32.toUInt32 31)).toInt32 &&& (858993459 : Int32))) + (((((x0 - (((x0 : Int32).toUInt32 >>> (((1 : Int32) : Int32).toUInt32 &&& Int32.toUInt32 31)).toInt32 &&& (1431655765 : Int32))) &&& (858993459 : Int32)) + ((((x0 - (((x0 : Int32).toUInt32 >>> (((1 : Int32) : Int32).toUInt32 &&& Int32.toUInt32 31)).toInt32 &&& (1431655765 : Int32))) : Int32).toUInt32 >>> (((2 : Int32) : Int32).toUInt32 &&& Int32.toUInt32 31)).toInt32 &&& (858993459 : Int32))) : Int32).toUInt32 >>> (((4 : Int32) : Int32).toUInt32 &&& Int32.toUInt32 31)).toInt32) &&& (252645135 : Int32)) + (((((((x0 - (((x0 : Int32).toUInt32 >>> (((1 : Int32) : Int32).toUInt32 &&& Int32.toUInt32 31)).toInt32 &&& (1431655765 : Int32))) &&& (858993459 : Int32)) + ((((x0 - (((x0 : Int32).toUInt32 >>> (((1 : Int32) : Int32).toUInt32 &&& Int32.toUInt32 31)).toInt32 &&& (1431655765 : Int32))) : Int32).toUInt32 >>> (((2 : Int32) : Int32).toUInt32 &&& Int32.toUInt32 31)).toInt32 &&& (858993459 : Int32))) + (((((x0 - (((x0 : Int32).toUInt32 >>> (((1 : Int32) : Int32).toUInt32 &&& Int32.toUInt32 31)).toInt32 &&& (1431655765 : Int32))) &&& (858993459 : Int32)) + ((((x0 - (((x0 : Int32).toUInt32 >>> (((1 : Int32) : Int32).toUInt32 &&& Int32.toUInt32 31)).toInt32 &&& (1431655765 : Int32))) : Int32).toUInt32 >>> (((2 : Int32) : Int32).toUInt32 &&& Int32.toUInt32 31)).toInt32 &&& (858993459 : Int32))) : Int32).toUInt32 >>> (((4 : Int32) : Int32).toUInt32 &&& Int32.toUInt32 31)).toInt32) &&& (252645135 : Int32)) : Int32).toUInt32 >>> (((8 : Int32) : Int32).toUInt32 &&& Int32.toUInt32 31)).toInt32) : Int32).toUInt32 >>> (((16 : Int32) : Int32).toUInt32 &&& Int32.toUInt32 31)).toInt32))]) hx hb dJ6_bitCount_0f7a4_47 rfl hl (by decide) rfl (fun ls hl => ?_)
  refine lv_iload_n hx hb dJ6_bitCount_0f7a4_48 rfl (lv_at hl 0 rfl) ?_
  refine lv_bipush (v := 63) hx hb dJ6_bitCount_0f7a4_49 (by decide) ?_
  refine lv_iand hx hb dJ6_bitCount_0f7a4_51 ?_
  obtain rfl := Option.some.inj h
  exact W.iret (v := ((((((((x0 - (((x0 : Int32).toUInt32 >>> (((1 : Int32) : Int32).toUInt32 &&& Int32.toUInt32 31)).toInt32 &&& (1431655765 : Int32))) &&& (858993459 : Int32)) + ((((x0 - (((x0 : Int32).toUInt32 >>> (((1 : Int32) : Int32).toUInt32 &&& Int32.toUInt32 31)).toInt32 &&& (1431655765 : Int32))) : Int32).toUInt32 >>> (((2 : Int32) : Int32).toUInt32 &&& Int32.toUInt32 31)).toInt32 &&& (858993459 : Int32))) + (((((x0 - (((x0 : Int32).toUInt32 >>> (((1 : Int32) : Int32).toUInt32 &&& Int32.toUInt32 31)).toInt32 &&& (1431655765 : Int32))) &&& (858993459 : Int32)) + ((((x0 - (((x0 : Int32).toUInt32 >>> (((1 : Int32) : Int32).toUInt32 &&& Int32.toUInt32 31)).toInt32 &&& (1431655765 : Int32))) : Int32).toUInt32 >>> (((2 : Int32) : Int32).toUInt32 &&& Int32.toUInt32 31)).toInt32 &&& (858993459 : Int32))) : Int32).toUInt32 >>> (((4 : Int32) : Int32).toUInt32 &&& Int32.toUInt32 31)).toInt32) &&& (252645135 : Int32)) + (((((((x0 - (((x0 : Int32).toUInt32 >>> (((1 : Int32) : Int32).toUInt32 &&& Int32.toUInt32 31)).toInt32 &&& (1431655765 : Int32))) &&& (858993459 : Int32)) + ((((x0 - (((x0 : Int32).toUInt32 >>> (((1 : Int32) : Int32).toUInt32 &&& Int32.toUInt32 31)).toInt32 &&& (1431655765 : Int32))) : Int32).toUInt32 >>> (((2 : Int32) : Int32).toUInt32 &&& Int32.toUInt32 31)).toInt32 &&& (858993459 : Int32))) + (((((x0 - (((x0 : Int32).toUInt32 >>> (((1 : Int32) : Int32).toUInt32 &&& Int32.toUInt32 31)).toInt32 &&& (1431655765 : Int32))) &&& (858993459 : Int32)) + ((((x0 - (((x0 : Int32).toUInt32 >>> (((1 : Int32) : Int32).toUInt32 &&& Int32.toUInt32 31)).toInt32 &&& (1431655765 : Int32))) : Int32).toUInt32 >>> (((2 : Int32) : Int32).toUInt32 &&& Int32.toUInt32 31)).toInt32 &&& (858993459 : Int32))) : Int32).toUInt32 >>> (((4 : Int32) : Int32).toUInt32 &&& Int32.toUInt32 31)).toInt32) &&& (252645135 : Int32)) : Int32).toUInt32 >>> (((8 : Int32) : Int32).toUInt32 &&& Int32.toUInt32 31)).toInt32) + ((((((((x0 - (((x0 : Int32).toUInt32 >>> (((1 : Int32) : Int32).toUInt32 &&& Int32.toUInt32 31)).toInt32 &&& (1431655765 : Int32))) &&& (858993459 : Int32)) + ((((x0 - (((x0 : Int32).toUInt32 >>> (((1 : Int32) : Int32).toUInt32 &&& Int32.toUInt32 31)).toInt32 &&& (1431655765 : Int32))) : Int32).toUInt32 >>> (((2 : Int32) : Int32).toUInt32 &&& Int32.toUInt32 31)).toInt32 &&& (858993459 : Int32))) + (((((x0 - (((x0 : Int32).toUInt32 >>> (((1 : Int32) : Int32).toUInt32 &&& Int32.toUInt32 31)).toInt32 &&& (1431655765 : Int32))) &&& (858993459 : Int32)) + ((((x0 - (((x0 : Int32).toUInt32 >>> (((1 : Int32) : Int32).toUInt32 &&& Int32.toUInt32 31)).toInt32 &&& (1431655765 : Int32))) : Int32).toUInt32 >>> (((2 : Int32) : Int32).toUInt32 &&& Int32.toUInt32 31)).toInt32 &&& (858993459 : Int32))) : Int32).toUInt32 >>> (((4 : Int32) : Int32).toUInt32 &&& Int32.toUInt32 31)).toInt32) &&& (252645135 : Int32)) + (((((((x0 - (((x0 : Int32).toUInt32 >>> (((1 : Int32) : Int32).toUInt32 &&& Int32.toUInt32 31)).toInt32 &&& (1431655765 : Int32))) &&& (858993459 : Int32)) + ((((x0 - (((x0 : Int32).toUInt32 >>> (((1 : Int32) : Int32).toUInt32 &&& Int32.toUInt32 31)).toInt32 &&& (1431655765 : Int32))) : Int32).toUInt32 >>> (((2 : Int32) : Int32).toUInt32 &&& Int32.toUInt32 31)).toInt32 &&& (858993459 : Int32))) + (((((x0 - (((x0 : Int32).toUInt32 >>> (((1 : Int32) : Int32).toUInt32 &&& Int32.toUInt32 31)).toInt32 &&& (1431655765 : Int32))) &&& (858993459 : Int32)) + ((((x0 - (((x0 : Int32).toUInt32 >>> (((1 : Int32) : Int32).toUInt32 &&& Int32.toUInt32 31)).toInt32 &&& (1431655765 : Int32))) : Int32).toUInt32 >>> (((2 : Int32) : Int32).toUInt32 &&& Int32.toUInt32 31)).toInt32 &&& (858993459 : Int32))) : Int32).toUInt32 >>> (((4 : Int32) : Int32).toUInt32 &&& Int32.toUInt32 31)).toInt32) &&& (252645135 : Int32)) : Int32).toUInt32 >>> (((8 : Int32) : Int32).toUInt32 &&& Int32.toUInt32 31)).toInt32) : Int32).toUInt32 >>> (((16 : Int32) : Int32).toUInt32 &&& Int32.toUInt32 31)).toInt32) &&& (63 : Int32))) hx hb hr (q_end hK hP hD hS) hS.2.2 dJ6_bitCount_0f7a4_52
abbrev rm_X8_begin : Room := { frames := 0, cells := 0, slots := 0, locals := 0 }
set_option maxRecDepth 100000 in
set_option maxHeartbeats 8000000 in
theorem c_X8_begin (l : Launch) (D : va_G) (G : hG) (Z : hZ) (Y : va_W) (σ0 : hSt) (res : (Unit × hSt)) (h : f_X8_begin Z σ0 = some res) : CT l yX8_begin cX8_begin 1 none rm_X8_begin D G 0 0 [.ref (G.2.1 1)] (hW G Z Y σ0) (hW G Z Y res.2) none := by
  unfold f_X8_begin at h
  refine CT.mk (cc := cX8_begin) (maxL := 1) (ret := none) (own := RX8) (plainFor_of_name (by decide)) rfl (Nat.le_of_ble_eq_true rfl) ?_
  intro p e s m args below meth c A ls C0 hnm hA hP hD hl
  obtain ⟨hx, hb, hr, hml, hown, hts, hlocks, hK, hE⟩ := id C0
  have hS : va_S A s.heap s.heap [] := va_S.rf
  have hl : lv_has ls 1 [(0, .ref (G.2.1 1))] := hl
  refine lv_aload_n hx hb dX8_begin_0 rfl (lv_at hl 0 rfl) ?_
  refine lv_iconst (v := 0) hx hb dX8_begin_1 (by decide) ?_
  refine va_put (D := D) (ci := 8) (v := .int (0 : Int32)) (ty := .int) (C := RX8) (T := TX8) (N := 6) hx hb hts inU_X8 tyX8 tyX8_ok nmX8 hown hK hP hD hS _ (hg_1 G Z Y σ0) rfl 3 (by decide) (hts _ wd_50) (fun _ h9 => h9) rfl (by decide +kernel) rfl rfl (Nat.le_of_ble_eq_true rfl) dX8_begin_2 (fun H locs hP hD hS => ?_)
  have hP := wrP (hp_1_3 G Z Y σ0 (0 : Int32)) hP
  have hD := wrD (hp_1_3 G Z Y σ0 (0 : Int32)) hD
  refine lv_aload_n hx hb dX8_begin_5 rfl (lv_at hl 0 rfl) ?_
  refine lv_iconst (v := 0) hx hb dX8_begin_6 (by decide) ?_
  refine va_put (D := D) (ci := 8) (v := .int (0 : Int32)) (ty := .int) (C := RX8) (T := TX8) (N := 6) hx hb hts inU_X8 tyX8 tyX8_ok nmX8 hown hK hP hD hS _ (hg_1 G Z Y (sI σ0 1 3 (0 : Int32))) rfl 5 (by decide) (hts _ wd_55) (fun _ h9 => h9) rfl (by decide +kernel) rfl rfl (Nat.le_of_ble_eq_true rfl) dX8_begin_7 (fun H locs hP hD hS => ?_)
  have hP := wrP (hp_1_5 G Z Y (sI σ0 1 3 (0 : Int32)) (0 : Int32)) hP
  have hD := wrD (hp_1_5 G Z Y (sI σ0 1 3 (0 : Int32)) (0 : Int32)) hD
  refine lv_aload_n hx hb dX8_begin_10 rfl (lv_at hl 0 rfl) ?_
  refine lv_iconst (v := (-1)) hx hb dX8_begin_11 (by decide) ?_
  refine va_put (D := D) (ci := 8) (v := .int (-1 : Int32)) (ty := .int) (C := RX8) (T := TX8) (N := 6) hx hb hts inU_X8 tyX8 tyX8_ok nmX8 hown hK hP hD hS _ (hg_1 G Z Y (sI (sI σ0 1 3 (0 : Int32)) 1 5 (0 : Int32))) rfl 4 (by decide) (hts _ wd_53) (fun _ h9 => h9) rfl (by decide +kernel) rfl rfl (Nat.le_of_ble_eq_true rfl) dX8_begin_12 (fun H locs hP hD hS => ?_)
  have hP := wrP (hp_1_4 G Z Y (sI (sI σ0 1 3 (0 : Int32)) 1 5 (0 : Int32)) (-1 : Int32)) hP
  have hD := wrD (hp_1_4 G Z Y (sI (sI σ0 1 3 (0 : Int32)) 1 5 (0 : Int32)) (-1 : Int32)) hD
  obtain rfl := Option.some.inj h
  exact W.vret hx hb hr (q_end hK hP hD hS) hS.2.2 dX8_begin_15
abbrev rm_X8_here : Room := { frames := 0, cells := 0, slots := 0, locals := 0 }
set_option maxRecDepth 100000 in
set_option maxHeartbeats 8000000 in
theorem c_X8_here (l : Launch) (D : va_G) (G : hG) (Z : hZ) (Y : va_W) (σ0 : hSt) (res : Int32) (h : f_X8_here Z σ0 = some res) : CT l yX8_here cX8_here 1 (some .int) rm_X8_here D G 0 0 [.ref (G.2.1 1)] (hW G Z Y σ0) (hW G Z Y σ0) (some (.int res)) := by
  unfold f_X8_here at h
  refine CT.mk (cc := cX8_here) (maxL := 1) (ret := (some .int)) (own := RX8) (plainFor_of_name (by decide)) rfl (Nat.le_of_ble_eq_true rfl) ?_
  intro p e s m args below meth c A ls C0 hnm hA hP hD hl
  obtain ⟨hx, hb, hr, hml, hown, hts, hlocks, hK, hE⟩ := id C0
  have hS : va_S A s.heap s.heap [] := va_S.rf
  have hl : lv_has ls 1 [(0, .ref (G.2.1 1))] := hl
  refine lv_aload_n hx hb dX8_here_0 rfl (lv_at hl 0 rfl) ?_
  refine va_get (D := D) (ci := 8) (v := .int (σ0.1 1 3)) (C := RX8) (T := TX8) (N := 6) hx hb hts inU_X8 hown hK hP _ (hg_1 G Z Y σ0) rfl 3 (by decide) (hts _ wd_50) (fun _ h9 => h9) rfl dX8_here_1 ?_
  refine lv_if_lt (tgt := 42) hx hb dX8_here_4 (by decide) (fun c1 => ?_) (fun c1 => ?_)
  · skip
    have h := f_t c1 h
    refine lv_iconst (v := 0) hx hb dX8_here_42 (by decide) ?_
    obtain rfl := Option.some.inj h
    exact W.iret (v := (0 : Int32)) hx hb hr (q_end hK hP hD hS) hS.2.2 dX8_here_43
  · skip
    have h := f_f c1 h
    refine lv_aload_n hx hb dX8_here_7 rfl (lv_at hl 0 rfl) ?_
    refine va_get (D := D) (ci := 8) (v := .int (σ0.1 1 3)) (C := RX8) (T := TX8) (N := 6) hx hb hts inU_X8 hown hK hP _ (hg_1 G Z Y σ0) rfl 3 (by decide) (hts _ wd_50) (fun _ h9 => h9) rfl dX8_here_8 ?_
    refine lv_aload_n hx hb dX8_here_11 rfl (lv_at hl 0 rfl) ?_
    refine va_get (D := D) (ci := 8) (v := .int (σ0.1 1 2)) (C := RX8) (T := TX8) (N := 6) hx hb hts inU_X8 hown hK hP _ (hg_1 G Z Y σ0) rfl 2 (by decide) (hts _ wd_49) (fun _ h9 => h9) rfl dX8_here_12 ?_
    refine lv_icmp_ge (tgt := 42) hx hb dX8_here_15 (by decide) (fun c2 => ?_) (fun c2 => ?_)
    · skip
      have h := f_t c2 h
      refine lv_iconst (v := 0) hx hb dX8_here_42 (by decide) ?_
      obtain rfl := Option.some.inj h
      exact W.iret (v := (0 : Int32)) hx hb hr (q_end hK hP hD hS) hS.2.2 dX8_here_43
    · skip
      have h := f_f c2 h
      refine lv_aload_n hx hb dX8_here_18 rfl (lv_at hl 0 rfl) ?_
      refine va_get (D := D) (ci := 8) (v := .int (σ0.1 1 3)) (C := RX8) (T := TX8) (N := 6) hx hb hts inU_X8 hown hK hP _ (hg_1 G Z Y σ0) rfl 3 (by decide) (hts _ wd_50) (fun _ h9 => h9) rfl dX8_here_19 ?_
      refine lv_aload_n hx hb dX8_here_22 rfl (lv_at hl 0 rfl) ?_
      refine va_get (D := D) (ci := 8) (v := .ref (G.2.1 2)) (C := RX8) (T := TX8) (N := 6) hx hb hts inU_X8 hown hK hP _ (hg_1 G Z Y σ0) rfl 0 (by decide) (hts _ wd_46) (fun _ h9 => h9) rfl dX8_here_23 ?_
      refine va_alen (ty := .int) (v := (200 : Int32)) hx hb hK hP _ 0 (hg_2 G Z Y σ0) rfl rfl dX8_here_26 ?_
      refine lv_icmp_ge (tgt := 42) hx hb dX8_here_27 (by decide) (fun c3 => ?_) (fun c3 => ?_)
      · skip
        have h := f_t c3 h
        refine lv_iconst (v := 0) hx hb dX8_here_42 (by decide) ?_
        obtain rfl := Option.some.inj h
        exact W.iret (v := (0 : Int32)) hx hb hr (q_end hK hP hD hS) hS.2.2 dX8_here_43
      · skip
        have h := f_f c3 h
        refine lv_aload_n hx hb dX8_here_30 rfl (lv_at hl 0 rfl) ?_
        refine va_get (D := D) (ci := 8) (v := .ref (G.2.1 2)) (C := RX8) (T := TX8) (N := 6) hx hb hts inU_X8 hown hK hP _ (hg_1 G Z Y σ0) rfl 0 (by decide) (hts _ wd_46) (fun _ h9 => h9) rfl dX8_here_31 ?_
        refine lv_aload_n hx hb dX8_here_34 rfl (lv_at hl 0 rfl) ?_
        refine va_get (D := D) (ci := 8) (v := .int (σ0.1 1 3)) (C := RX8) (T := TX8) (N := 6) hx hb hts inU_X8 hown hK hP _ (hg_1 G Z Y σ0) rfl 3 (by decide) (hts _ wd_50) (fun _ h9 => h9) rfl dX8_here_35 ?_
        obtain ⟨c4, h⟩ := f_n h
        refine va_ialdE (v := (σ0.1 2 (((σ0.1 1 3) : Int32).toNatClampNeg))) hx hb hK hP _ 0 (hg_2 G Z Y σ0) rfl c4 dX8_here_38 rfl ?_
        refine lv_goto (tgt := 43) hx hb dX8_here_39 (by decide) ?_
        obtain rfl := Option.some.inj h
        exact W.iret (v := (σ0.1 2 (((σ0.1 1 3) : Int32).toNatClampNeg))) hx hb hr (q_end hK hP hD hS) hS.2.2 dX8_here_43
abbrev rm_X8_next : Room := { frames := 1, cells := 0, slots := 0, locals := 30 }
set_option maxRecDepth 100000 in
set_option maxHeartbeats 8000000 in
theorem W_X8_next_L9 {p : Program} {e : Env} {s : State} {m : MethodId} {args : Array Value} {below : List Frame} {meth : Method} {c : Code} {A : Nat → Prop} (l : Launch) (D : va_G) (G : hG) (Z : hZ) (Y : va_W) (σ0 : hSt) (F : Nat) (σ1 : hSt) (res : (Int32 × hSt)) (C0 : Cx p s m args meth c cX8_next (some .int) RX8 2 D G A) (hA : ∀ q : Nat, s.heap.size ≤ q → A q) : ∀ (n : Nat) (z1 : Int32), f_X8_next_L9 σ1 n z1 = some res → ∀ (H : Heap) (locs : List Loc) (ls : Array Slot), va_P D vwCl (hW G Z Y σ1) H → va_D A (hW G Z Y σ1) → va_S A s.heap H locs → lv_has ls 2 [(0, .ref (G.2.1 1)), (1, .int z1)] → W p l e rm_X8_next s m args below meth c H locs 0 0 (MQ below (Qg (some (.int res.1)) D (tysG G) (hW G Z Y res.2) A) args s 0 0 A) (F0 m 9 ls []) := by
  obtain ⟨hx, hb, hr, hml, hown, hts, hlocks, hK, hE⟩ := id C0
  intro n
  induction n with
  | zero =>
    intro z1 h
    cases h
  | succ n ih =>
    intro z1 h H locs ls hP hD hS hl
    rw [f_X8_next_L9] at h
    refine lv_iload_n hx hb dX8_next_9 rfl (lv_at hl 1 rfl) ?_
    refine lv_aload_n hx hb dX8_next_10 rfl (lv_at hl 0 rfl) ?_
    refine va_get (D := D) (ci := 8) (v := .int (σ1.1 1 2)) (C := RX8) (T := TX8) (N := 6) hx hb hts inU_X8 hown hK hP _ (hg_1 G Z Y σ1) rfl 2 (by decide) (hts _ wd_49) (fun _ h9 => h9) rfl dX8_next_11 ?_
    refine lv_icmp_ge (tgt := 55) hx hb dX8_next_14 (by decide) (fun c1 => ?_) (fun c1 => ?_)
    · skip
      have h := f_t c1 h
      refine lv_aload_n hx hb dX8_next_55 rfl (lv_at hl 0 rfl) ?_
      refine lv_aload_n hx hb dX8_next_56 rfl (lv_at hl 0 rfl) ?_
      refine va_get (D := D) (ci := 8) (v := .int (σ1.1 1 2)) (C := RX8) (T := TX8) (N := 6) hx hb hts inU_X8 hown hK hP _ (hg_1 G Z Y σ1) rfl 2 (by decide) (hts _ wd_49) (fun _ h9 => h9) rfl dX8_next_57 ?_
      refine va_put (D := D) (ci := 8) (v := .int (σ1.1 1 2)) (ty := .int) (C := RX8) (T := TX8) (N := 6) hx hb hts inU_X8 tyX8 tyX8_ok nmX8 hown hK hP hD hS _ (hg_1 G Z Y σ1) rfl 3 (by decide) (hts _ wd_50) (fun _ h9 => h9) rfl (by decide +kernel) rfl rfl (Nat.le_of_ble_eq_true rfl) dX8_next_60 (fun H locs hP hD hS => ?_)
      have hP := wrP (hp_1_3 G Z Y σ1 (σ1.1 1 2)) hP
      have hD := wrD (hp_1_3 G Z Y σ1 (σ1.1 1 2)) hD
      refine lv_iconst (v := 0) hx hb dX8_next_63 (by decide) ?_
      obtain rfl := Option.some.inj h
      exact W.iret (v := (0 : Int32)) hx hb hr (q_end hK hP hD hS) hS.2.2 dX8_next_64
    · skip
      have h := f_f c1 h
      refine lv_iload_n hx hb dX8_next_17 rfl (lv_at hl 1 rfl) ?_
      refine lv_aload_n hx hb dX8_next_18 rfl (lv_at hl 0 rfl) ?_
      refine va_get (D := D) (ci := 8) (v := .ref (G.2.1 2)) (C := RX8) (T := TX8) (N := 6) hx hb hts inU_X8 hown hK hP _ (hg_1 G Z Y σ1) rfl 0 (by decide) (hts _ wd_46) (fun _ h9 => h9) rfl dX8_next_19 ?_
      refine va_alen (ty := .int) (v := (200 : Int32)) hx hb hK hP _ 0 (hg_2 G Z Y σ1) rfl rfl dX8_next_22 ?_
      refine lv_icmp_ge (tgt := 55) hx hb dX8_next_23 (by decide) (fun c2 => ?_) (fun c2 => ?_)
      · skip
        have h := f_t c2 h
        refine lv_aload_n hx hb dX8_next_55 rfl (lv_at hl 0 rfl) ?_
        refine lv_aload_n hx hb dX8_next_56 rfl (lv_at hl 0 rfl) ?_
        refine va_get (D := D) (ci := 8) (v := .int (σ1.1 1 2)) (C := RX8) (T := TX8) (N := 6) hx hb hts inU_X8 hown hK hP _ (hg_1 G Z Y σ1) rfl 2 (by decide) (hts _ wd_49) (fun _ h9 => h9) rfl dX8_next_57 ?_
        refine va_put (D := D) (ci := 8) (v := .int (σ1.1 1 2)) (ty := .int) (C := RX8) (T := TX8) (N := 6) hx hb hts inU_X8 tyX8 tyX8_ok nmX8 hown hK hP hD hS _ (hg_1 G Z Y σ1) rfl 3 (by decide) (hts _ wd_50) (fun _ h9 => h9) rfl (by decide +kernel) rfl rfl (Nat.le_of_ble_eq_true rfl) dX8_next_60 (fun H locs hP hD hS => ?_)
        have hP := wrP (hp_1_3 G Z Y σ1 (σ1.1 1 2)) hP
        have hD := wrD (hp_1_3 G Z Y σ1 (σ1.1 1 2)) hD
        refine lv_iconst (v := 0) hx hb dX8_next_63 (by decide) ?_
        obtain rfl := Option.some.inj h
        exact W.iret (v := (0 : Int32)) hx hb hr (q_end hK hP hD hS) hS.2.2 dX8_next_64
      · skip
        have h := f_f c2 h
        refine lv_aload_n hx hb dX8_next_26 rfl (lv_at hl 0 rfl) ?_
        refine va_get (D := D) (ci := 8) (v := .ref (G.2.1 2)) (C := RX8) (T := TX8) (N := 6) hx hb hts inU_X8 hown hK hP _ (hg_1 G Z Y σ1) rfl 0 (by decide) (hts _ wd_46) (fun _ h9 => h9) rfl dX8_next_27 ?_
        refine lv_iload_n hx hb dX8_next_30 rfl (lv_at hl 1 rfl) ?_
        obtain ⟨c3, h⟩ := f_n h
        refine va_ialdE (v := (σ1.1 2 ((z1 : Int32).toNatClampNeg))) hx hb hK hP _ 0 (hg_2 G Z Y σ1) rfl c3 dX8_next_31 rfl ?_
        refine lv_bipush (v := 32) hx hb dX8_next_32 (by decide) ?_
        refine lv_icmp_eq (tgt := 49) hx hb dX8_next_34 (by decide) (fun c4 => ?_) (fun c4 => ?_)
        · skip
          have h := f_t c4 h
          refine lv_iinc (v := (z1 + 1)) (lv' := [(1, .int (z1 + 1)), (0, .ref (G.2.1 1))]) hx hb dX8_next_49 hl (k := 1) rfl rfl (by decide) rfl (fun ls hl => ?_)
          refine lv_goto (tgt := 9) hx hb dX8_next_52 (by decide) ?_
          exact ih (z1 + 1) h _ _ _ hP hD hS (lv_sub hl [1, 0] rfl)
        · skip
          have h := f_f c4 h
          refine lv_aload_n hx hb dX8_next_37 rfl (lv_at hl 0 rfl) ?_
          refine lv_iload_n hx hb dX8_next_38 rfl (lv_at hl 1 rfl) ?_
          refine va_put (D := D) (ci := 8) (v := .int z1) (ty := .int) (C := RX8) (T := TX8) (N := 6) hx hb hts inU_X8 tyX8 tyX8_ok nmX8 hown hK hP hD hS _ (hg_1 G Z Y σ1) rfl 3 (by decide) (hts _ wd_50) (fun _ h9 => h9) rfl (by decide +kernel) rfl rfl (Nat.le_of_ble_eq_true rfl) dX8_next_39 (fun H locs hP hD hS => ?_)
          have hP := wrP (hp_1_3 G Z Y σ1 z1) hP
          have hD := wrD (hp_1_3 G Z Y σ1 z1) hD
          refine lv_aload_n hx hb dX8_next_42 rfl (lv_at hl 0 rfl) ?_
          refine va_get (D := D) (ci := 8) (v := .ref (G.2.1 2)) (C := RX8) (T := TX8) (N := 6) hx hb hts inU_X8 hown hK hP _ (hg_1 G Z Y (sI σ1 1 3 z1)) rfl 0 (by decide) (hts _ wd_46) (fun _ h9 => h9) rfl dX8_next_43 ?_
          refine lv_iload_n hx hb dX8_next_46 rfl (lv_at hl 1 rfl) ?_
          obtain ⟨c5, h⟩ := f_n h
          refine va_ialdE (v := (σ1.1 2 ((z1 : Int32).toNatClampNeg))) hx hb hK hP _ 0 (hg_2 G Z Y (sI σ1 1 3 z1)) rfl c5 dX8_next_47 rfl ?_
          obtain rfl := Option.some.inj h
          exact W.iret (v := (σ1.1 2 ((z1 : Int32).toNatClampNeg))) hx hb hr (q_end hK hP hD hS) hS.2.2 dX8_next_48
set_option maxRecDepth 100000 in
set_option maxHeartbeats 8000000 in
theorem c_X8_next (l : Launch) (D : va_G) (G : hG) (Z : hZ) (Y : va_W) (σ0 : hSt) (F : Nat) (res : (Int32 × hSt)) (h : f_X8_next F Z σ0 = some res) : CT l yX8_next cX8_next 2 (some .int) rm_X8_next D G 0 0 [.ref (G.2.1 1)] (hW G Z Y σ0) (hW G Z Y res.2) (some (.int res.1)) := by
  unfold f_X8_next at h
  refine CT.mk (cc := cX8_next) (maxL := 2) (ret := (some .int)) (own := RX8) (plainFor_of_name (by decide)) rfl (Nat.le_of_ble_eq_true rfl) ?_
  intro p e s m args below meth c A ls C0 hnm hA hP hD hl
  obtain ⟨hx, hb, hr, hml, hown, hts, hlocks, hK, hE⟩ := id C0
  have hS : va_S A s.heap s.heap [] := va_S.rf
  have hl : lv_has ls 2 [(0, .ref (G.2.1 1))] := hl
  refine lv_iconst (v := 0) hx hb dX8_next_0 (by decide) ?_
  refine lv_aload_n hx hb dX8_next_1 rfl (lv_at hl 0 rfl) ?_
  refine va_get (D := D) (ci := 8) (v := .int (σ0.1 1 3)) (C := RX8) (T := TX8) (N := 6) hx hb hts inU_X8 hown hK hP _ (hg_1 G Z Y σ0) rfl 3 (by decide) (hts _ wd_50) (fun _ h9 => h9) rfl dX8_next_2 ?_
  refine va_mmax hx hb (hml.trans hl.1.symm) hown (hts _ wd_327) (hts _ wd_328) (hts _ wd_12) (hts _ wd_329) (Nat.le_of_ble_eq_true rfl) (Nat.le_of_ble_eq_true rfl) (Nat.zero_le _) (Nat.zero_le _) dX8_next_5 ?_
  refine lv_istore_n (lv' := [(1, .int (if (0 : Int32) < (σ0.1 1 3) then (σ0.1 1 3) else (0 : Int32))), (0, .ref (G.2.1 1))]) hx hb dX8_next_8 rfl hl (by decide) rfl (fun ls hl => ?_)
  refine W_X8_next_L9 l D G Z Y σ0 F σ0 res C0 hA F (if (0 : Int32) < (σ0.1 1 3) then (σ0.1 1 3) else (0 : Int32)) h _ _ _ hP hD hS (lv_sub hl [1, 0] rfl)
abbrev rm_X8_step : Room := { frames := 0, cells := 0, slots := 0, locals := 0 }
set_option maxRecDepth 100000 in
set_option maxHeartbeats 8000000 in
theorem c_X8_step (l : Launch) (D : va_G) (G : hG) (Z : hZ) (Y : va_W) (σ0 : hSt) (res : (Unit × hSt)) (h : f_X8_step Z σ0 = some res) : CT l yX8_step cX8_step 1 none rm_X8_step D G 0 0 [.ref (G.2.1 1)] (hW G Z Y σ0) (hW G Z Y res.2) none := by
  unfold f_X8_step at h
  refine CT.mk (cc := cX8_step) (maxL := 1) (ret := none) (own := RX8) (plainFor_of_name (by decide)) rfl (Nat.le_of_ble_eq_true rfl) ?_
  intro p e s m args below meth c A ls C0 hnm hA hP hD hl
  obtain ⟨hx, hb, hr, hml, hown, hts, hlocks, hK, hE⟩ := id C0
  have hS : va_S A s.heap s.heap [] := va_S.rf
  have hl : lv_has ls 1 [(0, .ref (G.2.1 1))] := hl
  refine lv_aload_n hx hb dX8_step_0 rfl (lv_at hl 0 rfl) ?_
  refine lv_dup hx hb dX8_step_1 rfl ?_
  refine va_get (D := D) (ci := 8) (v := .int (σ0.1 1 3)) (C := RX8) (T := TX8) (N := 6) hx hb hts inU_X8 hown hK hP _ (hg_1 G Z Y σ0) rfl 3 (by decide) (hts _ wd_50) (fun _ h9 => h9) rfl dX8_step_2 ?_
  refine lv_iconst (v := 1) hx hb dX8_step_5 (by decide) ?_
  refine lv_iadd hx hb dX8_step_6 ?_
  refine va_put (D := D) (ci := 8) (v := .int ((σ0.1 1 3) + (1 : Int32))) (ty := .int) (C := RX8) (T := TX8) (N := 6) hx hb hts inU_X8 tyX8 tyX8_ok nmX8 hown hK hP hD hS _ (hg_1 G Z Y σ0) rfl 3 (by decide) (hts _ wd_50) (fun _ h9 => h9) rfl (by decide +kernel) rfl rfl (Nat.le_of_ble_eq_true rfl) dX8_step_7 (fun H locs hP hD hS => ?_)
  have hP := wrP (hp_1_3 G Z Y σ0 ((σ0.1 1 3) + (1 : Int32))) hP
  have hD := wrD (hp_1_3 G Z Y σ0 ((σ0.1 1 3) + (1 : Int32))) hD
  obtain rfl := Option.some.inj h
  exact W.vret hx hb hr (q_end hK hP hD hS) hS.2.2 dX8_step_10
abbrev rm_X8_take : Room := { frames := 2, cells := 0, slots := 0, locals := 51 }
set_option maxRecDepth 100000 in
set_option maxHeartbeats 8000000 in
theorem c_X8_take (l : Launch) (D : va_G) (G : hG) (Z : hZ) (Y : va_W) (σ0 : hSt) (F : Nat) (x1 : Int32) (res : (Int32 × hSt)) (h : f_X8_take F Z σ0 x1 = some res) : CT l yX8_take cX8_take 2 (some .boolean) rm_X8_take D G 0 0 [.ref (G.2.1 1), .int x1] (hW G Z Y σ0) (hW G Z Y res.2) (some (.int res.1)) := by
  unfold f_X8_take at h
  refine CT.mk (cc := cX8_take) (maxL := 2) (ret := (some .boolean)) (own := RX8) (plainFor_of_name (by decide)) rfl (Nat.le_of_ble_eq_true rfl) ?_
  intro p e s m args below meth c A ls C0 hnm hA hP hD hl
  obtain ⟨hx, hb, hr, hml, hown, hts, hlocks, hK, hE⟩ := id C0
  have hS : va_S A s.heap s.heap [] := va_S.rf
  have hl : lv_has ls 2 [(0, .ref (G.2.1 1)), (1, .int x1)] := hl
  refine lv_aload_n hx hb dX8_take_0 rfl (lv_at hl 0 rfl) ?_
  obtain ⟨q1, hq1, h⟩ := f_b h
  refine cl_V (w := (hW G Z Y σ0)) (w' := (hW G Z Y q1.2)) (rv := some (.int q1.1)) (bytes := cX8_next) (maxL := 2) (ret := (some .int)) (C := RX8) (As := []) (rest := []) (stk := [.int q1.1]) ⟨hx, hb, hml, hown, hts⟩ hK hE hA hP hD hS (c_X8_next l D G Z Y σ0 F q1 hq1) (cwV 0 hts (gwV wd_342 wd_324 wd_325 wd_2 wd_326) rfl rfl rfl hd_X8_next ⟨Nat.le_of_ble_eq_true rfl, Nat.le_of_ble_eq_true rfl⟩) (hg_1 G Z Y σ0) rfl rfl rfl hl.1 rfl (Nat.le_of_ble_eq_true rfl) dX8_take_1 ⟨Nat.zero_le _, Nat.zero_le _⟩ rfl (fun H locs hP hD hS => ?_)
  refine lv_iload_n hx hb dX8_take_4 rfl (lv_at hl 1 rfl) ?_
  refine lv_icmp_eq (tgt := 10) hx hb dX8_take_5 (by decide) (fun c2 => ?_) (fun c2 => ?_)
  · skip
    have h := f_t c2 h
    refine lv_aload_n hx hb dX8_take_10 rfl (lv_at hl 0 rfl) ?_
    refine lv_dup hx hb dX8_take_11 rfl ?_
    refine va_get (D := D) (ci := 8) (v := .int (q1.2.1 1 3)) (C := RX8) (T := TX8) (N := 6) hx hb hts inU_X8 hown hK hP _ (hg_1 G Z Y q1.2) rfl 3 (by decide) (hts _ wd_50) (fun _ h9 => h9) rfl dX8_take_12 ?_
    refine lv_iconst (v := 1) hx hb dX8_take_15 (by decide) ?_
    refine lv_iadd hx hb dX8_take_16 ?_
    refine va_put (D := D) (ci := 8) (v := .int ((q1.2.1 1 3) + (1 : Int32))) (ty := .int) (C := RX8) (T := TX8) (N := 6) hx hb hts inU_X8 tyX8 tyX8_ok nmX8 hown hK hP hD hS _ (hg_1 G Z Y q1.2) rfl 3 (by decide) (hts _ wd_50) (fun _ h9 => h9) rfl (by decide +kernel) rfl rfl (Nat.le_of_ble_eq_true rfl) dX8_take_17 (fun H locs hP hD hS => ?_)
    have hP := wrP (hp_1_3 G Z Y q1.2 ((q1.2.1 1 3) + (1 : Int32))) hP
    have hD := wrD (hp_1_3 G Z Y q1.2 ((q1.2.1 1 3) + (1 : Int32))) hD
    refine lv_iconst (v := 1) hx hb dX8_take_20 (by decide) ?_
    obtain rfl := Option.some.inj h
    exact W.zret (v := (1 : Int32)) hx hb hr rfl (q_end hK hP hD hS) hS.2.2 dX8_take_21
  · skip
    have h := f_f c2 h
    refine lv_iconst (v := 0) hx hb dX8_take_8 (by decide) ?_
    obtain rfl := Option.some.inj h
    exact W.zret (v := (0 : Int32)) hx hb hr rfl (q_end hK hP hD hS) hS.2.2 dX8_take_9
abbrev rm_X8_expect : Room := { frames := 2, cells := 0, slots := 0, locals := 51 }
set_option maxRecDepth 100000 in
set_option maxHeartbeats 8000000 in
theorem c_X8_expect (l : Launch) (D : va_G) (G : hG) (Z : hZ) (Y : va_W) (σ0 : hSt) (F : Nat) (x1 : Int32) (res : (Int32 × hSt)) (h : f_X8_expect F Z σ0 x1 = some res) : CT l yX8_expect cX8_expect 2 (some .boolean) rm_X8_expect D G 0 0 [.ref (G.2.1 1), .int x1] (hW G Z Y σ0) (hW G Z Y res.2) (some (.int res.1)) := by
  unfold f_X8_expect at h
  refine CT.mk (cc := cX8_expect) (maxL := 2) (ret := (some .boolean)) (own := RX8) (plainFor_of_name (by decide)) rfl (Nat.le_of_ble_eq_true rfl) ?_
  intro p e s m args below meth c A ls C0 hnm hA hP hD hl
  obtain ⟨hx, hb, hr, hml, hown, hts, hlocks, hK, hE⟩ := id C0
  have hS : va_S A s.heap s.heap [] := va_S.rf
  have hl : lv_has ls 2 [(0, .ref (G.2.1 1)), (1, .int x1)] := hl
  refine lv_aload_n hx hb dX8_expect_0 rfl (lv_at hl 0 rfl) ?_
  obtain ⟨q1, hq1, h⟩ := f_b h
  refine cl_V (w := (hW G Z Y σ0)) (w' := (hW G Z Y q1.2)) (rv := some (.int q1.1)) (bytes := cX8_next) (maxL := 2) (ret := (some .int)) (C := RX8) (As := []) (rest := []) (stk := [.int q1.1]) ⟨hx, hb, hml, hown, hts⟩ hK hE hA hP hD hS (c_X8_next l D G Z Y σ0 F q1 hq1) (cwV 0 hts (gwV wd_342 wd_324 wd_325 wd_2 wd_326) rfl rfl rfl hd_X8_next ⟨Nat.le_of_ble_eq_true rfl, Nat.le_of_ble_eq_true rfl⟩) (hg_1 G Z Y σ0) rfl rfl rfl hl.1 rfl (Nat.le_of_ble_eq_true rfl) dX8_expect_1 ⟨Nat.zero_le _, Nat.zero_le _⟩ rfl (fun H locs hP hD hS => ?_)
  refine lv_iload_n hx hb dX8_expect_4 rfl (lv_at hl 1 rfl) ?_
  refine lv_icmp_eq (tgt := 18) hx hb dX8_expect_5 (by decide) (fun c2 => ?_) (fun c2 => ?_)
  · skip
    have h := f_t c2 h
    refine lv_aload_n hx hb dX8_expect_18 rfl (lv_at hl 0 rfl) ?_
    refine lv_dup hx hb dX8_expect_19 rfl ?_
    refine va_get (D := D) (ci := 8) (v := .int (q1.2.1 1 3)) (C := RX8) (T := TX8) (N := 6) hx hb hts inU_X8 hown hK hP _ (hg_1 G Z Y q1.2) rfl 3 (by decide) (hts _ wd_50) (fun _ h9 => h9) rfl dX8_expect_20 ?_
    refine lv_iconst (v := 1) hx hb dX8_expect_23 (by decide) ?_
    refine lv_iadd hx hb dX8_expect_24 ?_
    refine va_put (D := D) (ci := 8) (v := .int ((q1.2.1 1 3) + (1 : Int32))) (ty := .int) (C := RX8) (T := TX8) (N := 6) hx hb hts inU_X8 tyX8 tyX8_ok nmX8 hown hK hP hD hS _ (hg_1 G Z Y q1.2) rfl 3 (by decide) (hts _ wd_50) (fun _ h9 => h9) rfl (by decide +kernel) rfl rfl (Nat.le_of_ble_eq_true rfl) dX8_expect_25 (fun H locs hP hD hS => ?_)
    have hP := wrP (hp_1_3 G Z Y q1.2 ((q1.2.1 1 3) + (1 : Int32))) hP
    have hD := wrD (hp_1_3 G Z Y q1.2 ((q1.2.1 1 3) + (1 : Int32))) hD
    refine lv_iconst (v := 1) hx hb dX8_expect_28 (by decide) ?_
    obtain rfl := Option.some.inj h
    exact W.zret (v := (1 : Int32)) hx hb hr rfl (q_end hK hP hD hS) hS.2.2 dX8_expect_29
  · skip
    have h := f_f c2 h
    refine lv_aload_n hx hb dX8_expect_8 rfl (lv_at hl 0 rfl) ?_
    refine lv_aload_n hx hb dX8_expect_9 rfl (lv_at hl 0 rfl) ?_
    refine va_get (D := D) (ci := 8) (v := .int (q1.2.1 1 3)) (C := RX8) (T := TX8) (N := 6) hx hb hts inU_X8 hown hK hP _ (hg_1 G Z Y q1.2) rfl 3 (by decide) (hts _ wd_50) (fun _ h9 => h9) rfl dX8_expect_10 ?_
    refine va_put (D := D) (ci := 8) (v := .int (q1.2.1 1 3)) (ty := .int) (C := RX8) (T := TX8) (N := 6) hx hb hts inU_X8 tyX8 tyX8_ok nmX8 hown hK hP hD hS _ (hg_1 G Z Y q1.2) rfl 4 (by decide) (hts _ wd_53) (fun _ h9 => h9) rfl (by decide +kernel) rfl rfl (Nat.le_of_ble_eq_true rfl) dX8_expect_13 (fun H locs hP hD hS => ?_)
    have hP := wrP (hp_1_4 G Z Y q1.2 (q1.2.1 1 3)) hP
    have hD := wrD (hp_1_4 G Z Y q1.2 (q1.2.1 1 3)) hD
    refine lv_iconst (v := 0) hx hb dX8_expect_16 (by decide) ?_
    obtain rfl := Option.some.inj h
    exact W.zret (v := (0 : Int32)) hx hb hr rfl (q_end hK hP hD hS) hS.2.2 dX8_expect_17
abbrev rm_X8_fail : Room := { frames := 0, cells := 0, slots := 0, locals := 0 }
set_option maxRecDepth 100000 in
set_option maxHeartbeats 8000000 in
theorem c_X8_fail (l : Launch) (D : va_G) (G : hG) (Z : hZ) (Y : va_W) (σ0 : hSt) (res : (Int32 × hSt)) (h : f_X8_fail Z σ0 = some res) : CT l yX8_fail cX8_fail 1 (some .boolean) rm_X8_fail D G 0 0 [.ref (G.2.1 1)] (hW G Z Y σ0) (hW G Z Y res.2) (some (.int res.1)) := by
  unfold f_X8_fail at h
  refine CT.mk (cc := cX8_fail) (maxL := 1) (ret := (some .boolean)) (own := RX8) (plainFor_of_name (by decide)) rfl (Nat.le_of_ble_eq_true rfl) ?_
  intro p e s m args below meth c A ls C0 hnm hA hP hD hl
  obtain ⟨hx, hb, hr, hml, hown, hts, hlocks, hK, hE⟩ := id C0
  have hS : va_S A s.heap s.heap [] := va_S.rf
  have hl : lv_has ls 1 [(0, .ref (G.2.1 1))] := hl
  refine lv_aload_n hx hb dX8_fail_0 rfl (lv_at hl 0 rfl) ?_
  refine lv_aload_n hx hb dX8_fail_1 rfl (lv_at hl 0 rfl) ?_
  refine va_get (D := D) (ci := 8) (v := .int (σ0.1 1 3)) (C := RX8) (T := TX8) (N := 6) hx hb hts inU_X8 hown hK hP _ (hg_1 G Z Y σ0) rfl 3 (by decide) (hts _ wd_50) (fun _ h9 => h9) rfl dX8_fail_2 ?_
  refine va_put (D := D) (ci := 8) (v := .int (σ0.1 1 3)) (ty := .int) (C := RX8) (T := TX8) (N := 6) hx hb hts inU_X8 tyX8 tyX8_ok nmX8 hown hK hP hD hS _ (hg_1 G Z Y σ0) rfl 4 (by decide) (hts _ wd_53) (fun _ h9 => h9) rfl (by decide +kernel) rfl rfl (Nat.le_of_ble_eq_true rfl) dX8_fail_5 (fun H locs hP hD hS => ?_)
  have hP := wrP (hp_1_4 G Z Y σ0 (σ0.1 1 3)) hP
  have hD := wrD (hp_1_4 G Z Y σ0 (σ0.1 1 3)) hD
  refine lv_iconst (v := 0) hx hb dX8_fail_8 (by decide) ?_
  obtain rfl := Option.some.inj h
  exact W.zret (v := (0 : Int32)) hx hb hr rfl (q_end hK hP hD hS) hS.2.2 dX8_fail_9
abbrev rm_X8_expectEnd : Room := { frames := 2, cells := 0, slots := 0, locals := 51 }
set_option maxRecDepth 100000 in
set_option maxHeartbeats 8000000 in
theorem c_X8_expectEnd (l : Launch) (D : va_G) (G : hG) (Z : hZ) (Y : va_W) (σ0 : hSt) (F : Nat) (res : (Int32 × hSt)) (h : f_X8_expectEnd F Z σ0 = some res) : CT l yX8_expectEnd cX8_expectEnd 1 (some .boolean) rm_X8_expectEnd D G 0 0 [.ref (G.2.1 1)] (hW G Z Y σ0) (hW G Z Y res.2) (some (.int res.1)) := by
  unfold f_X8_expectEnd at h
  refine CT.mk (cc := cX8_expectEnd) (maxL := 1) (ret := (some .boolean)) (own := RX8) (plainFor_of_name (by decide)) rfl (Nat.le_of_ble_eq_true rfl) ?_
  intro p e s m args below meth c A ls C0 hnm hA hP hD hl
  obtain ⟨hx, hb, hr, hml, hown, hts, hlocks, hK, hE⟩ := id C0
  have hS : va_S A s.heap s.heap [] := va_S.rf
  have hl : lv_has ls 1 [(0, .ref (G.2.1 1))] := hl
  refine lv_aload_n hx hb dX8_expectEnd_0 rfl (lv_at hl 0 rfl) ?_
  obtain ⟨q1, hq1, h⟩ := f_b h
  refine cl_V (w := (hW G Z Y σ0)) (w' := (hW G Z Y q1.2)) (rv := some (.int q1.1)) (bytes := cX8_next) (maxL := 2) (ret := (some .int)) (C := RX8) (As := []) (rest := []) (stk := [.int q1.1]) ⟨hx, hb, hml, hown, hts⟩ hK hE hA hP hD hS (c_X8_next l D G Z Y σ0 F q1 hq1) (cwV 0 hts (gwV wd_342 wd_324 wd_325 wd_2 wd_326) rfl rfl rfl hd_X8_next ⟨Nat.le_of_ble_eq_true rfl, Nat.le_of_ble_eq_true rfl⟩) (hg_1 G Z Y σ0) rfl rfl rfl hl.1 rfl (Nat.le_of_ble_eq_true rfl) dX8_expectEnd_1 ⟨Nat.zero_le _, Nat.zero_le _⟩ rfl (fun H locs hP hD hS => ?_)
  refine lv_if_eq (tgt := 14) hx hb dX8_expectEnd_4 (by decide) (fun c2 => ?_) (fun c2 => ?_)
  · skip
    have h := f_t c2 h
    refine lv_iconst (v := 1) hx hb dX8_expectEnd_14 (by decide) ?_
    refine lv_goto (tgt := 19) hx hb dX8_expectEnd_15 (by decide) ?_
    obtain rfl := Option.some.inj h
    exact W.zret (v := (1 : Int32)) hx hb hr rfl (q_end hK hP hD hS) hS.2.2 dX8_expectEnd_19
  · skip
    have h := f_f c2 h
    refine lv_aload_n hx hb dX8_expectEnd_7 rfl (lv_at hl 0 rfl) ?_
    obtain ⟨q3, hq3, h⟩ := f_b h
    refine cl_V (w := (hW G Z Y q1.2)) (w' := (hW G Z Y q3.2)) (rv := some (.int q3.1)) (bytes := cX8_fail) (maxL := 1) (ret := (some .boolean)) (C := RX8) (As := []) (rest := []) (stk := [.int q3.1]) ⟨hx, hb, hml, hown, hts⟩ hK hE hA hP hD hS (c_X8_fail l D G Z Y q1.2 q3 hq3) (cwV 0 hts (gwV wd_359 wd_348 wd_349 wd_2 wd_350) rfl rfl rfl hd_X8_fail ⟨Nat.le_of_ble_eq_true rfl, Nat.le_of_ble_eq_true rfl⟩) (hg_1 G Z Y q1.2) rfl rfl rfl hl.1 rfl (Nat.le_of_ble_eq_true rfl) dX8_expectEnd_8 ⟨Nat.zero_le _, Nat.zero_le _⟩ rfl (fun H locs hP hD hS => ?_)
    refine lv_if_eq (tgt := 18) hx hb dX8_expectEnd_11 (by decide) (fun c4 => ?_) (fun c4 => ?_)
    · skip
      have h := f_t c4 h
      refine lv_iconst (v := 0) hx hb dX8_expectEnd_18 (by decide) ?_
      obtain rfl := Option.some.inj h
      exact W.zret (v := (0 : Int32)) hx hb hr rfl (q_end hK hP hD hS) hS.2.2 dX8_expectEnd_19
    · skip
      have h := f_f c4 h
      refine lv_iconst (v := 1) hx hb dX8_expectEnd_14 (by decide) ?_
      refine lv_goto (tgt := 19) hx hb dX8_expectEnd_15 (by decide) ?_
      obtain rfl := Option.some.inj h
      exact W.zret (v := (1 : Int32)) hx hb hr rfl (q_end hK hP hD hS) hS.2.2 dX8_expectEnd_19
abbrev rm_X8_write : Room := { frames := 0, cells := 0, slots := 0, locals := 0 }
set_option maxRecDepth 100000 in
set_option maxHeartbeats 8000000 in
theorem c_X8_write (l : Launch) (D : va_G) (G : hG) (Z : hZ) (Y : va_W) (σ0 : hSt) (x1 : Int32) (res : (Unit × hSt)) (h : f_X8_write Z σ0 x1 = some res) : CT l yX8_write cX8_write 2 none rm_X8_write D G 0 0 [.ref (G.2.1 1), .int x1] (hW G Z Y σ0) (hW G Z Y res.2) none := by
  unfold f_X8_write at h
  refine CT.mk (cc := cX8_write) (maxL := 2) (ret := none) (own := RX8) (plainFor_of_name (by decide)) rfl (Nat.le_of_ble_eq_true rfl) ?_
  intro p e s m args below meth c A ls C0 hnm hA hP hD hl
  obtain ⟨hx, hb, hr, hml, hown, hts, hlocks, hK, hE⟩ := id C0
  have hS : va_S A s.heap s.heap [] := va_S.rf
  have hl : lv_has ls 2 [(0, .ref (G.2.1 1)), (1, .int x1)] := hl
  refine lv_aload_n hx hb dX8_write_0 rfl (lv_at hl 0 rfl) ?_
  refine va_get (D := D) (ci := 8) (v := .int (σ0.1 1 5)) (C := RX8) (T := TX8) (N := 6) hx hb hts inU_X8 hown hK hP _ (hg_1 G Z Y σ0) rfl 5 (by decide) (hts _ wd_55) (fun _ h9 => h9) rfl dX8_write_1 ?_
  refine lv_if_lt (tgt := 39) hx hb dX8_write_4 (by decide) (fun c1 => ?_) (fun c1 => ?_)
  · skip
    have h := f_t c1 h
    obtain rfl := Option.some.inj h
    exact W.vret hx hb hr (q_end hK hP hD hS) hS.2.2 dX8_write_39
  · skip
    have h := f_f c1 h
    refine lv_aload_n hx hb dX8_write_7 rfl (lv_at hl 0 rfl) ?_
    refine va_get (D := D) (ci := 8) (v := .int (σ0.1 1 5)) (C := RX8) (T := TX8) (N := 6) hx hb hts inU_X8 hown hK hP _ (hg_1 G Z Y σ0) rfl 5 (by decide) (hts _ wd_55) (fun _ h9 => h9) rfl dX8_write_8 ?_
    refine lv_aload_n hx hb dX8_write_11 rfl (lv_at hl 0 rfl) ?_
    refine va_get (D := D) (ci := 8) (v := .ref (G.2.1 3)) (C := RX8) (T := TX8) (N := 6) hx hb hts inU_X8 hown hK hP _ (hg_1 G Z Y σ0) rfl 1 (by decide) (hts _ wd_47) (fun _ h9 => h9) rfl dX8_write_12 ?_
    refine va_alen (ty := .int) (v := (400 : Int32)) hx hb hK hP _ 0 (hg_3 G Z Y σ0) rfl rfl dX8_write_15 ?_
    refine lv_icmp_ge (tgt := 39) hx hb dX8_write_16 (by decide) (fun c2 => ?_) (fun c2 => ?_)
    · skip
      have h := f_t c2 h
      obtain rfl := Option.some.inj h
      exact W.vret hx hb hr (q_end hK hP hD hS) hS.2.2 dX8_write_39
    · skip
      have h := f_f c2 h
      refine lv_aload_n hx hb dX8_write_19 rfl (lv_at hl 0 rfl) ?_
      refine va_get (D := D) (ci := 8) (v := .ref (G.2.1 3)) (C := RX8) (T := TX8) (N := 6) hx hb hts inU_X8 hown hK hP _ (hg_1 G Z Y σ0) rfl 1 (by decide) (hts _ wd_47) (fun _ h9 => h9) rfl dX8_write_20 ?_
      refine lv_aload_n hx hb dX8_write_23 rfl (lv_at hl 0 rfl) ?_
      refine va_get (D := D) (ci := 8) (v := .int (σ0.1 1 5)) (C := RX8) (T := TX8) (N := 6) hx hb hts inU_X8 hown hK hP _ (hg_1 G Z Y σ0) rfl 5 (by decide) (hts _ wd_55) (fun _ h9 => h9) rfl dX8_write_24 ?_
      refine lv_iload_n hx hb dX8_write_27 rfl (lv_at hl 1 rfl) ?_
      obtain ⟨c3, h⟩ := f_n h
      refine va_iast hx hb hK hP hD hS _ 0 (hg_3 G Z Y σ0) rfl c3 dX8_write_28 (fun H locs hP hD hS => ?_)
      have hP := wrP (hp_3 G Z Y σ0 _ _) hP
      have hD := wrD (hp_3 G Z Y σ0 _ _) hD
      refine lv_aload_n hx hb dX8_write_29 rfl (lv_at hl 0 rfl) ?_
      refine lv_dup hx hb dX8_write_30 rfl ?_
      refine va_get (D := D) (ci := 8) (v := .int (σ0.1 1 5)) (C := RX8) (T := TX8) (N := 6) hx hb hts inU_X8 hown hK hP _ (hg_1 G Z Y (sI σ0 3 (((σ0.1 1 5) : Int32).toNatClampNeg) x1)) rfl 5 (by decide) (hts _ wd_55) (fun _ h9 => h9) rfl dX8_write_31 ?_
      refine lv_iconst (v := 1) hx hb dX8_write_34 (by decide) ?_
      refine lv_iadd hx hb dX8_write_35 ?_
      refine va_put (D := D) (ci := 8) (v := .int ((σ0.1 1 5) + (1 : Int32))) (ty := .int) (C := RX8) (T := TX8) (N := 6) hx hb hts inU_X8 tyX8 tyX8_ok nmX8 hown hK hP hD hS _ (hg_1 G Z Y (sI σ0 3 (((σ0.1 1 5) : Int32).toNatClampNeg) x1)) rfl 5 (by decide) (hts _ wd_55) (fun _ h9 => h9) rfl (by decide +kernel) rfl rfl (Nat.le_of_ble_eq_true rfl) dX8_write_36 (fun H locs hP hD hS => ?_)
      have hP := wrP (hp_1_5 G Z Y (sI σ0 3 (((σ0.1 1 5) : Int32).toNatClampNeg) x1) ((σ0.1 1 5) + (1 : Int32))) hP
      have hD := wrD (hp_1_5 G Z Y (sI σ0 3 (((σ0.1 1 5) : Int32).toNatClampNeg) x1) ((σ0.1 1 5) + (1 : Int32))) hD
      obtain rfl := Option.some.inj h
      exact W.vret hx hb hr (q_end hK hP hD hS) hS.2.2 dX8_write_39
abbrev rm_X8_rewrite : Room := { frames := 0, cells := 0, slots := 0, locals := 0 }
set_option maxRecDepth 100000 in
set_option maxHeartbeats 8000000 in
theorem c_X8_rewrite (l : Launch) (D : va_G) (G : hG) (Z : hZ) (Y : va_W) (σ0 : hSt) (x1 : Int32) (x2 : Int32) (res : (Unit × hSt)) (h : f_X8_rewrite Z σ0 x1 x2 = some res) : CT l yX8_rewrite cX8_rewrite 3 none rm_X8_rewrite D G 0 0 [.ref (G.2.1 1), .int x1, .int x2] (hW G Z Y σ0) (hW G Z Y res.2) none := by
  unfold f_X8_rewrite at h
  refine CT.mk (cc := cX8_rewrite) (maxL := 3) (ret := none) (own := RX8) (plainFor_of_name (by decide)) rfl (Nat.le_of_ble_eq_true rfl) ?_
  intro p e s m args below meth c A ls C0 hnm hA hP hD hl
  obtain ⟨hx, hb, hr, hml, hown, hts, hlocks, hK, hE⟩ := id C0
  have hS : va_S A s.heap s.heap [] := va_S.rf
  have hl : lv_has ls 3 [(0, .ref (G.2.1 1)), (1, .int x1), (2, .int x2)] := hl
  refine lv_iload_n hx hb dX8_rewrite_0 rfl (lv_at hl 1 rfl) ?_
  refine lv_if_lt (tgt := 20) hx hb dX8_rewrite_1 (by decide) (fun c1 => ?_) (fun c1 => ?_)
  · skip
    have h := f_t c1 h
    obtain rfl := Option.some.inj h
    exact W.vret hx hb hr (q_end hK hP hD hS) hS.2.2 dX8_rewrite_20
  · skip
    have h := f_f c1 h
    refine lv_iload_n hx hb dX8_rewrite_4 rfl (lv_at hl 1 rfl) ?_
    refine lv_aload_n hx hb dX8_rewrite_5 rfl (lv_at hl 0 rfl) ?_
    refine va_get (D := D) (ci := 8) (v := .ref (G.2.1 3)) (C := RX8) (T := TX8) (N := 6) hx hb hts inU_X8 hown hK hP _ (hg_1 G Z Y σ0) rfl 1 (by decide) (hts _ wd_47) (fun _ h9 => h9) rfl dX8_rewrite_6 ?_
    refine va_alen (ty := .int) (v := (400 : Int32)) hx hb hK hP _ 0 (hg_3 G Z Y σ0) rfl rfl dX8_rewrite_9 ?_
    refine lv_icmp_ge (tgt := 20) hx hb dX8_rewrite_10 (by decide) (fun c2 => ?_) (fun c2 => ?_)
    · skip
      have h := f_t c2 h
      obtain rfl := Option.some.inj h
      exact W.vret hx hb hr (q_end hK hP hD hS) hS.2.2 dX8_rewrite_20
    · skip
      have h := f_f c2 h
      refine lv_aload_n hx hb dX8_rewrite_13 rfl (lv_at hl 0 rfl) ?_
      refine va_get (D := D) (ci := 8) (v := .ref (G.2.1 3)) (C := RX8) (T := TX8) (N := 6) hx hb hts inU_X8 hown hK hP _ (hg_1 G Z Y σ0) rfl 1 (by decide) (hts _ wd_47) (fun _ h9 => h9) rfl dX8_rewrite_14 ?_
      refine lv_iload_n hx hb dX8_rewrite_17 rfl (lv_at hl 1 rfl) ?_
      refine lv_iload_n hx hb dX8_rewrite_18 rfl (lv_at hl 2 rfl) ?_
      obtain ⟨c3, h⟩ := f_n h
      refine va_iast hx hb hK hP hD hS _ 0 (hg_3 G Z Y σ0) rfl c3 dX8_rewrite_19 (fun H locs hP hD hS => ?_)
      have hP := wrP (hp_3 G Z Y σ0 _ _) hP
      have hD := wrD (hp_3 G Z Y σ0 _ _) hD
      obtain rfl := Option.some.inj h
      exact W.vret hx hb hr (q_end hK hP hD hS) hS.2.2 dX8_rewrite_20
abbrev rm_X8_signsIn : Room := { frames := 0, cells := 0, slots := 0, locals := 0 }
set_option maxRecDepth 100000 in
set_option maxHeartbeats 8000000 in
theorem W_X8_signsIn_L5 {p : Program} {e : Env} {s : State} {m : MethodId} {args : Array Value} {below : List Frame} {meth : Method} {c : Code} {A : Nat → Prop} (l : Launch) (D : va_G) (G : hG) (w : va_W) (F : Nat) (x0 : Int32) (y0 : Int32) (res : Int32) (C0 : Cx p s m args meth c cX8_signsIn (some .int) RX8 3 D G A) (hA : ∀ q : Nat, s.heap.size ≤ q → A q) : ∀ (n : Nat) (z1 : Int32) (z2 : Int32), f_X8_signsIn_L5 y0 n z1 z2 = some res → ∀ (H : Heap) (locs : List Loc) (ls : Array Slot), va_P D vwCl w H → va_D A w → va_S A s.heap H locs → lv_has ls 3 [(0, .int y0), (1, .int z1), (2, .int z2)] → W p l e rm_X8_signsIn s m args below meth c H locs 0 0 (MQ below (Qg (some (.int res)) D (tysG G) w A) args s 0 0 A) (F0 m 5 ls []) := by
  obtain ⟨hx, hb, hr, hml, hown, hts, hlocks, hK, hE⟩ := id C0
  intro n
  induction n with
  | zero =>
    intro z1 z2 h
    cases h
  | succ n ih =>
    intro z1 z2 h H locs ls hP hD hS hl
    rw [f_X8_signsIn_L5] at h
    refine lv_iload_n hx hb dX8_signsIn_5 rfl (lv_at hl 2 rfl) ?_
    refine lv_if_lt (tgt := 28) hx hb dX8_signsIn_6 (by decide) (fun c1 => ?_) (fun c1 => ?_)
    · skip
      have h := f_t c1 h
      refine lv_iload_n hx hb dX8_signsIn_28 rfl (lv_at hl 1 rfl) ?_
      obtain rfl := Option.some.inj h
      exact W.iret (v := z1) hx hb hr (q_end hK hP hD hS) hS.2.2 dX8_signsIn_29
    · skip
      have h := f_f c1 h
      refine lv_iload_n hx hb dX8_signsIn_9 rfl (lv_at hl 0 rfl) ?_
      refine lv_iload_n hx hb dX8_signsIn_10 rfl (lv_at hl 2 rfl) ?_
      refine lv_iushr (v := ((y0 : Int32).toUInt32 >>> ((z2 : Int32).toUInt32 &&& Int32.toUInt32 31)).toInt32) hx hb dX8_signsIn_11 rfl ?_
      refine lv_sipush (v := 255) hx hb dX8_signsIn_12 (by decide) ?_
      refine lv_iand hx hb dX8_signsIn_15 ?_
      refine lv_if_eq (tgt := 22) hx hb dX8_signsIn_16 (by decide) (fun c2 => ?_) (fun c2 => ?_)
      · skip
        have h := f_t c2 h
        refine lv_iinc (v := (z2 + (-8 : Int32))) (lv' := [(2, .int (z2 + (-8 : Int32))), (0, .int y0), (1, .int z1)]) hx hb dX8_signsIn_22 hl (k := 2) rfl rfl (by decide) rfl (fun ls hl => ?_)
        refine lv_goto (tgt := 5) hx hb dX8_signsIn_25 (by decide) ?_
        exact ih z1 (z2 + (-8 : Int32)) h _ _ _ hP hD hS (lv_sub hl [1, 2, 0] rfl)
      · skip
        have h := f_f c2 h
        refine lv_iinc (v := (z1 + 1)) (lv' := [(1, .int (z1 + 1)), (0, .int y0), (2, .int z2)]) hx hb dX8_signsIn_19 hl (k := 1) rfl rfl (by decide) rfl (fun ls hl => ?_)
        refine lv_iinc (v := (z2 + (-8 : Int32))) (lv' := [(2, .int (z2 + (-8 : Int32))), (1, .int (z1 + 1)), (0, .int y0)]) hx hb dX8_signsIn_22 hl (k := 2) rfl rfl (by decide) rfl (fun ls hl => ?_)
        refine lv_goto (tgt := 5) hx hb dX8_signsIn_25 (by decide) ?_
        exact ih (z1 + 1) (z2 + (-8 : Int32)) h _ _ _ hP hD hS (lv_sub hl [2, 1, 0] rfl)
set_option maxRecDepth 100000 in
set_option maxHeartbeats 8000000 in
theorem c_X8_signsIn (l : Launch) (D : va_G) (G : hG) (w : va_W) (F : Nat) (x0 : Int32) (res : Int32) (h : f_X8_signsIn F x0 = some res) : CT l yX8_signsIn cX8_signsIn 3 (some .int) rm_X8_signsIn D G 0 0 [.int x0] w w (some (.int res)) := by
  unfold f_X8_signsIn at h
  refine CT.mk (cc := cX8_signsIn) (maxL := 3) (ret := (some .int)) (own := RX8) (plainFor_of_name (by decide)) rfl (Nat.le_of_ble_eq_true rfl) ?_
  intro p e s m args below meth c A ls C0 hnm hA hP hD hl
  obtain ⟨hx, hb, hr, hml, hown, hts, hlocks, hK, hE⟩ := id C0
  have hS : va_S A s.heap s.heap [] := va_S.rf
  have hl : lv_has ls 3 [(0, .int x0)] := hl
  refine lv_iconst (v := 0) hx hb dX8_signsIn_0 (by decide) ?_
  refine lv_istore_n (lv' := [(1, .int (0 : Int32)), (0, .int x0)]) hx hb dX8_signsIn_1 rfl hl (by decide) rfl (fun ls hl => ?_)
  refine lv_bipush (v := 24) hx hb dX8_signsIn_2 (by decide) ?_
  refine lv_istore_n (lv' := [(2, .int (24 : Int32)), (1, .int (0 : Int32)), (0, .int x0)]) hx hb dX8_signsIn_4 rfl hl (by decide) rfl (fun ls hl => ?_)
  refine W_X8_signsIn_L5 l D G w F x0 x0 res C0 hA F (0 : Int32) (24 : Int32) h _ _ _ hP hD hS (lv_sub hl [2, 1, 0] rfl)
abbrev rm_X8_append : Room := { frames := 0, cells := 0, slots := 0, locals := 0 }
set_option maxRecDepth 100000 in
set_option maxHeartbeats 8000000 in
theorem W_X8_append_L3 {p : Program} {e : Env} {s : State} {m : MethodId} {args : Array Value} {below : List Frame} {meth : Method} {c : Code} {A : Nat → Prop} (l : Launch) (D : va_G) (G : hG) (Z : hZ) (Y : va_W) (σ0 : hSt) (F : Nat) (x1 : Int32) (y1 : Int32) (res : (Unit × hSt)) (C0 : Cx p s m args meth c cX8_append none RX8 4 D G A) (hA : ∀ q : Nat, s.heap.size ≤ q → A q) : ∀ (n : Nat) (σ1 : hSt) (z2 : Int32), f_X8_append_L3 y1 n σ1 z2 = some res → ∀ (H : Heap) (locs : List Loc) (ls : Array Slot), va_P D vwCl (hW G Z Y σ1) H → va_D A (hW G Z Y σ1) → va_S A s.heap H locs → lv_has ls 4 [(0, .ref (G.2.1 1)), (1, .int y1), (2, .int z2)] → W p l e rm_X8_append s m args below meth c H locs 0 0 (MQ below (Qg none D (tysG G) (hW G Z Y res.2) A) args s 0 0 A) (F0 m 3 ls []) := by
  obtain ⟨hx, hb, hr, hml, hown, hts, hlocks, hK, hE⟩ := id C0
  intro n
  induction n with
  | zero =>
    intro σ1 z2 h
    cases h
  | succ n ih =>
    intro σ1 z2 h H locs ls hP hD hS hl
    rw [f_X8_append_L3] at h
    refine lv_iload_n hx hb dX8_append_3 rfl (lv_at hl 2 rfl) ?_
    refine lv_if_lt (tgt := 64) hx hb dX8_append_4 (by decide) (fun c1 => ?_) (fun c1 => ?_)
    · skip
      have h := f_t c1 h
      obtain rfl := Option.some.inj h
      exact W.vret hx hb hr (q_end hK hP hD hS) hS.2.2 dX8_append_64
    · skip
      have h := f_f c1 h
      refine lv_iload_n hx hb dX8_append_7 rfl (lv_at hl 1 rfl) ?_
      refine lv_iload_n hx hb dX8_append_8 rfl (lv_at hl 2 rfl) ?_
      refine lv_iushr (v := ((y1 : Int32).toUInt32 >>> ((z2 : Int32).toUInt32 &&& Int32.toUInt32 31)).toInt32) hx hb dX8_append_9 rfl ?_
      refine lv_sipush (v := 255) hx hb dX8_append_10 (by decide) ?_
      refine lv_iand hx hb dX8_append_13 ?_
      refine lv_istore_n (lv' := [(3, .int (((y1 : Int32).toUInt32 >>> ((z2 : Int32).toUInt32 &&& Int32.toUInt32 31)).toInt32 &&& (255 : Int32))), (0, .ref (G.2.1 1)), (1, .int y1), (2, .int z2)]) hx hb dX8_append_14 rfl hl (by decide) rfl (fun ls hl => ?_)
      refine lv_iload_n hx hb dX8_append_15 rfl (lv_at hl 0 rfl) ?_
      refine lv_if_eq (tgt := 58) hx hb dX8_append_16 (by decide) (fun c2 => ?_) (fun c2 => ?_)
      · skip
        have h := f_t c2 h
        refine lv_iinc (v := (z2 + (-8 : Int32))) (lv' := [(2, .int (z2 + (-8 : Int32))), (3, .int (((y1 : Int32).toUInt32 >>> ((z2 : Int32).toUInt32 &&& Int32.toUInt32 31)).toInt32 &&& (255 : Int32))), (0, .ref (G.2.1 1)), (1, .int y1)]) hx hb dX8_append_58 hl (k := 3) rfl rfl (by decide) rfl (fun ls hl => ?_)
        refine lv_goto (tgt := 3) hx hb dX8_append_61 (by decide) ?_
        exact ih σ1 (z2 + (-8 : Int32)) h _ _ _ hP hD hS (lv_sub hl [2, 3, 0] rfl)
      · skip
        have h := f_f c2 h
        refine lv_aload_n hx hb dX8_append_19 rfl (lv_at hl 1 rfl) ?_
        refine va_get (D := D) (ci := 8) (v := .int (σ1.1 1 2)) (C := RX8) (T := TX8) (N := 6) hx hb hts inU_X8 hown hK hP _ (hg_1 G Z Y σ1) rfl 2 (by decide) (hts _ wd_49) (fun _ h9 => h9) rfl dX8_append_20 ?_
        refine lv_if_lt (tgt := 58) hx hb dX8_append_23 (by decide) (fun c3 => ?_) (fun c3 => ?_)
        · skip
          have h := f_t c3 h
          refine lv_iinc (v := (z2 + (-8 : Int32))) (lv' := [(2, .int (z2 + (-8 : Int32))), (3, .int (((y1 : Int32).toUInt32 >>> ((z2 : Int32).toUInt32 &&& Int32.toUInt32 31)).toInt32 &&& (255 : Int32))), (0, .ref (G.2.1 1)), (1, .int y1)]) hx hb dX8_append_58 hl (k := 3) rfl rfl (by decide) rfl (fun ls hl => ?_)
          refine lv_goto (tgt := 3) hx hb dX8_append_61 (by decide) ?_
          exact ih σ1 (z2 + (-8 : Int32)) h _ _ _ hP hD hS (lv_sub hl [2, 3, 0] rfl)
        · skip
          have h := f_f c3 h
          refine lv_aload_n hx hb dX8_append_26 rfl (lv_at hl 1 rfl) ?_
          refine va_get (D := D) (ci := 8) (v := .int (σ1.1 1 2)) (C := RX8) (T := TX8) (N := 6) hx hb hts inU_X8 hown hK hP _ (hg_1 G Z Y σ1) rfl 2 (by decide) (hts _ wd_49) (fun _ h9 => h9) rfl dX8_append_27 ?_
          refine lv_aload_n hx hb dX8_append_30 rfl (lv_at hl 1 rfl) ?_
          refine va_get (D := D) (ci := 8) (v := .ref (G.2.1 2)) (C := RX8) (T := TX8) (N := 6) hx hb hts inU_X8 hown hK hP _ (hg_1 G Z Y σ1) rfl 0 (by decide) (hts _ wd_46) (fun _ h9 => h9) rfl dX8_append_31 ?_
          refine va_alen (ty := .int) (v := (200 : Int32)) hx hb hK hP _ 0 (hg_2 G Z Y σ1) rfl rfl dX8_append_34 ?_
          refine lv_icmp_ge (tgt := 58) hx hb dX8_append_35 (by decide) (fun c4 => ?_) (fun c4 => ?_)
          · skip
            have h := f_t c4 h
            refine lv_iinc (v := (z2 + (-8 : Int32))) (lv' := [(2, .int (z2 + (-8 : Int32))), (3, .int (((y1 : Int32).toUInt32 >>> ((z2 : Int32).toUInt32 &&& Int32.toUInt32 31)).toInt32 &&& (255 : Int32))), (0, .ref (G.2.1 1)), (1, .int y1)]) hx hb dX8_append_58 hl (k := 3) rfl rfl (by decide) rfl (fun ls hl => ?_)
            refine lv_goto (tgt := 3) hx hb dX8_append_61 (by decide) ?_
            exact ih σ1 (z2 + (-8 : Int32)) h _ _ _ hP hD hS (lv_sub hl [2, 3, 0] rfl)
          · skip
            have h := f_f c4 h
            refine lv_aload_n hx hb dX8_append_38 rfl (lv_at hl 1 rfl) ?_
            refine va_get (D := D) (ci := 8) (v := .ref (G.2.1 2)) (C := RX8) (T := TX8) (N := 6) hx hb hts inU_X8 hown hK hP _ (hg_1 G Z Y σ1) rfl 0 (by decide) (hts _ wd_46) (fun _ h9 => h9) rfl dX8_append_39 ?_
            refine lv_aload_n hx hb dX8_append_42 rfl (lv_at hl 1 rfl) ?_
            refine va_get (D := D) (ci := 8) (v := .int (σ1.1 1 2)) (C := RX8) (T := TX8) (N := 6) hx hb hts inU_X8 hown hK hP _ (hg_1 G Z Y σ1) rfl 2 (by decide) (hts _ wd_49) (fun _ h9 => h9) rfl dX8_append_43 ?_
            refine lv_iload_n hx hb dX8_append_46 rfl (lv_at hl 0 rfl) ?_
            obtain ⟨c5, h⟩ := f_n h
            refine va_iast hx hb hK hP hD hS _ 0 (hg_2 G Z Y σ1) rfl c5 dX8_append_47 (fun H locs hP hD hS => ?_)
            have hP := wrP (hp_2 G Z Y σ1 _ _) hP
            have hD := wrD (hp_2 G Z Y σ1 _ _) hD
            refine lv_aload_n hx hb dX8_append_48 rfl (lv_at hl 1 rfl) ?_
            refine lv_dup hx hb dX8_append_49 rfl ?_
            refine va_get (D := D) (ci := 8) (v := .int (σ1.1 1 2)) (C := RX8) (T := TX8) (N := 6) hx hb hts inU_X8 hown hK hP _ (hg_1 G Z Y (sI σ1 2 (((σ1.1 1 2) : Int32).toNatClampNeg) (((y1 : Int32).toUInt32 >>> ((z2 : Int32).toUInt32 &&& Int32.toUInt32 31)).toInt32 &&& (255 : Int32)))) rfl 2 (by decide) (hts _ wd_49) (fun _ h9 => h9) rfl dX8_append_50 ?_
            refine lv_iconst (v := 1) hx hb dX8_append_53 (by decide) ?_
            refine lv_iadd hx hb dX8_append_54 ?_
            refine va_put (D := D) (ci := 8) (v := .int ((σ1.1 1 2) + (1 : Int32))) (ty := .int) (C := RX8) (T := TX8) (N := 6) hx hb hts inU_X8 tyX8 tyX8_ok nmX8 hown hK hP hD hS _ (hg_1 G Z Y (sI σ1 2 (((σ1.1 1 2) : Int32).toNatClampNeg) (((y1 : Int32).toUInt32 >>> ((z2 : Int32).toUInt32 &&& Int32.toUInt32 31)).toInt32 &&& (255 : Int32)))) rfl 2 (by decide) (hts _ wd_49) (fun _ h9 => h9) rfl (by decide +kernel) rfl rfl (Nat.le_of_ble_eq_true rfl) dX8_append_55 (fun H locs hP hD hS => ?_)
            have hP := wrP (hp_1_2 G Z Y (sI σ1 2 (((σ1.1 1 2) : Int32).toNatClampNeg) (((y1 : Int32).toUInt32 >>> ((z2 : Int32).toUInt32 &&& Int32.toUInt32 31)).toInt32 &&& (255 : Int32))) ((σ1.1 1 2) + (1 : Int32))) hP
            have hD := wrD (hp_1_2 G Z Y (sI σ1 2 (((σ1.1 1 2) : Int32).toNatClampNeg) (((y1 : Int32).toUInt32 >>> ((z2 : Int32).toUInt32 &&& Int32.toUInt32 31)).toInt32 &&& (255 : Int32))) ((σ1.1 1 2) + (1 : Int32))) hD
            refine lv_iinc (v := (z2 + (-8 : Int32))) (lv' := [(2, .int (z2 + (-8 : Int32))), (3, .int (((y1 : Int32).toUInt32 >>> ((z2 : Int32).toUInt32 &&& Int32.toUInt32 31)).toInt32 &&& (255 : Int32))), (0, .ref (G.2.1 1)), (1, .int y1)]) hx hb dX8_append_58 hl (k := 3) rfl rfl (by decide) rfl (fun ls hl => ?_)
            refine lv_goto (tgt := 3) hx hb dX8_append_61 (by decide) ?_
            exact ih (sI (sI σ1 2 (((σ1.1 1 2) : Int32).toNatClampNeg) (((y1 : Int32).toUInt32 >>> ((z2 : Int32).toUInt32 &&& Int32.toUInt32 31)).toInt32 &&& (255 : Int32))) 1 2 ((σ1.1 1 2) + (1 : Int32))) (z2 + (-8 : Int32)) h _ _ _ hP hD hS (lv_sub hl [2, 3, 0] rfl)
set_option maxRecDepth 100000 in
set_option maxHeartbeats 8000000 in
theorem c_X8_append (l : Launch) (D : va_G) (G : hG) (Z : hZ) (Y : va_W) (σ0 : hSt) (F : Nat) (x1 : Int32) (res : (Unit × hSt)) (h : f_X8_append F Z σ0 x1 = some res) : CT l yX8_append cX8_append 4 none rm_X8_append D G 0 0 [.ref (G.2.1 1), .int x1] (hW G Z Y σ0) (hW G Z Y res.2) none := by
  unfold f_X8_append at h
  refine CT.mk (cc := cX8_append) (maxL := 4) (ret := none) (own := RX8) (plainFor_of_name (by decide)) rfl (Nat.le_of_ble_eq_true rfl) ?_
  intro p e s m args below meth c A ls C0 hnm hA hP hD hl
  obtain ⟨hx, hb, hr, hml, hown, hts, hlocks, hK, hE⟩ := id C0
  have hS : va_S A s.heap s.heap [] := va_S.rf
  have hl : lv_has ls 4 [(0, .ref (G.2.1 1)), (1, .int x1)] := hl
  refine lv_bipush (v := 24) hx hb dX8_append_0 (by decide) ?_
  refine lv_istore_n (lv' := [(2, .int (24 : Int32)), (0, .ref (G.2.1 1)), (1, .int x1)]) hx hb dX8_append_2 rfl hl (by decide) rfl (fun ls hl => ?_)
  refine W_X8_append_L3 l D G Z Y σ0 F x1 x1 res C0 hA F σ0 (24 : Int32) h _ _ _ hP hD hS (lv_sub hl [1, 2, 0] rfl)
def rmG_X5 (d : Nat) : Room := { frames := 3 + d, cells := 0, slots := 0, locals := 72 + d * 22 }
set_option maxRecDepth 100000 in
set_option maxHeartbeats 8000000 in
theorem W_X5_ands_L14 {p : Program} {e : Env} {s : State} {m : MethodId} {args : Array Value} {below : List Frame} {meth : Method} {c : Code} {A : Nat → Prop} (l : Launch) (D : va_G) (G : hG) (Z : hZ) (Y : va_W) (F : Nat) (d : Nat) (u_X5_units : (hSt → Int32 → Option (Int32 × hSt))) (hu_X5_units : ∀ (σ0 : hSt) (x1 : Int32) (res : (Int32 × hSt)), u_X5_units σ0 x1 = some res → CT l yX5_units cX5_units 3 (some .boolean) (rmG_X5 d) D G 0 0 [.ref (G.2.1 4), .int x1] (hW G Z Y σ0) (hW G Z Y res.2) (some (.int res.1))) (σ0 : hSt) (x1 : Int32) (y1 : Int32) (res : (Int32 × hSt)) (C0 : Cx p s m args meth c cX5_ands (some .boolean) RX5 3 D G A) (hA : ∀ q : Nat, s.heap.size ≤ q → A q) : ∀ (n : Nat) (σ1 : hSt) (z2 : Int32), f_X5_ands_L14 F Z u_X5_units y1 n σ1 z2 = some res → ∀ (H : Heap) (locs : List Loc) (ls : Array Slot), va_P D vwCl (hW G Z Y σ1) H → va_D A (hW G Z Y σ1) → va_S A s.heap H locs → lv_has ls 3 [(0, .ref (G.2.1 4)), (1, .int y1), (2, .int z2)] → W p l e (rmG_X5 (d + 1)) s m args below meth c H locs 0 0 (MQ below (Qg (some (.int res.1)) D (tysG G) (hW G Z Y res.2) A) args s 0 0 A) (F0 m 14 ls []) := by
  obtain ⟨hx, hb, hr, hml, hown, hts, hlocks, hK, hE⟩ := id C0
  intro n
  induction n with
  | zero =>
    intro σ1 z2 h
    cases h
  | succ n ih =>
    intro σ1 z2 h H locs ls hP hD hS hl
    rw [f_X5_ands_L14] at h
    refine lv_iload_n hx hb dX5_ands_14 rfl (lv_at hl 2 rfl) ?_
    refine lv_if_le (tgt := 55) hx hb dX5_ands_15 (by decide) (fun c3 => ?_) (fun c3 => ?_)
    · skip
      have h := f_t c3 h
      refine lv_iconst (v := 1) hx hb dX5_ands_55 (by decide) ?_
      obtain rfl := Option.some.inj h
      exact W.zret (v := (1 : Int32)) hx hb hr rfl (q_end hK hP hD hS) hS.2.2 dX5_ands_56
    · skip
      have h := f_f c3 h
      refine lv_aload_n hx hb dX5_ands_18 rfl (lv_at hl 0 rfl) ?_
      refine va_get (D := D) (ci := 6) (v := .ref (G.2.1 1)) (C := RX5) (T := TX5) (N := 1) hx hb hts inU_X5 hown hK hP _ (hg_4 G Z Y σ1) rfl 0 (by decide) (hts _ wd_76) (fun _ h9 => h9) rfl dX5_ands_19 ?_
      refine lv_bipush (v := 124) hx hb dX5_ands_22 (by decide) ?_
      obtain ⟨q4, hq4, h⟩ := f_b h
      refine cl_V (w := (hW G Z Y σ1)) (w' := (hW G Z Y q4.2)) (rv := some (.int q4.1)) (bytes := cX8_take) (maxL := 2) (ret := (some .boolean)) (C := RX8) (As := [.int (124 : Int32)]) (rest := []) (stk := [.int q4.1]) ⟨hx, hb, hml, hown, hts⟩ hK hE hA hP hD hS (c_X8_take l D G Z Y σ1 F (124 : Int32) q4 hq4) (cwV 1 hts (gwV wd_351 wd_352 wd_353 wd_2 wd_354) rfl rfl rfl hd_X8_take ⟨by show 2 + 1 ≤ 3 + (d + 1); omega, by show 8 + (2 + 11) + 51 ≤ 72 + (d + 1) * 22; omega⟩) (hg_1 G Z Y σ1) rfl rfl rfl hl.1 rfl (Nat.le_of_ble_eq_true rfl) dX5_ands_24 ⟨Nat.zero_le _, Nat.zero_le _⟩ rfl (fun H locs hP hD hS => ?_)
      refine lv_if_eq (tgt := 55) hx hb dX5_ands_27 (by decide) (fun c5 => ?_) (fun c5 => ?_)
      · skip
        have h := f_t c5 h
        refine lv_iconst (v := 1) hx hb dX5_ands_55 (by decide) ?_
        obtain rfl := Option.some.inj h
        exact W.zret (v := (1 : Int32)) hx hb hr rfl (q_end hK hP hD hS) hS.2.2 dX5_ands_56
      · skip
        have h := f_f c5 h
        refine lv_aload_n hx hb dX5_ands_30 rfl (lv_at hl 0 rfl) ?_
        refine lv_iload_n hx hb dX5_ands_31 rfl (lv_at hl 1 rfl) ?_
        obtain ⟨q6, hq6, h⟩ := f_b h
        refine cl_V (w := (hW G Z Y q4.2)) (w' := (hW G Z Y q6.2)) (rv := some (.int q6.1)) (bytes := cX5_units) (maxL := 3) (ret := (some .boolean)) (C := RX5) (As := [.int y1]) (rest := []) (stk := [.int q6.1]) ⟨hx, hb, hml, hown, hts⟩ hK hE hA hP hD hS (hu_X5_units q4.2 y1 q6 hq6) (cwV 1 hts (gwV wd_315 wd_317 wp_1 wd_3 wd_318) rfl rfl rfl hd_X5_units ⟨by show 3 + d + 1 ≤ 3 + (d + 1); omega, by show 8 + (3 + 11) + (72 + d * 22) ≤ 72 + (d + 1) * 22; omega⟩) (hg_4 G Z Y q4.2) rfl rfl rfl hl.1 rfl (Nat.le_of_ble_eq_true rfl) dX5_ands_32 ⟨Nat.zero_le _, Nat.zero_le _⟩ rfl (fun H locs hP hD hS => ?_)
        refine lv_if_ne (tgt := 40) hx hb dX5_ands_35 (by decide) (fun c7 => ?_) (fun c7 => ?_)
        · skip
          have h := f_f c7 h
          refine lv_aload_n hx hb dX5_ands_40 rfl (lv_at hl 0 rfl) ?_
          refine va_get (D := D) (ci := 6) (v := .ref (G.2.1 1)) (C := RX5) (T := TX5) (N := 1) hx hb hts inU_X5 hown hK hP _ (hg_4 G Z Y q6.2) rfl 0 (by decide) (hts _ wd_76) (fun _ h9 => h9) rfl dX5_ands_41 ?_
          refine lv_bipush (v := 8) hx hb dX5_ands_44 (by decide) ?_
          obtain ⟨q8, hq8, h⟩ := f_b h
          refine cl_V (w := (hW G Z Y q6.2)) (w' := (hW G Z Y q8.2)) (rv := none) (bytes := cX8_write) (maxL := 2) (ret := none) (C := RX8) (As := [.int (8 : Int32)]) (rest := []) (stk := []) ⟨hx, hb, hml, hown, hts⟩ hK hE hA hP hD hS (c_X8_write l D G Z Y q6.2 (8 : Int32) q8 hq8) (cwV 1 hts (gwV wd_343 wd_344 wd_345 wd_2 wd_346) rfl rfl rfl hd_X8_write ⟨by show 0 + 1 ≤ 3 + (d + 1); omega, by show 8 + (2 + 11) + 0 ≤ 72 + (d + 1) * 22; omega⟩) (hg_1 G Z Y q6.2) rfl rfl rfl hl.1 rfl (Nat.le_of_ble_eq_true rfl) dX5_ands_46 ⟨Nat.zero_le _, Nat.zero_le _⟩ rfl (fun H locs hP hD hS => ?_)
          refine lv_iinc (v := (z2 + (-1 : Int32))) (lv' := [(2, .int (z2 + (-1 : Int32))), (0, .ref (G.2.1 4)), (1, .int y1)]) hx hb dX5_ands_49 hl (k := 2) rfl rfl (by decide) rfl (fun ls hl => ?_)
          refine lv_goto (tgt := 14) hx hb dX5_ands_52 (by decide) ?_
          exact ih q8.2 (z2 + (-1 : Int32)) h _ _ _ hP hD hS (lv_sub hl [1, 2, 0] rfl)
        · skip
          have h := f_t c7 h
          refine lv_iconst (v := 0) hx hb dX5_ands_38 (by decide) ?_
          obtain rfl := Option.some.inj h
          exact W.zret (v := (0 : Int32)) hx hb hr rfl (q_end hK hP hD hS) hS.2.2 dX5_ands_39
set_option maxRecDepth 100000 in
set_option maxHeartbeats 8000000 in
theorem o_X5_ands (l : Launch) (D : va_G) (G : hG) (Z : hZ) (Y : va_W) (F : Nat) (d : Nat) (u_X5_units : (hSt → Int32 → Option (Int32 × hSt))) (hu_X5_units : ∀ (σ0 : hSt) (x1 : Int32) (res : (Int32 × hSt)), u_X5_units σ0 x1 = some res → CT l yX5_units cX5_units 3 (some .boolean) (rmG_X5 d) D G 0 0 [.ref (G.2.1 4), .int x1] (hW G Z Y σ0) (hW G Z Y res.2) (some (.int res.1))) (σ0 : hSt) (x1 : Int32) (res : (Int32 × hSt)) (h : b_X5_ands F Z u_X5_units σ0 x1 = some res) : CT l yX5_ands cX5_ands 3 (some .boolean) (rmG_X5 (d + 1)) D G 0 0 [.ref (G.2.1 4), .int x1] (hW G Z Y σ0) (hW G Z Y res.2) (some (.int res.1)) := by
  unfold b_X5_ands at h
  refine CT.mk (cc := cX5_ands) (maxL := 3) (ret := (some .boolean)) (own := RX5) (plainFor_of_name (by decide)) rfl (Nat.le_of_ble_eq_true rfl) ?_
  intro p e s m args below meth c A ls C0 hnm hA hP hD hl
  obtain ⟨hx, hb, hr, hml, hown, hts, hlocks, hK, hE⟩ := id C0
  have hS : va_S A s.heap s.heap [] := va_S.rf
  have hl : lv_has ls 3 [(0, .ref (G.2.1 4)), (1, .int x1)] := hl
  refine lv_aload_n hx hb dX5_ands_0 rfl (lv_at hl 0 rfl) ?_
  refine lv_iload_n hx hb dX5_ands_1 rfl (lv_at hl 1 rfl) ?_
  obtain ⟨q1, hq1, h⟩ := f_b h
  refine cl_V (w := (hW G Z Y σ0)) (w' := (hW G Z Y q1.2)) (rv := some (.int q1.1)) (bytes := cX5_units) (maxL := 3) (ret := (some .boolean)) (C := RX5) (As := [.int x1]) (rest := []) (stk := [.int q1.1]) ⟨hx, hb, hml, hown, hts⟩ hK hE hA hP hD hS (hu_X5_units σ0 x1 q1 hq1) (cwV 1 hts (gwV wd_315 wd_317 wp_1 wd_3 wd_318) rfl rfl rfl hd_X5_units ⟨by show 3 + d + 1 ≤ 3 + (d + 1); omega, by show 8 + (3 + 11) + (72 + d * 22) ≤ 72 + (d + 1) * 22; omega⟩) (hg_4 G Z Y σ0) rfl rfl rfl hl.1 rfl (Nat.le_of_ble_eq_true rfl) dX5_ands_2 ⟨Nat.zero_le _, Nat.zero_le _⟩ rfl (fun H locs hP hD hS => ?_)
  refine lv_if_ne (tgt := 10) hx hb dX5_ands_5 (by decide) (fun c2 => ?_) (fun c2 => ?_)
  · skip
    have h := f_f c2 h
    refine lv_sipush (v := 200) hx hb dX5_ands_10 (by decide) ?_
    refine lv_istore_n (lv' := [(2, .int (200 : Int32)), (0, .ref (G.2.1 4)), (1, .int x1)]) hx hb dX5_ands_13 rfl hl (by decide) rfl (fun ls hl => ?_)
    refine W_X5_ands_L14 l D G Z Y F d u_X5_units hu_X5_units σ0 x1 x1 res C0 hA F q1.2 (200 : Int32) h _ _ _ hP hD hS (lv_sub hl [1, 2, 0] rfl)
  · skip
    have h := f_t c2 h
    refine lv_iconst (v := 0) hx hb dX5_ands_8 (by decide) ?_
    obtain rfl := Option.some.inj h
    exact W.zret (v := (0 : Int32)) hx hb hr rfl (q_end hK hP hD hS) hS.2.2 dX5_ands_9
set_option maxRecDepth 100000 in
set_option maxHeartbeats 8000000 in
theorem W_X5_units_L14 {p : Program} {e : Env} {s : State} {m : MethodId} {args : Array Value} {below : List Frame} {meth : Method} {c : Code} {A : Nat → Prop} (l : Launch) (D : va_G) (G : hG) (Z : hZ) (Y : va_W) (F : Nat) (d : Nat) (u_X5_unit : (hSt → Int32 → Option (Int32 × hSt))) (hu_X5_unit : ∀ (σ0 : hSt) (x1 : Int32) (res : (Int32 × hSt)), u_X5_unit σ0 x1 = some res → CT l yX5_unit cX5_unit 3 (some .boolean) (rmG_X5 d) D G 0 0 [.ref (G.2.1 4), .int x1] (hW G Z Y σ0) (hW G Z Y res.2) (some (.int res.1))) (σ0 : hSt) (x1 : Int32) (y1 : Int32) (res : (Int32 × hSt)) (C0 : Cx p s m args meth c cX5_units (some .boolean) RX5 3 D G A) (hA : ∀ q : Nat, s.heap.size ≤ q → A q) : ∀ (n : Nat) (σ1 : hSt) (z2 : Int32), f_X5_units_L14 F Z u_X5_unit y1 n σ1 z2 = some res → ∀ (H : Heap) (locs : List Loc) (ls : Array Slot), va_P D vwCl (hW G Z Y σ1) H → va_D A (hW G Z Y σ1) → va_S A s.heap H locs → lv_has ls 3 [(0, .ref (G.2.1 4)), (1, .int y1), (2, .int z2)] → W p l e (rmG_X5 (d + 1)) s m args below meth c H locs 0 0 (MQ below (Qg (some (.int res.1)) D (tysG G) (hW G Z Y res.2) A) args s 0 0 A) (F0 m 14 ls []) := by
  obtain ⟨hx, hb, hr, hml, hown, hts, hlocks, hK, hE⟩ := id C0
  intro n
  induction n with
  | zero =>
    intro σ1 z2 h
    cases h
  | succ n ih =>
    intro σ1 z2 h H locs ls hP hD hS hl
    rw [f_X5_units_L14] at h
    refine lv_iload_n hx hb dX5_units_14 rfl (lv_at hl 2 rfl) ?_
    refine lv_if_le (tgt := 55) hx hb dX5_units_15 (by decide) (fun c3 => ?_) (fun c3 => ?_)
    · skip
      have h := f_t c3 h
      refine lv_iconst (v := 1) hx hb dX5_units_55 (by decide) ?_
      obtain rfl := Option.some.inj h
      exact W.zret (v := (1 : Int32)) hx hb hr rfl (q_end hK hP hD hS) hS.2.2 dX5_units_56
    · skip
      have h := f_f c3 h
      refine lv_aload_n hx hb dX5_units_18 rfl (lv_at hl 0 rfl) ?_
      refine va_get (D := D) (ci := 6) (v := .ref (G.2.1 1)) (C := RX5) (T := TX5) (N := 1) hx hb hts inU_X5 hown hK hP _ (hg_4 G Z Y σ1) rfl 0 (by decide) (hts _ wd_76) (fun _ h9 => h9) rfl dX5_units_19 ?_
      refine lv_bipush (v := 38) hx hb dX5_units_22 (by decide) ?_
      obtain ⟨q4, hq4, h⟩ := f_b h
      refine cl_V (w := (hW G Z Y σ1)) (w' := (hW G Z Y q4.2)) (rv := some (.int q4.1)) (bytes := cX8_take) (maxL := 2) (ret := (some .boolean)) (C := RX8) (As := [.int (38 : Int32)]) (rest := []) (stk := [.int q4.1]) ⟨hx, hb, hml, hown, hts⟩ hK hE hA hP hD hS (c_X8_take l D G Z Y σ1 F (38 : Int32) q4 hq4) (cwV 1 hts (gwV wd_351 wd_352 wd_353 wd_2 wd_354) rfl rfl rfl hd_X8_take ⟨by show 2 + 1 ≤ 3 + (d + 1); omega, by show 8 + (2 + 11) + 51 ≤ 72 + (d + 1) * 22; omega⟩) (hg_1 G Z Y σ1) rfl rfl rfl hl.1 rfl (Nat.le_of_ble_eq_true rfl) dX5_units_24 ⟨Nat.zero_le _, Nat.zero_le _⟩ rfl (fun H locs hP hD hS => ?_)
      refine lv_if_eq (tgt := 55) hx hb dX5_units_27 (by decide) (fun c5 => ?_) (fun c5 => ?_)
      · skip
        have h := f_t c5 h
        refine lv_iconst (v := 1) hx hb dX5_units_55 (by decide) ?_
        obtain rfl := Option.some.inj h
        exact W.zret (v := (1 : Int32)) hx hb hr rfl (q_end hK hP hD hS) hS.2.2 dX5_units_56
      · skip
        have h := f_f c5 h
        refine lv_aload_n hx hb dX5_units_30 rfl (lv_at hl 0 rfl) ?_
        refine lv_iload_n hx hb dX5_units_31 rfl (lv_at hl 1 rfl) ?_
        obtain ⟨q6, hq6, h⟩ := f_b h
        refine cl_V (w := (hW G Z Y q4.2)) (w' := (hW G Z Y q6.2)) (rv := some (.int q6.1)) (bytes := cX5_unit) (maxL := 3) (ret := (some .boolean)) (C := RX5) (As := [.int y1]) (rest := []) (stk := [.int q6.1]) ⟨hx, hb, hml, hown, hts⟩ hK hE hA hP hD hS (hu_X5_unit q4.2 y1 q6 hq6) (cwV 1 hts (gwV wd_319 wd_321 wp_2 wd_3 wd_322) rfl rfl rfl hd_X5_unit ⟨by show 3 + d + 1 ≤ 3 + (d + 1); omega, by show 8 + (3 + 11) + (72 + d * 22) ≤ 72 + (d + 1) * 22; omega⟩) (hg_4 G Z Y q4.2) rfl rfl rfl hl.1 rfl (Nat.le_of_ble_eq_true rfl) dX5_units_32 ⟨Nat.zero_le _, Nat.zero_le _⟩ rfl (fun H locs hP hD hS => ?_)
        refine lv_if_ne (tgt := 40) hx hb dX5_units_35 (by decide) (fun c7 => ?_) (fun c7 => ?_)
        · skip
          have h := f_f c7 h
          refine lv_aload_n hx hb dX5_units_40 rfl (lv_at hl 0 rfl) ?_
          refine va_get (D := D) (ci := 6) (v := .ref (G.2.1 1)) (C := RX5) (T := TX5) (N := 1) hx hb hts inU_X5 hown hK hP _ (hg_4 G Z Y q6.2) rfl 0 (by decide) (hts _ wd_76) (fun _ h9 => h9) rfl dX5_units_41 ?_
          refine lv_bipush (v := 7) hx hb dX5_units_44 (by decide) ?_
          obtain ⟨q8, hq8, h⟩ := f_b h
          refine cl_V (w := (hW G Z Y q6.2)) (w' := (hW G Z Y q8.2)) (rv := none) (bytes := cX8_write) (maxL := 2) (ret := none) (C := RX8) (As := [.int (7 : Int32)]) (rest := []) (stk := []) ⟨hx, hb, hml, hown, hts⟩ hK hE hA hP hD hS (c_X8_write l D G Z Y q6.2 (7 : Int32) q8 hq8) (cwV 1 hts (gwV wd_343 wd_344 wd_345 wd_2 wd_346) rfl rfl rfl hd_X8_write ⟨by show 0 + 1 ≤ 3 + (d + 1); omega, by show 8 + (2 + 11) + 0 ≤ 72 + (d + 1) * 22; omega⟩) (hg_1 G Z Y q6.2) rfl rfl rfl hl.1 rfl (Nat.le_of_ble_eq_true rfl) dX5_units_46 ⟨Nat.zero_le _, Nat.zero_le _⟩ rfl (fun H locs hP hD hS => ?_)
          refine lv_iinc (v := (z2 + (-1 : Int32))) (lv' := [(2, .int (z2 + (-1 : Int32))), (0, .ref (G.2.1 4)), (1, .int y1)]) hx hb dX5_units_49 hl (k := 2) rfl rfl (by decide) rfl (fun ls hl => ?_)
          refine lv_goto (tgt := 14) hx hb dX5_units_52 (by decide) ?_
          exact ih q8.2 (z2 + (-1 : Int32)) h _ _ _ hP hD hS (lv_sub hl [1, 2, 0] rfl)
        · skip
          have h := f_t c7 h
          refine lv_iconst (v := 0) hx hb dX5_units_38 (by decide) ?_
          obtain rfl := Option.some.inj h
          exact W.zret (v := (0 : Int32)) hx hb hr rfl (q_end hK hP hD hS) hS.2.2 dX5_units_39
set_option maxRecDepth 100000 in
set_option maxHeartbeats 8000000 in
theorem o_X5_units (l : Launch) (D : va_G) (G : hG) (Z : hZ) (Y : va_W) (F : Nat) (d : Nat) (u_X5_unit : (hSt → Int32 → Option (Int32 × hSt))) (hu_X5_unit : ∀ (σ0 : hSt) (x1 : Int32) (res : (Int32 × hSt)), u_X5_unit σ0 x1 = some res → CT l yX5_unit cX5_unit 3 (some .boolean) (rmG_X5 d) D G 0 0 [.ref (G.2.1 4), .int x1] (hW G Z Y σ0) (hW G Z Y res.2) (some (.int res.1))) (σ0 : hSt) (x1 : Int32) (res : (Int32 × hSt)) (h : b_X5_units F Z u_X5_unit σ0 x1 = some res) : CT l yX5_units cX5_units 3 (some .boolean) (rmG_X5 (d + 1)) D G 0 0 [.ref (G.2.1 4), .int x1] (hW G Z Y σ0) (hW G Z Y res.2) (some (.int res.1)) := by
  unfold b_X5_units at h
  refine CT.mk (cc := cX5_units) (maxL := 3) (ret := (some .boolean)) (own := RX5) (plainFor_of_name (by decide)) rfl (Nat.le_of_ble_eq_true rfl) ?_
  intro p e s m args below meth c A ls C0 hnm hA hP hD hl
  obtain ⟨hx, hb, hr, hml, hown, hts, hlocks, hK, hE⟩ := id C0
  have hS : va_S A s.heap s.heap [] := va_S.rf
  have hl : lv_has ls 3 [(0, .ref (G.2.1 4)), (1, .int x1)] := hl
  refine lv_aload_n hx hb dX5_units_0 rfl (lv_at hl 0 rfl) ?_
  refine lv_iload_n hx hb dX5_units_1 rfl (lv_at hl 1 rfl) ?_
  obtain ⟨q1, hq1, h⟩ := f_b h
  refine cl_V (w := (hW G Z Y σ0)) (w' := (hW G Z Y q1.2)) (rv := some (.int q1.1)) (bytes := cX5_unit) (maxL := 3) (ret := (some .boolean)) (C := RX5) (As := [.int x1]) (rest := []) (stk := [.int q1.1]) ⟨hx, hb, hml, hown, hts⟩ hK hE hA hP hD hS (hu_X5_unit σ0 x1 q1 hq1) (cwV 1 hts (gwV wd_319 wd_321 wp_2 wd_3 wd_322) rfl rfl rfl hd_X5_unit ⟨by show 3 + d + 1 ≤ 3 + (d + 1); omega, by show 8 + (3 + 11) + (72 + d * 22) ≤ 72 + (d + 1) * 22; omega⟩) (hg_4 G Z Y σ0) rfl rfl rfl hl.1 rfl (Nat.le_of_ble_eq_true rfl) dX5_units_2 ⟨Nat.zero_le _, Nat.zero_le _⟩ rfl (fun H locs hP hD hS => ?_)
  refine lv_if_ne (tgt := 10) hx hb dX5_units_5 (by decide) (fun c2 => ?_) (fun c2 => ?_)
  · skip
    have h := f_f c2 h
    refine lv_sipush (v := 200) hx hb dX5_units_10 (by decide) ?_
    refine lv_istore_n (lv' := [(2, .int (200 : Int32)), (0, .ref (G.2.1 4)), (1, .int x1)]) hx hb dX5_units_13 rfl hl (by decide) rfl (fun ls hl => ?_)
    refine W_X5_units_L14 l D G Z Y F d u_X5_unit hu_X5_unit σ0 x1 x1 res C0 hA F q1.2 (200 : Int32) h _ _ _ hP hD hS (lv_sub hl [1, 2, 0] rfl)
  · skip
    have h := f_t c2 h
    refine lv_iconst (v := 0) hx hb dX5_units_8 (by decide) ?_
    obtain rfl := Option.some.inj h
    exact W.zret (v := (0 : Int32)) hx hb hr rfl (q_end hK hP hD hS) hS.2.2 dX5_units_9
set_option maxRecDepth 100000 in
set_option maxHeartbeats 8000000 in
theorem o_X5_unit (l : Launch) (D : va_G) (G : hG) (Z : hZ) (Y : va_W) (F : Nat) (d : Nat) (u_X5_inner : (hSt → Int32 → Int32 → Option (Int32 × hSt))) (hu_X5_inner : ∀ (σ0 : hSt) (x1 : Int32) (x2 : Int32) (res : (Int32 × hSt)), u_X5_inner σ0 x1 x2 = some res → CT l yX5_inner cX5_inner 3 (some .boolean) (rmG_X5 d) D G 0 0 [.ref (G.2.1 4), .int x1, .int x2] (hW G Z Y σ0) (hW G Z Y res.2) (some (.int res.1))) (σ0 : hSt) (x1 : Int32) (res : (Int32 × hSt)) (h : b_X5_unit F Z u_X5_inner σ0 x1 = some res) : CT l yX5_unit cX5_unit 3 (some .boolean) (rmG_X5 (d + 1)) D G 0 0 [.ref (G.2.1 4), .int x1] (hW G Z Y σ0) (hW G Z Y res.2) (some (.int res.1)) := by
  unfold b_X5_unit at h
  refine CT.mk (cc := cX5_unit) (maxL := 3) (ret := (some .boolean)) (own := RX5) (plainFor_of_name (by decide)) rfl (Nat.le_of_ble_eq_true rfl) ?_
  intro p e s m args below meth c A ls C0 hnm hA hP hD hl
  obtain ⟨hx, hb, hr, hml, hown, hts, hlocks, hK, hE⟩ := id C0
  have hS : va_S A s.heap s.heap [] := va_S.rf
  have hl : lv_has ls 3 [(0, .ref (G.2.1 4)), (1, .int x1)] := hl
  refine lv_aload_n hx hb dX5_unit_0 rfl (lv_at hl 0 rfl) ?_
  refine va_get (D := D) (ci := 6) (v := .ref (G.2.1 1)) (C := RX5) (T := TX5) (N := 1) hx hb hts inU_X5 hown hK hP _ (hg_4 G Z Y σ0) rfl 0 (by decide) (hts _ wd_76) (fun _ h9 => h9) rfl dX5_unit_1 ?_
  obtain ⟨q1, hq1, h⟩ := f_b h
  refine cl_V (w := (hW G Z Y σ0)) (w' := (hW G Z Y q1.2)) (rv := some (.int q1.1)) (bytes := cX8_next) (maxL := 2) (ret := (some .int)) (C := RX8) (As := []) (rest := []) (stk := [.int q1.1]) ⟨hx, hb, hml, hown, hts⟩ hK hE hA hP hD hS (c_X8_next l D G Z Y σ0 F q1 hq1) (cwV 0 hts (gwV wd_323 wd_324 wd_325 wd_2 wd_326) rfl rfl rfl hd_X8_next ⟨by show 1 + 1 ≤ 3 + (d + 1); omega, by show 8 + (2 + 11) + 30 ≤ 72 + (d + 1) * 22; omega⟩) (hg_1 G Z Y σ0) rfl rfl rfl hl.1 rfl (Nat.le_of_ble_eq_true rfl) dX5_unit_4 ⟨Nat.zero_le _, Nat.zero_le _⟩ rfl (fun H locs hP hD hS => ?_)
  refine lv_istore_n (lv' := [(2, .int q1.1), (0, .ref (G.2.1 4)), (1, .int x1)]) hx hb dX5_unit_7 rfl hl (by decide) rfl (fun ls hl => ?_)
  refine lv_iload_n hx hb dX5_unit_8 rfl (lv_at hl 0 rfl) ?_
  refine lv_bipush (v := 33) hx hb dX5_unit_9 (by decide) ?_
  refine lv_icmp_eq (tgt := 20) hx hb dX5_unit_11 (by decide) (fun c2 => ?_) (fun c2 => ?_)
  · skip
    have h := f_t c2 h
    refine lv_iload_n hx hb dX5_unit_20 rfl (lv_at hl 2 rfl) ?_
    refine lv_bipush (v := 8) hx hb dX5_unit_21 (by decide) ?_
    refine lv_icmp_ge (tgt := 37) hx hb dX5_unit_23 (by decide) (fun c3 => ?_) (fun c3 => ?_)
    · skip
      have h := f_t c3 h
      refine lv_aload_n hx hb dX5_unit_37 rfl (lv_at hl 1 rfl) ?_
      refine va_get (D := D) (ci := 6) (v := .ref (G.2.1 1)) (C := RX5) (T := TX5) (N := 1) hx hb hts inU_X5 hown hK hP _ (hg_4 G Z Y q1.2) rfl 0 (by decide) (hts _ wd_76) (fun _ h9 => h9) rfl dX5_unit_38 ?_
      obtain ⟨q4, hq4, h⟩ := f_b h
      refine cl_V (w := (hW G Z Y q1.2)) (w' := (hW G Z Y q4.2)) (rv := some (.int q4.1)) (bytes := cX8_fail) (maxL := 1) (ret := (some .boolean)) (C := RX8) (As := []) (rest := []) (stk := [.int q4.1]) ⟨hx, hb, hml, hown, hts⟩ hK hE hA hP hD hS (c_X8_fail l D G Z Y q1.2 q4 hq4) (cwV 0 hts (gwV wd_347 wd_348 wd_349 wd_2 wd_350) rfl rfl rfl hd_X8_fail ⟨by show 0 + 1 ≤ 3 + (d + 1); omega, by show 8 + (1 + 11) + 0 ≤ 72 + (d + 1) * 22; omega⟩) (hg_1 G Z Y q1.2) rfl rfl rfl hl.1 rfl (Nat.le_of_ble_eq_true rfl) dX5_unit_41 ⟨Nat.zero_le _, Nat.zero_le _⟩ rfl (fun H locs hP hD hS => ?_)
      obtain ⟨c5, h⟩ := f_c h
      obtain rfl := Option.some.inj h
      exact W.zret (v := q4.1) hx hb hr (bn c5) (q_end hK hP hD hS) hS.2.2 dX5_unit_44
    · skip
      have h := f_f c3 h
      refine lv_aload_n hx hb dX5_unit_26 rfl (lv_at hl 1 rfl) ?_
      refine lv_iload_n hx hb dX5_unit_27 rfl (lv_at hl 0 rfl) ?_
      refine lv_iload_n hx hb dX5_unit_28 rfl (lv_at hl 2 rfl) ?_
      refine lv_iconst (v := 1) hx hb dX5_unit_29 (by decide) ?_
      refine lv_iadd hx hb dX5_unit_30 ?_
      obtain ⟨q6, hq6, h⟩ := f_b h
      refine cl_V (w := (hW G Z Y q1.2)) (w' := (hW G Z Y q6.2)) (rv := some (.int q6.1)) (bytes := cX5_inner) (maxL := 3) (ret := (some .boolean)) (C := RX5) (As := [.int q1.1, .int (x1 + (1 : Int32))]) (rest := []) (stk := [.int q6.1]) ⟨hx, hb, hml, hown, hts⟩ hK hE hA hP hD hS (hu_X5_inner q1.2 q1.1 (x1 + (1 : Int32)) q6 hq6) (cwV 2 hts (gwV wd_330 wd_332 wp_3 wd_3 wd_333) rfl rfl rfl hd_X5_inner ⟨by show 3 + d + 1 ≤ 3 + (d + 1); omega, by show 8 + (3 + 11) + (72 + d * 22) ≤ 72 + (d + 1) * 22; omega⟩) (hg_4 G Z Y q1.2) rfl rfl rfl hl.1 rfl (Nat.le_of_ble_eq_true rfl) dX5_unit_31 ⟨Nat.zero_le _, Nat.zero_le _⟩ rfl (fun H locs hP hD hS => ?_)
      refine lv_goto (tgt := 44) hx hb dX5_unit_34 (by decide) ?_
      obtain ⟨c7, h⟩ := f_c h
      obtain rfl := Option.some.inj h
      exact W.zret (v := q6.1) hx hb hr (bn c7) (q_end hK hP hD hS) hS.2.2 dX5_unit_44
  · skip
    have h := f_f c2 h
    refine lv_iload_n hx hb dX5_unit_14 rfl (lv_at hl 0 rfl) ?_
    refine lv_bipush (v := 40) hx hb dX5_unit_15 (by decide) ?_
    refine lv_icmp_ne (tgt := 45) hx hb dX5_unit_17 (by decide) (fun c8 => ?_) (fun c8 => ?_)
    · skip
      have h := f_f c8 h
      refine lv_iload_n hx hb dX5_unit_45 rfl (lv_at hl 0 rfl) ?_
      refine lv_bipush (v := 97) hx hb dX5_unit_46 (by decide) ?_
      refine lv_icmp_lt (tgt := 57) hx hb dX5_unit_48 (by decide) (fun c9 => ?_) (fun c9 => ?_)
      · skip
        have h := f_t c9 h
        refine lv_aload_n hx hb dX5_unit_57 rfl (lv_at hl 1 rfl) ?_
        refine va_get (D := D) (ci := 6) (v := .ref (G.2.1 1)) (C := RX5) (T := TX5) (N := 1) hx hb hts inU_X5 hown hK hP _ (hg_4 G Z Y q1.2) rfl 0 (by decide) (hts _ wd_76) (fun _ h9 => h9) rfl dX5_unit_58 ?_
        obtain ⟨q10, hq10, h⟩ := f_b h
        refine cl_V (w := (hW G Z Y q1.2)) (w' := (hW G Z Y q10.2)) (rv := some (.int q10.1)) (bytes := cX8_fail) (maxL := 1) (ret := (some .boolean)) (C := RX8) (As := []) (rest := []) (stk := [.int q10.1]) ⟨hx, hb, hml, hown, hts⟩ hK hE hA hP hD hS (c_X8_fail l D G Z Y q1.2 q10 hq10) (cwV 0 hts (gwV wd_347 wd_348 wd_349 wd_2 wd_350) rfl rfl rfl hd_X8_fail ⟨by show 0 + 1 ≤ 3 + (d + 1); omega, by show 8 + (1 + 11) + 0 ≤ 72 + (d + 1) * 22; omega⟩) (hg_1 G Z Y q1.2) rfl rfl rfl hl.1 rfl (Nat.le_of_ble_eq_true rfl) dX5_unit_61 ⟨Nat.zero_le _, Nat.zero_le _⟩ rfl (fun H locs hP hD hS => ?_)
        obtain ⟨c11, h⟩ := f_c h
        obtain rfl := Option.some.inj h
        exact W.zret (v := q10.1) hx hb hr (bn c11) (q_end hK hP hD hS) hS.2.2 dX5_unit_64
      · skip
        have h := f_f c9 h
        refine lv_iload_n hx hb dX5_unit_51 rfl (lv_at hl 0 rfl) ?_
        refine lv_bipush (v := 103) hx hb dX5_unit_52 (by decide) ?_
        refine lv_icmp_lt (tgt := 65) hx hb dX5_unit_54 (by decide) (fun c12 => ?_) (fun c12 => ?_)
        · skip
          have h := f_t c12 h
          refine lv_aload_n hx hb dX5_unit_65 rfl (lv_at hl 1 rfl) ?_
          refine va_get (D := D) (ci := 6) (v := .ref (G.2.1 1)) (C := RX5) (T := TX5) (N := 1) hx hb hts inU_X5 hown hK hP _ (hg_4 G Z Y q1.2) rfl 0 (by decide) (hts _ wd_76) (fun _ h9 => h9) rfl dX5_unit_66 ?_
          obtain ⟨q13, hq13, h⟩ := f_b h
          refine cl_V (w := (hW G Z Y q1.2)) (w' := (hW G Z Y q13.2)) (rv := none) (bytes := cX8_step) (maxL := 1) (ret := none) (C := RX8) (As := []) (rest := []) (stk := []) ⟨hx, hb, hml, hown, hts⟩ hK hE hA hP hD hS (c_X8_step l D G Z Y q1.2 q13 hq13) (cwV 0 hts (gwV wd_334 wd_335 wd_336 wd_2 wd_337) rfl rfl rfl hd_X8_step ⟨by show 0 + 1 ≤ 3 + (d + 1); omega, by show 8 + (1 + 11) + 0 ≤ 72 + (d + 1) * 22; omega⟩) (hg_1 G Z Y q1.2) rfl rfl rfl hl.1 rfl (Nat.le_of_ble_eq_true rfl) dX5_unit_69 ⟨Nat.zero_le _, Nat.zero_le _⟩ rfl (fun H locs hP hD hS => ?_)
          refine lv_aload_n hx hb dX5_unit_72 rfl (lv_at hl 1 rfl) ?_
          refine va_get (D := D) (ci := 6) (v := .ref (G.2.1 1)) (C := RX5) (T := TX5) (N := 1) hx hb hts inU_X5 hown hK hP _ (hg_4 G Z Y q13.2) rfl 0 (by decide) (hts _ wd_76) (fun _ h9 => h9) rfl dX5_unit_73 ?_
          refine lv_iload_n hx hb dX5_unit_76 rfl (lv_at hl 0 rfl) ?_
          refine lv_bipush (v := 97) hx hb dX5_unit_77 (by decide) ?_
          refine lv_isub hx hb dX5_unit_79 ?_
          obtain ⟨q14, hq14, h⟩ := f_b h
          refine cl_V (w := (hW G Z Y q13.2)) (w' := (hW G Z Y q14.2)) (rv := none) (bytes := cX8_write) (maxL := 2) (ret := none) (C := RX8) (As := [.int (q1.1 - (97 : Int32))]) (rest := []) (stk := []) ⟨hx, hb, hml, hown, hts⟩ hK hE hA hP hD hS (c_X8_write l D G Z Y q13.2 (q1.1 - (97 : Int32)) q14 hq14) (cwV 1 hts (gwV wd_343 wd_344 wd_345 wd_2 wd_346) rfl rfl rfl hd_X8_write ⟨by show 0 + 1 ≤ 3 + (d + 1); omega, by show 8 + (2 + 11) + 0 ≤ 72 + (d + 1) * 22; omega⟩) (hg_1 G Z Y q13.2) rfl rfl rfl hl.1 rfl (Nat.le_of_ble_eq_true rfl) dX5_unit_80 ⟨Nat.zero_le _, Nat.zero_le _⟩ rfl (fun H locs hP hD hS => ?_)
          refine lv_iconst (v := 1) hx hb dX5_unit_83 (by decide) ?_
          obtain rfl := Option.some.inj h
          exact W.zret (v := (1 : Int32)) hx hb hr rfl (q_end hK hP hD hS) hS.2.2 dX5_unit_84
        · skip
          have h := f_f c12 h
          refine lv_aload_n hx hb dX5_unit_57 rfl (lv_at hl 1 rfl) ?_
          refine va_get (D := D) (ci := 6) (v := .ref (G.2.1 1)) (C := RX5) (T := TX5) (N := 1) hx hb hts inU_X5 hown hK hP _ (hg_4 G Z Y q1.2) rfl 0 (by decide) (hts _ wd_76) (fun _ h9 => h9) rfl dX5_unit_58 ?_
          obtain ⟨q15, hq15, h⟩ := f_b h
          refine cl_V (w := (hW G Z Y q1.2)) (w' := (hW G Z Y q15.2)) (rv := some (.int q15.1)) (bytes := cX8_fail) (maxL := 1) (ret := (some .boolean)) (C := RX8) (As := []) (rest := []) (stk := [.int q15.1]) ⟨hx, hb, hml, hown, hts⟩ hK hE hA hP hD hS (c_X8_fail l D G Z Y q1.2 q15 hq15) (cwV 0 hts (gwV wd_347 wd_348 wd_349 wd_2 wd_350) rfl rfl rfl hd_X8_fail ⟨by show 0 + 1 ≤ 3 + (d + 1); omega, by show 8 + (1 + 11) + 0 ≤ 72 + (d + 1) * 22; omega⟩) (hg_1 G Z Y q1.2) rfl rfl rfl hl.1 rfl (Nat.le_of_ble_eq_true rfl) dX5_unit_61 ⟨Nat.zero_le _, Nat.zero_le _⟩ rfl (fun H locs hP hD hS => ?_)
          obtain ⟨c16, h⟩ := f_c h
          obtain rfl := Option.some.inj h
          exact W.zret (v := q15.1) hx hb hr (bn c16) (q_end hK hP hD hS) hS.2.2 dX5_unit_64
    · skip
      have h := f_t c8 h
      refine lv_iload_n hx hb dX5_unit_20 rfl (lv_at hl 2 rfl) ?_
      refine lv_bipush (v := 8) hx hb dX5_unit_21 (by decide) ?_
      refine lv_icmp_ge (tgt := 37) hx hb dX5_unit_23 (by decide) (fun c17 => ?_) (fun c17 => ?_)
      · skip
        have h := f_t c17 h
        refine lv_aload_n hx hb dX5_unit_37 rfl (lv_at hl 1 rfl) ?_
        refine va_get (D := D) (ci := 6) (v := .ref (G.2.1 1)) (C := RX5) (T := TX5) (N := 1) hx hb hts inU_X5 hown hK hP _ (hg_4 G Z Y q1.2) rfl 0 (by decide) (hts _ wd_76) (fun _ h9 => h9) rfl dX5_unit_38 ?_
        obtain ⟨q18, hq18, h⟩ := f_b h
        refine cl_V (w := (hW G Z Y q1.2)) (w' := (hW G Z Y q18.2)) (rv := some (.int q18.1)) (bytes := cX8_fail) (maxL := 1) (ret := (some .boolean)) (C := RX8) (As := []) (rest := []) (stk := [.int q18.1]) ⟨hx, hb, hml, hown, hts⟩ hK hE hA hP hD hS (c_X8_fail l D G Z Y q1.2 q18 hq18) (cwV 0 hts (gwV wd_347 wd_348 wd_349 wd_2 wd_350) rfl rfl rfl hd_X8_fail ⟨by show 0 + 1 ≤ 3 + (d + 1); omega, by show 8 + (1 + 11) + 0 ≤ 72 + (d + 1) * 22; omega⟩) (hg_1 G Z Y q1.2) rfl rfl rfl hl.1 rfl (Nat.le_of_ble_eq_true rfl) dX5_unit_41 ⟨Nat.zero_le _, Nat.zero_le _⟩ rfl (fun H locs hP hD hS => ?_)
        obtain ⟨c19, h⟩ := f_c h
        obtain rfl := Option.some.inj h
        exact W.zret (v := q18.1) hx hb hr (bn c19) (q_end hK hP hD hS) hS.2.2 dX5_unit_44
      · skip
        have h := f_f c17 h
        refine lv_aload_n hx hb dX5_unit_26 rfl (lv_at hl 1 rfl) ?_
        refine lv_iload_n hx hb dX5_unit_27 rfl (lv_at hl 0 rfl) ?_
        refine lv_iload_n hx hb dX5_unit_28 rfl (lv_at hl 2 rfl) ?_
        refine lv_iconst (v := 1) hx hb dX5_unit_29 (by decide) ?_
        refine lv_iadd hx hb dX5_unit_30 ?_
        obtain ⟨q20, hq20, h⟩ := f_b h
        refine cl_V (w := (hW G Z Y q1.2)) (w' := (hW G Z Y q20.2)) (rv := some (.int q20.1)) (bytes := cX5_inner) (maxL := 3) (ret := (some .boolean)) (C := RX5) (As := [.int q1.1, .int (x1 + (1 : Int32))]) (rest := []) (stk := [.int q20.1]) ⟨hx, hb, hml, hown, hts⟩ hK hE hA hP hD hS (hu_X5_inner q1.2 q1.1 (x1 + (1 : Int32)) q20 hq20) (cwV 2 hts (gwV wd_330 wd_332 wp_3 wd_3 wd_333) rfl rfl rfl hd_X5_inner ⟨by show 3 + d + 1 ≤ 3 + (d + 1); omega, by show 8 + (3 + 11) + (72 + d * 22) ≤ 72 + (d + 1) * 22; omega⟩) (hg_4 G Z Y q1.2) rfl rfl rfl hl.1 rfl (Nat.le_of_ble_eq_true rfl) dX5_unit_31 ⟨Nat.zero_le _, Nat.zero_le _⟩ rfl (fun H locs hP hD hS => ?_)
        refine lv_goto (tgt := 44) hx hb dX5_unit_34 (by decide) ?_
        obtain ⟨c21, h⟩ := f_c h
        obtain rfl := Option.some.inj h
        exact W.zret (v := q20.1) hx hb hr (bn c21) (q_end hK hP hD hS) hS.2.2 dX5_unit_44
set_option maxRecDepth 100000 in
set_option maxHeartbeats 8000000 in
theorem o_X5_inner (l : Launch) (D : va_G) (G : hG) (Z : hZ) (Y : va_W) (F : Nat) (d : Nat) (u_X5_ands : (hSt → Int32 → Option (Int32 × hSt))) (hu_X5_ands : ∀ (σ0 : hSt) (x1 : Int32) (res : (Int32 × hSt)), u_X5_ands σ0 x1 = some res → CT l yX5_ands cX5_ands 3 (some .boolean) (rmG_X5 d) D G 0 0 [.ref (G.2.1 4), .int x1] (hW G Z Y σ0) (hW G Z Y res.2) (some (.int res.1))) (u_X5_unit : (hSt → Int32 → Option (Int32 × hSt))) (hu_X5_unit : ∀ (σ0 : hSt) (x1 : Int32) (res : (Int32 × hSt)), u_X5_unit σ0 x1 = some res → CT l yX5_unit cX5_unit 3 (some .boolean) (rmG_X5 d) D G 0 0 [.ref (G.2.1 4), .int x1] (hW G Z Y σ0) (hW G Z Y res.2) (some (.int res.1))) (σ0 : hSt) (x1 : Int32) (x2 : Int32) (res : (Int32 × hSt)) (h : b_X5_inner F Z u_X5_ands u_X5_unit σ0 x1 x2 = some res) : CT l yX5_inner cX5_inner 3 (some .boolean) (rmG_X5 (d + 1)) D G 0 0 [.ref (G.2.1 4), .int x1, .int x2] (hW G Z Y σ0) (hW G Z Y res.2) (some (.int res.1)) := by
  unfold b_X5_inner at h
  refine CT.mk (cc := cX5_inner) (maxL := 3) (ret := (some .boolean)) (own := RX5) (plainFor_of_name (by decide)) rfl (Nat.le_of_ble_eq_true rfl) ?_
  intro p e s m args below meth c A ls C0 hnm hA hP hD hl
  obtain ⟨hx, hb, hr, hml, hown, hts, hlocks, hK, hE⟩ := id C0
  have hS : va_S A s.heap s.heap [] := va_S.rf
  have hl : lv_has ls 3 [(0, .ref (G.2.1 4)), (1, .int x1), (2, .int x2)] := hl
  refine lv_aload_n hx hb dX5_inner_0 rfl (lv_at hl 0 rfl) ?_
  refine va_get (D := D) (ci := 6) (v := .ref (G.2.1 1)) (C := RX5) (T := TX5) (N := 1) hx hb hts inU_X5 hown hK hP _ (hg_4 G Z Y σ0) rfl 0 (by decide) (hts _ wd_76) (fun _ h9 => h9) rfl dX5_inner_1 ?_
  obtain ⟨q1, hq1, h⟩ := f_b h
  refine cl_V (w := (hW G Z Y σ0)) (w' := (hW G Z Y q1.2)) (rv := none) (bytes := cX8_step) (maxL := 1) (ret := none) (C := RX8) (As := []) (rest := []) (stk := []) ⟨hx, hb, hml, hown, hts⟩ hK hE hA hP hD hS (c_X8_step l D G Z Y σ0 q1 hq1) (cwV 0 hts (gwV wd_334 wd_335 wd_336 wd_2 wd_337) rfl rfl rfl hd_X8_step ⟨by show 0 + 1 ≤ 3 + (d + 1); omega, by show 8 + (1 + 11) + 0 ≤ 72 + (d + 1) * 22; omega⟩) (hg_1 G Z Y σ0) rfl rfl rfl hl.1 rfl (Nat.le_of_ble_eq_true rfl) dX5_inner_4 ⟨Nat.zero_le _, Nat.zero_le _⟩ rfl (fun H locs hP hD hS => ?_)
  refine lv_iload_n hx hb dX5_inner_7 rfl (lv_at hl 1 rfl) ?_
  refine lv_bipush (v := 40) hx hb dX5_inner_8 (by decide) ?_
  refine lv_icmp_ne (tgt := 39) hx hb dX5_inner_10 (by decide) (fun c2 => ?_) (fun c2 => ?_)
  · skip
    have h := f_f c2 h
    refine lv_aload_n hx hb dX5_inner_39 rfl (lv_at hl 0 rfl) ?_
    refine lv_iload_n hx hb dX5_inner_40 rfl (lv_at hl 2 rfl) ?_
    obtain ⟨q3, hq3, h⟩ := f_b h
    refine cl_V (w := (hW G Z Y q1.2)) (w' := (hW G Z Y q3.2)) (rv := some (.int q3.1)) (bytes := cX5_unit) (maxL := 3) (ret := (some .boolean)) (C := RX5) (As := [.int x2]) (rest := []) (stk := [.int q3.1]) ⟨hx, hb, hml, hown, hts⟩ hK hE hA hP hD hS (hu_X5_unit q1.2 x2 q3 hq3) (cwV 1 hts (gwV wd_319 wd_321 wp_2 wd_3 wd_322) rfl rfl rfl hd_X5_unit ⟨by show 3 + d + 1 ≤ 3 + (d + 1); omega, by show 8 + (3 + 11) + (72 + d * 22) ≤ 72 + (d + 1) * 22; omega⟩) (hg_4 G Z Y q1.2) rfl rfl rfl hl.1 rfl (Nat.le_of_ble_eq_true rfl) dX5_inner_41 ⟨Nat.zero_le _, Nat.zero_le _⟩ rfl (fun H locs hP hD hS => ?_)
    refine lv_if_ne (tgt := 49) hx hb dX5_inner_44 (by decide) (fun c4 => ?_) (fun c4 => ?_)
    · skip
      have h := f_f c4 h
      refine lv_aload_n hx hb dX5_inner_49 rfl (lv_at hl 0 rfl) ?_
      refine va_get (D := D) (ci := 6) (v := .ref (G.2.1 1)) (C := RX5) (T := TX5) (N := 1) hx hb hts inU_X5 hown hK hP _ (hg_4 G Z Y q3.2) rfl 0 (by decide) (hts _ wd_76) (fun _ h9 => h9) rfl dX5_inner_50 ?_
      refine lv_bipush (v := 6) hx hb dX5_inner_53 (by decide) ?_
      obtain ⟨q5, hq5, h⟩ := f_b h
      refine cl_V (w := (hW G Z Y q3.2)) (w' := (hW G Z Y q5.2)) (rv := none) (bytes := cX8_write) (maxL := 2) (ret := none) (C := RX8) (As := [.int (6 : Int32)]) (rest := []) (stk := []) ⟨hx, hb, hml, hown, hts⟩ hK hE hA hP hD hS (c_X8_write l D G Z Y q3.2 (6 : Int32) q5 hq5) (cwV 1 hts (gwV wd_343 wd_344 wd_345 wd_2 wd_346) rfl rfl rfl hd_X8_write ⟨by show 0 + 1 ≤ 3 + (d + 1); omega, by show 8 + (2 + 11) + 0 ≤ 72 + (d + 1) * 22; omega⟩) (hg_1 G Z Y q3.2) rfl rfl rfl hl.1 rfl (Nat.le_of_ble_eq_true rfl) dX5_inner_55 ⟨Nat.zero_le _, Nat.zero_le _⟩ rfl (fun H locs hP hD hS => ?_)
      refine lv_iconst (v := 1) hx hb dX5_inner_58 (by decide) ?_
      obtain rfl := Option.some.inj h
      exact W.zret (v := (1 : Int32)) hx hb hr rfl (q_end hK hP hD hS) hS.2.2 dX5_inner_59
    · skip
      have h := f_t c4 h
      refine lv_iconst (v := 0) hx hb dX5_inner_47 (by decide) ?_
      obtain rfl := Option.some.inj h
      exact W.zret (v := (0 : Int32)) hx hb hr rfl (q_end hK hP hD hS) hS.2.2 dX5_inner_48
  · skip
    have h := f_t c2 h
    refine lv_aload_n hx hb dX5_inner_13 rfl (lv_at hl 0 rfl) ?_
    refine lv_iload_n hx hb dX5_inner_14 rfl (lv_at hl 2 rfl) ?_
    obtain ⟨q6, hq6, h⟩ := f_b h
    refine cl_V (w := (hW G Z Y q1.2)) (w' := (hW G Z Y q6.2)) (rv := some (.int q6.1)) (bytes := cX5_ands) (maxL := 3) (ret := (some .boolean)) (C := RX5) (As := [.int x2]) (rest := []) (stk := [.int q6.1]) ⟨hx, hb, hml, hown, hts⟩ hK hE hA hP hD hS (hu_X5_ands q1.2 x2 q6 hq6) (cwV 1 hts (gwV wd_311 wd_313 wp_0 wd_3 wd_314) rfl rfl rfl hd_X5_ands ⟨by show 3 + d + 1 ≤ 3 + (d + 1); omega, by show 8 + (3 + 11) + (72 + d * 22) ≤ 72 + (d + 1) * 22; omega⟩) (hg_4 G Z Y q1.2) rfl rfl rfl hl.1 rfl (Nat.le_of_ble_eq_true rfl) dX5_inner_15 ⟨Nat.zero_le _, Nat.zero_le _⟩ rfl (fun H locs hP hD hS => ?_)
    refine lv_if_eq (tgt := 37) hx hb dX5_inner_18 (by decide) (fun c7 => ?_) (fun c7 => ?_)
    · skip
      have h := f_t c7 h
      refine lv_iconst (v := 0) hx hb dX5_inner_37 (by decide) ?_
      obtain rfl := Option.some.inj h
      exact W.zret (v := (0 : Int32)) hx hb hr rfl (q_end hK hP hD hS) hS.2.2 dX5_inner_38
    · skip
      have h := f_f c7 h
      refine lv_aload_n hx hb dX5_inner_21 rfl (lv_at hl 0 rfl) ?_
      refine va_get (D := D) (ci := 6) (v := .ref (G.2.1 1)) (C := RX5) (T := TX5) (N := 1) hx hb hts inU_X5 hown hK hP _ (hg_4 G Z Y q6.2) rfl 0 (by decide) (hts _ wd_76) (fun _ h9 => h9) rfl dX5_inner_22 ?_
      refine lv_bipush (v := 41) hx hb dX5_inner_25 (by decide) ?_
      obtain ⟨q8, hq8, h⟩ := f_b h
      refine cl_V (w := (hW G Z Y q6.2)) (w' := (hW G Z Y q8.2)) (rv := some (.int q8.1)) (bytes := cX8_expect) (maxL := 2) (ret := (some .boolean)) (C := RX8) (As := [.int (41 : Int32)]) (rest := []) (stk := [.int q8.1]) ⟨hx, hb, hml, hown, hts⟩ hK hE hA hP hD hS (c_X8_expect l D G Z Y q6.2 F (41 : Int32) q8 hq8) (cwV 1 hts (gwV wd_338 wd_339 wd_340 wd_2 wd_341) rfl rfl rfl hd_X8_expect ⟨by show 2 + 1 ≤ 3 + (d + 1); omega, by show 8 + (2 + 11) + 51 ≤ 72 + (d + 1) * 22; omega⟩) (hg_1 G Z Y q6.2) rfl rfl rfl hl.1 rfl (Nat.le_of_ble_eq_true rfl) dX5_inner_27 ⟨Nat.zero_le _, Nat.zero_le _⟩ rfl (fun H locs hP hD hS => ?_)
      refine lv_if_eq (tgt := 37) hx hb dX5_inner_30 (by decide) (fun c9 => ?_) (fun c9 => ?_)
      · skip
        have h := f_t c9 h
        refine lv_iconst (v := 0) hx hb dX5_inner_37 (by decide) ?_
        obtain rfl := Option.some.inj h
        exact W.zret (v := (0 : Int32)) hx hb hr rfl (q_end hK hP hD hS) hS.2.2 dX5_inner_38
      · skip
        have h := f_f c9 h
        refine lv_iconst (v := 1) hx hb dX5_inner_33 (by decide) ?_
        refine lv_goto (tgt := 38) hx hb dX5_inner_34 (by decide) ?_
        obtain rfl := Option.some.inj h
        exact W.zret (v := (1 : Int32)) hx hb hr rfl (q_end hK hP hD hS) hS.2.2 dX5_inner_38
set_option maxRecDepth 100000 in
set_option maxHeartbeats 8000000 in
theorem c_G_X5 (l : Launch) (D : va_G) (G : hG) (Z : hZ) (Y : va_W) (F : Nat) : ∀ d : Nat, (∀ (σ0 : hSt) (x1 : Int32) (res : (Int32 × hSt)), (G_X5 F Z d).1 σ0 x1 = some res → CT l yX5_ands cX5_ands 3 (some .boolean) (rmG_X5 d) D G 0 0 [.ref (G.2.1 4), .int x1] (hW G Z Y σ0) (hW G Z Y res.2) (some (.int res.1))) ∧ (∀ (σ0 : hSt) (x1 : Int32) (res : (Int32 × hSt)), (G_X5 F Z d).2.1 σ0 x1 = some res → CT l yX5_units cX5_units 3 (some .boolean) (rmG_X5 d) D G 0 0 [.ref (G.2.1 4), .int x1] (hW G Z Y σ0) (hW G Z Y res.2) (some (.int res.1))) ∧ (∀ (σ0 : hSt) (x1 : Int32) (res : (Int32 × hSt)), (G_X5 F Z d).2.2.1 σ0 x1 = some res → CT l yX5_unit cX5_unit 3 (some .boolean) (rmG_X5 d) D G 0 0 [.ref (G.2.1 4), .int x1] (hW G Z Y σ0) (hW G Z Y res.2) (some (.int res.1))) ∧ (∀ (σ0 : hSt) (x1 : Int32) (x2 : Int32) (res : (Int32 × hSt)), (G_X5 F Z d).2.2.2 σ0 x1 x2 = some res → CT l yX5_inner cX5_inner 3 (some .boolean) (rmG_X5 d) D G 0 0 [.ref (G.2.1 4), .int x1, .int x2] (hW G Z Y σ0) (hW G Z Y res.2) (some (.int res.1))) := by
  intro d
  induction d with
  | zero =>
    refine ⟨?_, ?_, ?_, ?_⟩
    · exact fun σ0 x1 res h => by
        have h1 : (none : Option (Int32 × hSt)) = some res := h
        cases h1
    · exact fun σ0 x1 res h => by
        have h1 : (none : Option (Int32 × hSt)) = some res := h
        cases h1
    · exact fun σ0 x1 res h => by
        have h1 : (none : Option (Int32 × hSt)) = some res := h
        cases h1
    · exact fun σ0 x1 x2 res h => by
        have h1 : (none : Option (Int32 × hSt)) = some res := h
        cases h1
  | succ d ih =>
    obtain ⟨i_X5_ands, i_X5_units, i_X5_unit, i_X5_inner⟩ := ih
    refine ⟨?_, ?_, ?_, ?_⟩
    · exact fun σ0 x1 res h => o_X5_ands l D G Z Y F d _ i_X5_units σ0 x1 res h
    · exact fun σ0 x1 res h => o_X5_units l D G Z Y F d _ i_X5_unit σ0 x1 res h
    · exact fun σ0 x1 res h => o_X5_unit l D G Z Y F d _ i_X5_inner σ0 x1 res h
    · exact fun σ0 x1 x2 res h => o_X5_inner l D G Z Y F d _ i_X5_ands _ i_X5_unit σ0 x1 x2 res h
abbrev rm_X5_ands : Room := rmG_X5 48
theorem c_X5_ands (l : Launch) (D : va_G) (G : hG) (Z : hZ) (Y : va_W) (σ0 : hSt) (F : Nat) (x1 : Int32) (res : (Int32 × hSt)) (h : f_X5_ands F Z σ0 x1 = some res) : CT l yX5_ands cX5_ands 3 (some .boolean) rm_X5_ands D G 0 0 [.ref (G.2.1 4), .int x1] (hW G Z Y σ0) (hW G Z Y res.2) (some (.int res.1)) := (c_G_X5 l D G Z Y F 48).1 σ0 x1 res h
abbrev rm_X5_units : Room := rmG_X5 48
theorem c_X5_units (l : Launch) (D : va_G) (G : hG) (Z : hZ) (Y : va_W) (σ0 : hSt) (F : Nat) (x1 : Int32) (res : (Int32 × hSt)) (h : f_X5_units F Z σ0 x1 = some res) : CT l yX5_units cX5_units 3 (some .boolean) rm_X5_units D G 0 0 [.ref (G.2.1 4), .int x1] (hW G Z Y σ0) (hW G Z Y res.2) (some (.int res.1)) := (c_G_X5 l D G Z Y F 48).2.1 σ0 x1 res h
abbrev rm_X5_unit : Room := rmG_X5 48
theorem c_X5_unit (l : Launch) (D : va_G) (G : hG) (Z : hZ) (Y : va_W) (σ0 : hSt) (F : Nat) (x1 : Int32) (res : (Int32 × hSt)) (h : f_X5_unit F Z σ0 x1 = some res) : CT l yX5_unit cX5_unit 3 (some .boolean) rm_X5_unit D G 0 0 [.ref (G.2.1 4), .int x1] (hW G Z Y σ0) (hW G Z Y res.2) (some (.int res.1)) := (c_G_X5 l D G Z Y F 48).2.2.1 σ0 x1 res h
abbrev rm_X5_inner : Room := rmG_X5 48
theorem c_X5_inner (l : Launch) (D : va_G) (G : hG) (Z : hZ) (Y : va_W) (σ0 : hSt) (F : Nat) (x1 : Int32) (x2 : Int32) (res : (Int32 × hSt)) (h : f_X5_inner F Z σ0 x1 x2 = some res) : CT l yX5_inner cX5_inner 3 (some .boolean) rm_X5_inner D G 0 0 [.ref (G.2.1 4), .int x1, .int x2] (hW G Z Y σ0) (hW G Z Y res.2) (some (.int res.1)) := (c_G_X5 l D G Z Y F 48).2.2.2 σ0 x1 x2 res h
abbrev rm_X5_read : Room := { frames := 52, cells := 0, slots := 0, locals := 1150 }
set_option maxRecDepth 100000 in
set_option maxHeartbeats 8000000 in
theorem c_X5_read (l : Launch) (D : va_G) (G : hG) (Z : hZ) (Y : va_W) (σ0 : hSt) (F : Nat) (res : (Int32 × hSt)) (h : f_X5_read F Z σ0 = some res) : CT l yX5_read cX5_read 1 (some .int) rm_X5_read D G 0 0 [.ref (G.2.1 4)] (hW G Z Y σ0) (hW G Z Y res.2) (some (.int res.1)) := by
  unfold f_X5_read at h
  refine CT.mk (cc := cX5_read) (maxL := 1) (ret := (some .int)) (own := RX5) (plainFor_of_name (by decide)) rfl (Nat.le_of_ble_eq_true rfl) ?_
  intro p e s m args below meth c A ls C0 hnm hA hP hD hl
  obtain ⟨hx, hb, hr, hml, hown, hts, hlocks, hK, hE⟩ := id C0
  have hS : va_S A s.heap s.heap [] := va_S.rf
  have hl : lv_has ls 1 [(0, .ref (G.2.1 4))] := hl
  refine lv_aload_n hx hb dX5_read_0 rfl (lv_at hl 0 rfl) ?_
  refine va_get (D := D) (ci := 6) (v := .ref (G.2.1 1)) (C := RX5) (T := TX5) (N := 1) hx hb hts inU_X5 hown hK hP _ (hg_4 G Z Y σ0) rfl 0 (by decide) (hts _ wd_76) (fun _ h9 => h9) rfl dX5_read_1 ?_
  obtain ⟨q1, hq1, h⟩ := f_b h
  refine cl_V (w := (hW G Z Y σ0)) (w' := (hW G Z Y q1.2)) (rv := none) (bytes := cX8_begin) (maxL := 1) (ret := none) (C := RX8) (As := []) (rest := []) (stk := []) ⟨hx, hb, hml, hown, hts⟩ hK hE hA hP hD hS (c_X8_begin l D G Z Y σ0 q1 hq1) (cwV 0 hts (gwV wd_307 wd_308 wd_309 wd_2 wd_310) rfl rfl rfl hd_X8_begin ⟨Nat.le_of_ble_eq_true rfl, Nat.le_of_ble_eq_true rfl⟩) (hg_1 G Z Y σ0) rfl rfl rfl hl.1 rfl (Nat.le_of_ble_eq_true rfl) dX5_read_4 ⟨Nat.zero_le _, Nat.zero_le _⟩ rfl (fun H locs hP hD hS => ?_)
  refine lv_aload_n hx hb dX5_read_7 rfl (lv_at hl 0 rfl) ?_
  refine lv_iconst (v := 0) hx hb dX5_read_8 (by decide) ?_
  obtain ⟨q2, hq2, h⟩ := f_b h
  refine cl_V (w := (hW G Z Y q1.2)) (w' := (hW G Z Y q2.2)) (rv := some (.int q2.1)) (bytes := cX5_ands) (maxL := 3) (ret := (some .boolean)) (C := RX5) (As := [.int (0 : Int32)]) (rest := []) (stk := [.int q2.1]) ⟨hx, hb, hml, hown, hts⟩ hK hE hA hP hD hS (c_X5_ands l D G Z Y q1.2 F (0 : Int32) q2 hq2) (cwV 1 hts (gwV wd_311 wd_313 wp_0 wd_3 wd_314) rfl rfl rfl hd_X5_ands ⟨Nat.le_of_ble_eq_true rfl, Nat.le_of_ble_eq_true rfl⟩) (hg_4 G Z Y q1.2) rfl rfl rfl hl.1 rfl (Nat.le_of_ble_eq_true rfl) dX5_read_9 ⟨Nat.zero_le _, Nat.zero_le _⟩ rfl (fun H locs hP hD hS => ?_)
  refine lv_if_eq (tgt := 29) hx hb dX5_read_12 (by decide) (fun c3 => ?_) (fun c3 => ?_)
  · skip
    have h := f_t c3 h
    refine lv_aload_n hx hb dX5_read_29 rfl (lv_at hl 0 rfl) ?_
    refine va_get (D := D) (ci := 6) (v := .ref (G.2.1 1)) (C := RX5) (T := TX5) (N := 1) hx hb hts inU_X5 hown hK hP _ (hg_4 G Z Y q2.2) rfl 0 (by decide) (hts _ wd_76) (fun _ h9 => h9) rfl dX5_read_30 ?_
    refine va_getN (D := D) (ci := 8) (v := .int (q2.2.1 1 4)) (C := RX8) (T := TX8) (N := 6) hx hb hts inU_X8 hown hK hP _ (hg_1 G Z Y q2.2) rfl 4 (by decide) (nF_use 1 hE rfl) (fun _ h9 => h9) rfl dX5_read_33 ?_
    obtain rfl := Option.some.inj h
    exact W.iret (v := (q2.2.1 1 4)) hx hb hr (q_end hK hP hD hS) hS.2.2 dX5_read_36
  · skip
    have h := f_f c3 h
    refine lv_aload_n hx hb dX5_read_15 rfl (lv_at hl 0 rfl) ?_
    refine va_get (D := D) (ci := 6) (v := .ref (G.2.1 1)) (C := RX5) (T := TX5) (N := 1) hx hb hts inU_X5 hown hK hP _ (hg_4 G Z Y q2.2) rfl 0 (by decide) (hts _ wd_76) (fun _ h9 => h9) rfl dX5_read_16 ?_
    obtain ⟨q4, hq4, h⟩ := f_b h
    refine cl_V (w := (hW G Z Y q2.2)) (w' := (hW G Z Y q4.2)) (rv := some (.int q4.1)) (bytes := cX8_expectEnd) (maxL := 1) (ret := (some .boolean)) (C := RX8) (As := []) (rest := []) (stk := [.int q4.1]) ⟨hx, hb, hml, hown, hts⟩ hK hE hA hP hD hS (c_X8_expectEnd l D G Z Y q2.2 F q4 hq4) (cwV 0 hts (gwV wd_355 wd_356 wd_357 wd_2 wd_358) rfl rfl rfl hd_X8_expectEnd ⟨Nat.le_of_ble_eq_true rfl, Nat.le_of_ble_eq_true rfl⟩) (hg_1 G Z Y q2.2) rfl rfl rfl hl.1 rfl (Nat.le_of_ble_eq_true rfl) dX5_read_19 ⟨Nat.zero_le _, Nat.zero_le _⟩ rfl (fun H locs hP hD hS => ?_)
    refine lv_if_eq (tgt := 29) hx hb dX5_read_22 (by decide) (fun c5 => ?_) (fun c5 => ?_)
    · skip
      have h := f_t c5 h
      refine lv_aload_n hx hb dX5_read_29 rfl (lv_at hl 0 rfl) ?_
      refine va_get (D := D) (ci := 6) (v := .ref (G.2.1 1)) (C := RX5) (T := TX5) (N := 1) hx hb hts inU_X5 hown hK hP _ (hg_4 G Z Y q4.2) rfl 0 (by decide) (hts _ wd_76) (fun _ h9 => h9) rfl dX5_read_30 ?_
      refine va_getN (D := D) (ci := 8) (v := .int (q4.2.1 1 4)) (C := RX8) (T := TX8) (N := 6) hx hb hts inU_X8 hown hK hP _ (hg_1 G Z Y q4.2) rfl 4 (by decide) (nF_use 1 hE rfl) (fun _ h9 => h9) rfl dX5_read_33 ?_
      obtain rfl := Option.some.inj h
      exact W.iret (v := (q4.2.1 1 4)) hx hb hr (q_end hK hP hD hS) hS.2.2 dX5_read_36
    · skip
      have h := f_f c5 h
      refine lv_iconst (v := (-1)) hx hb dX5_read_25 (by decide) ?_
      refine lv_goto (tgt := 36) hx hb dX5_read_26 (by decide) ?_
      obtain rfl := Option.some.inj h
      exact W.iret (v := (-1 : Int32)) hx hb hr (q_end hK hP hD hS) hS.2.2 dX5_read_36
abbrev rm_X3_passes : Room := { frames := 2, cells := 0, slots := 0, locals := 48 }
set_option maxRecDepth 100000 in
set_option maxHeartbeats 8000000 in
theorem W_X3_passes_L6 {p : Program} {e : Env} {s : State} {m : MethodId} {args : Array Value} {below : List Frame} {meth : Method} {c : Code} {A : Nat → Prop} (l : Launch) (D : va_G) (G : hG) (w : va_W) (F : Nat) (x0 : Int32) (x1 : Int32) (y0 : Int32) (y1 : Int32) (res : Int32) (C0 : Cx p s m args meth c cX3_passes (some .boolean) RX3 9 D G A) (hA : ∀ q : Nat, s.heap.size ≤ q → A q) (k26 : Int32 → Int32 → Option Int32) (hk26 : ∀ (z2 : Int32) (z3 : Int32), k26 z2 z3 = some res → ∀ (H : Heap) (locs : List Loc) (ls : Array Slot), va_P D vwCl w H → va_D A w → va_S A s.heap H locs → lv_has ls 9 [(0, .int y0), (1, .int y1), (2, .int z2), (3, .int z3)] → W p l e rm_X3_passes s m args below meth c H locs 0 0 (MQ below (Qg (some (.int res)) D (tysG G) w A) args s 0 0 A) (F0 m 26 ls [])) : ∀ (n : Nat) (z2 : Int32) (z3 : Int32), f_X3_passes_L6 y0 y1 k26 n z2 z3 = some res → ∀ (H : Heap) (locs : List Loc) (ls : Array Slot), va_P D vwCl w H → va_D A w → va_S A s.heap H locs → lv_has ls 9 [(0, .int y0), (1, .int y1), (2, .int z2), (3, .int z3)] → W p l e rm_X3_passes s m args below meth c H locs 0 0 (MQ below (Qg (some (.int res)) D (tysG G) w A) args s 0 0 A) (F0 m 6 ls []) := by
  obtain ⟨hx, hb, hr, hml, hown, hts, hlocks, hK, hE⟩ := id C0
  intro n
  induction n with
  | zero =>
    intro z2 z3 h
    cases h
  | succ n ih =>
    intro z2 z3 h H locs ls hP hD hS hl
    rw [f_X3_passes_L6] at h
    refine lv_iload_n hx hb dX3_passes_6 rfl (lv_at hl 2 rfl) ?_
    refine lv_if_le (tgt := 26) hx hb dX3_passes_7 (by decide) (fun c1 => ?_) (fun c1 => ?_)
    · skip
      have h := f_t c1 h
      exact hk26 z2 z3 h _ _ _ hP hD hS hl
    · skip
      have h := f_f c1 h
      refine lv_iload_n hx hb dX3_passes_10 rfl (lv_at hl 2 rfl) ?_
      refine lv_iconst (v := 2) hx hb dX3_passes_11 (by decide) ?_
      refine lv_irem hx hb dX3_passes_12 (by decide) ?_
      refine lv_if_ne (tgt := 26) hx hb dX3_passes_13 (by decide) (fun c2 => ?_) (fun c2 => ?_)
      · skip
        have h := f_f c2 h
        exact hk26 z2 z3 h _ _ _ hP hD hS hl
      · skip
        have h := f_t c2 h
        refine lv_iinc (v := (z3 + 1)) (lv' := [(3, .int (z3 + 1)), (0, .int y0), (1, .int y1), (2, .int z2)]) hx hb dX3_passes_16 hl (k := 3) rfl rfl (by decide) rfl (fun ls hl => ?_)
        refine lv_iload_n hx hb dX3_passes_19 rfl (lv_at hl 3 rfl) ?_
        refine lv_iconst (v := 2) hx hb dX3_passes_20 (by decide) ?_
        refine lv_idiv hx hb dX3_passes_21 (by decide) ?_
        refine lv_istore_n (lv' := [(2, .int (z2 / (2 : Int32))), (3, .int (z3 + 1)), (0, .int y0), (1, .int y1)]) hx hb dX3_passes_22 rfl hl (by decide) rfl (fun ls hl => ?_)
        refine lv_goto (tgt := 6) hx hb dX3_passes_23 (by decide) ?_
        exact ih (z2 / (2 : Int32)) (z3 + 1) h _ _ _ hP hD hS (lv_sub hl [2, 3, 0, 1] rfl)
set_option maxRecDepth 100000 in
set_option maxHeartbeats 8000000 in
theorem W_X3_passes_L38 {p : Program} {e : Env} {s : State} {m : MethodId} {args : Array Value} {below : List Frame} {meth : Method} {c : Code} {A : Nat → Prop} (l : Launch) (D : va_G) (G : hG) (w : va_W) (F : Nat) (x0 : Int32) (x1 : Int32) (y1 : Int32) (y3 : Int32) (res : Int32) (C0 : Cx p s m args meth c cX3_passes (some .boolean) RX3 9 D G A) (hA : ∀ q : Nat, s.heap.size ≤ q → A q) (k78 : Int64 → Option Int32) (hk78 : ∀ (z4 : Int64), k78 z4 = some res → ∀ (H : Heap) (locs : List Loc) (ls : Array Slot), va_P D vwCl w H → va_D A w → va_S A s.heap H locs → lv_has ls 9 [(1, .int y1), (3, .int y3), (4, .long z4)] → W p l e rm_X3_passes s m args below meth c H locs 0 0 (MQ below (Qg (some (.int res)) D (tysG G) w A) args s 0 0 A) (F0 m 78 ls [])) : ∀ (n : Nat) (z2 : Int32) (z4 : Int64) (z6 : Int64), f_X3_passes_L38 y1 y3 k78 n z2 z4 z6 = some res → ∀ (H : Heap) (locs : List Loc) (ls : Array Slot), va_P D vwCl w H → va_D A w → va_S A s.heap H locs → lv_has ls 9 [(1, .int y1), (2, .int z2), (3, .int y3), (4, .long z4), (6, .long z6)] → W p l e rm_X3_passes s m args below meth c H locs 0 0 (MQ below (Qg (some (.int res)) D (tysG G) w A) args s 0 0 A) (F0 m 38 ls []) := by
  obtain ⟨hx, hb, hr, hml, hown, hts, hlocks, hK, hE⟩ := id C0
  intro n
  induction n with
  | zero =>
    intro z2 z4 z6 h
    cases h
  | succ n ih =>
    intro z2 z4 z6 h H locs ls hP hD hS hl
    rw [f_X3_passes_L38] at h
    refine lv_iload_n hx hb dX3_passes_38 rfl (lv_at hl 1 rfl) ?_
    refine lv_if_le (tgt := 78) hx hb dX3_passes_39 (by decide) (fun c4 => ?_) (fun c4 => ?_)
    · skip
      have h := f_t c4 h
      exact hk78 z4 h _ _ _ hP hD hS (lv_sub hl [0, 2, 3] rfl)
    · skip
      have h := f_f c4 h
      refine lv_iload_n hx hb dX3_passes_42 rfl (lv_at hl 1 rfl) ?_
      refine lv_iconst (v := 2) hx hb dX3_passes_43 (by decide) ?_
      refine lv_irem hx hb dX3_passes_44 (by decide) ?_
      refine lv_iconst (v := 1) hx hb dX3_passes_45 (by decide) ?_
      refine lv_icmp_ne (tgt := 60) hx hb dX3_passes_46 (by decide) (fun c5 => ?_) (fun c5 => ?_)
      · skip
        have h := f_f c5 h
        refine lv_lload hx hb dX3_passes_60 (lv_at hl 4 rfl) ?_
        refine lv_lload hx hb dX3_passes_62 (lv_at hl 4 rfl) ?_
        refine lv_iload_n hx hb dX3_passes_64 rfl (lv_at hl 0 rfl) ?_
        refine lv_i2l (v := (y1 : Int32).toInt64) hx hb dX3_passes_65 rfl ?_
        obtain ⟨q6, hq6, h⟩ := f_b h
        refine cl_S (w := w) (w' := w) (rv := some (.long q6)) (bytes := cX3_times) (maxL := 6) (ret := (some .long)) (As := [.long z6, .long z6, .long (y1 : Int32).toInt64]) (rest := []) (stk := [.long q6]) ⟨hx, hb, hml, hown, hts⟩ hK hE hA hP hD hS (c_X3_times l D G w z6 z6 ((y1 : Int32).toInt64) q6 hq6) (mkS hts wd_593 wd_594 wd_5 wd_595 rfl rfl hd_X3_times ⟨Nat.le_of_ble_eq_true rfl, Nat.le_of_ble_eq_true rfl⟩) rfl hl.1 rfl (Nat.le_of_ble_eq_true rfl) dX3_passes_66 ⟨Nat.zero_le _, Nat.zero_le _⟩ rfl (fun H locs hP hD hS => ?_)
        refine lv_lstore (lv' := [(6, .long q6), (1, .int y1), (2, .int z2), (3, .int y3), (4, .long z4)]) hx hb dX3_passes_69 hl (by decide) rfl (fun ls hl => ?_)
        refine lv_iload_n hx hb dX3_passes_71 rfl (lv_at hl 2 rfl) ?_
        refine lv_iconst (v := 2) hx hb dX3_passes_72 (by decide) ?_
        refine lv_idiv hx hb dX3_passes_73 (by decide) ?_
        refine lv_istore_n (lv' := [(2, .int (z2 / (2 : Int32))), (6, .long q6), (1, .int y1), (3, .int y3), (4, .long z4)]) hx hb dX3_passes_74 rfl hl (by decide) rfl (fun ls hl => ?_)
        refine lv_goto (tgt := 38) hx hb dX3_passes_75 (by decide) ?_
        exact ih (z2 / (2 : Int32)) z4 q6 h _ _ _ hP hD hS (lv_sub hl [2, 0, 3, 4, 1] rfl)
      · skip
        have h := f_t c5 h
        refine lv_lload hx hb dX3_passes_49 (lv_at hl 3 rfl) ?_
        refine lv_lload hx hb dX3_passes_51 (lv_at hl 4 rfl) ?_
        refine lv_iload_n hx hb dX3_passes_53 rfl (lv_at hl 0 rfl) ?_
        refine lv_i2l (v := (y1 : Int32).toInt64) hx hb dX3_passes_54 rfl ?_
        obtain ⟨q7, hq7, h⟩ := f_b h
        refine cl_S (w := w) (w' := w) (rv := some (.long q7)) (bytes := cX3_times) (maxL := 6) (ret := (some .long)) (As := [.long z4, .long z6, .long (y1 : Int32).toInt64]) (rest := []) (stk := [.long q7]) ⟨hx, hb, hml, hown, hts⟩ hK hE hA hP hD hS (c_X3_times l D G w z4 z6 ((y1 : Int32).toInt64) q7 hq7) (mkS hts wd_593 wd_594 wd_5 wd_595 rfl rfl hd_X3_times ⟨Nat.le_of_ble_eq_true rfl, Nat.le_of_ble_eq_true rfl⟩) rfl hl.1 rfl (Nat.le_of_ble_eq_true rfl) dX3_passes_55 ⟨Nat.zero_le _, Nat.zero_le _⟩ rfl (fun H locs hP hD hS => ?_)
        refine lv_lstore (lv' := [(4, .long q7), (1, .int y1), (2, .int z2), (3, .int y3), (6, .long z6)]) hx hb dX3_passes_58 hl (by decide) rfl (fun ls hl => ?_)
        refine lv_lload hx hb dX3_passes_60 (lv_at hl 4 rfl) ?_
        refine lv_lload hx hb dX3_passes_62 (lv_at hl 4 rfl) ?_
        refine lv_iload_n hx hb dX3_passes_64 rfl (lv_at hl 1 rfl) ?_
        refine lv_i2l (v := (y1 : Int32).toInt64) hx hb dX3_passes_65 rfl ?_
        obtain ⟨q8, hq8, h⟩ := f_b h
        refine cl_S (w := w) (w' := w) (rv := some (.long q8)) (bytes := cX3_times) (maxL := 6) (ret := (some .long)) (As := [.long z6, .long z6, .long (y1 : Int32).toInt64]) (rest := []) (stk := [.long q8]) ⟨hx, hb, hml, hown, hts⟩ hK hE hA hP hD hS (c_X3_times l D G w z6 z6 ((y1 : Int32).toInt64) q8 hq8) (mkS hts wd_593 wd_594 wd_5 wd_595 rfl rfl hd_X3_times ⟨Nat.le_of_ble_eq_true rfl, Nat.le_of_ble_eq_true rfl⟩) rfl hl.1 rfl (Nat.le_of_ble_eq_true rfl) dX3_passes_66 ⟨Nat.zero_le _, Nat.zero_le _⟩ rfl (fun H locs hP hD hS => ?_)
        refine lv_lstore (lv' := [(6, .long q8), (4, .long q7), (1, .int y1), (2, .int z2), (3, .int y3)]) hx hb dX3_passes_69 hl (by decide) rfl (fun ls hl => ?_)
        refine lv_iload_n hx hb dX3_passes_71 rfl (lv_at hl 3 rfl) ?_
        refine lv_iconst (v := 2) hx hb dX3_passes_72 (by decide) ?_
        refine lv_idiv hx hb dX3_passes_73 (by decide) ?_
        refine lv_istore_n (lv' := [(2, .int (z2 / (2 : Int32))), (6, .long q8), (4, .long q7), (1, .int y1), (3, .int y3)]) hx hb dX3_passes_74 rfl hl (by decide) rfl (fun ls hl => ?_)
        refine lv_goto (tgt := 38) hx hb dX3_passes_75 (by decide) ?_
        exact ih (z2 / (2 : Int32)) q7 q8 h _ _ _ hP hD hS (lv_sub hl [3, 0, 4, 2, 1] rfl)
set_option maxRecDepth 100000 in
set_option maxHeartbeats 8000000 in
theorem W_X3_passes_L90 {p : Program} {e : Env} {s : State} {m : MethodId} {args : Array Value} {below : List Frame} {meth : Method} {c : Code} {A : Nat → Prop} (l : Launch) (D : va_G) (G : hG) (w : va_W) (F : Nat) (x0 : Int32) (x1 : Int32) (y1 : Int32) (y3 : Int32) (res : Int32) (C0 : Cx p s m args meth c cX3_passes (some .boolean) RX3 9 D G A) (hA : ∀ q : Nat, s.heap.size ≤ q → A q) : ∀ (n : Nat) (z4 : Int64) (z8 : Int32), f_X3_passes_L90 y1 y3 n z4 z8 = some res → ∀ (H : Heap) (locs : List Loc) (ls : Array Slot), va_P D vwCl w H → va_D A w → va_S A s.heap H locs → lv_has ls 9 [(1, .int y1), (3, .int y3), (4, .long z4), (8, .int z8)] → W p l e rm_X3_passes s m args below meth c H locs 0 0 (MQ below (Qg (some (.int res)) D (tysG G) w A) args s 0 0 A) (F0 m 90 ls []) := by
  obtain ⟨hx, hb, hr, hml, hown, hts, hlocks, hK, hE⟩ := id C0
  intro n
  induction n with
  | zero =>
    intro z4 z8 h
    cases h
  | succ n ih =>
    intro z4 z8 h H locs ls hP hD hS hl
    rw [f_X3_passes_L90] at h
    refine lv_iload hx hb dX3_passes_90 (lv_at hl 3 rfl) ?_
    refine lv_iload_n hx hb dX3_passes_92 rfl (lv_at hl 1 rfl) ?_
    refine lv_icmp_ge (tgt := 125) hx hb dX3_passes_93 (by decide) (fun c10 => ?_) (fun c10 => ?_)
    · skip
      have h := f_t c10 h
      refine lv_iconst (v := 0) hx hb dX3_passes_125 (by decide) ?_
      obtain rfl := Option.some.inj h
      exact W.zret (v := (0 : Int32)) hx hb hr rfl (q_end hK hP hD hS) hS.2.2 dX3_passes_126
    · skip
      have h := f_f c10 h
      refine lv_lload hx hb dX3_passes_96 (lv_at hl 2 rfl) ?_
      refine lv_iload_n hx hb dX3_passes_98 rfl (lv_at hl 0 rfl) ?_
      refine lv_iconst (v := 1) hx hb dX3_passes_99 (by decide) ?_
      refine lv_isub hx hb dX3_passes_100 ?_
      refine lv_i2l (v := ((y1 - (1 : Int32)) : Int32).toInt64) hx hb dX3_passes_101 rfl ?_
      refine W.lcmp hx hb dX3_passes_102 ?_
      refine lv_if_ne (tgt := 108) hx hb dX3_passes_103 (by decide) (fun c11 => ?_) (fun c11 => ?_)
      · skip
        have c11 := mt (lg_cmp_eq _ _).mpr c11
        have h := f_f c11 h
        refine lv_lload hx hb dX3_passes_108 (lv_at hl 2 rfl) ?_
        refine lv_lload hx hb dX3_passes_110 (lv_at hl 2 rfl) ?_
        refine lv_iload_n hx hb dX3_passes_112 rfl (lv_at hl 0 rfl) ?_
        refine lv_i2l (v := (y1 : Int32).toInt64) hx hb dX3_passes_113 rfl ?_
        obtain ⟨q12, hq12, h⟩ := f_b h
        refine cl_S (w := w) (w' := w) (rv := some (.long q12)) (bytes := cX3_times) (maxL := 6) (ret := (some .long)) (As := [.long z4, .long z4, .long (y1 : Int32).toInt64]) (rest := []) (stk := [.long q12]) ⟨hx, hb, hml, hown, hts⟩ hK hE hA hP hD hS (c_X3_times l D G w z4 z4 ((y1 : Int32).toInt64) q12 hq12) (mkS hts wd_593 wd_594 wd_5 wd_595 rfl rfl hd_X3_times ⟨Nat.le_of_ble_eq_true rfl, Nat.le_of_ble_eq_true rfl⟩) rfl hl.1 rfl (Nat.le_of_ble_eq_true rfl) dX3_passes_114 ⟨Nat.zero_le _, Nat.zero_le _⟩ rfl (fun H locs hP hD hS => ?_)
        refine lv_lstore (lv' := [(4, .long q12), (1, .int y1), (3, .int y3), (8, .int z8)]) hx hb dX3_passes_117 hl (by decide) rfl (fun ls hl => ?_)
        refine lv_iinc (v := (z8 + 1)) (lv' := [(8, .int (z8 + 1)), (4, .long q12), (1, .int y1), (3, .int y3)]) hx hb dX3_passes_119 hl (k := 3) rfl rfl (by decide) rfl (fun ls hl => ?_)
        refine lv_goto (tgt := 90) hx hb dX3_passes_122 (by decide) ?_
        exact ih q12 (z8 + 1) h _ _ _ hP hD hS (lv_sub hl [2, 3, 1, 0] rfl)
      · skip
        have c11 := (lg_cmp_eq _ _).mp c11
        have h := f_t c11 h
        refine lv_iconst (v := 1) hx hb dX3_passes_106 (by decide) ?_
        obtain rfl := Option.some.inj h
        exact W.zret (v := (1 : Int32)) hx hb hr rfl (q_end hK hP hD hS) hS.2.2 dX3_passes_107
set_option maxRecDepth 100000 in
set_option maxHeartbeats 8000000 in
theorem c_X3_passes (l : Launch) (D : va_G) (G : hG) (w : va_W) (F : Nat) (x0 : Int32) (x1 : Int32) (res : Int32) (h : f_X3_passes F x0 x1 = some res) : CT l yX3_passes cX3_passes 9 (some .boolean) rm_X3_passes D G 0 0 [.int x0, .int x1] w w (some (.int res)) := by
  unfold f_X3_passes at h
  refine CT.mk (cc := cX3_passes) (maxL := 9) (ret := (some .boolean)) (own := RX3) (plainFor_of_name (by decide)) rfl (Nat.le_of_ble_eq_true rfl) ?_
  intro p e s m args below meth c A ls C0 hnm hA hP hD hl
  obtain ⟨hx, hb, hr, hml, hown, hts, hlocks, hK, hE⟩ := id C0
  have hS : va_S A s.heap s.heap [] := va_S.rf
  have hl : lv_has ls 9 [(0, .int x0), (1, .int x1)] := hl
  refine lv_iload_n hx hb dX3_passes_0 rfl (lv_at hl 1 rfl) ?_
  refine lv_iconst (v := 1) hx hb dX3_passes_1 (by decide) ?_
  refine lv_isub hx hb dX3_passes_2 ?_
  refine lv_istore_n (lv' := [(2, .int (x1 - (1 : Int32))), (0, .int x0), (1, .int x1)]) hx hb dX3_passes_3 rfl hl (by decide) rfl (fun ls hl => ?_)
  refine lv_iconst (v := 0) hx hb dX3_passes_4 (by decide) ?_
  refine lv_istore_n (lv' := [(3, .int (0 : Int32)), (2, .int (x1 - (1 : Int32))), (0, .int x0), (1, .int x1)]) hx hb dX3_passes_5 rfl hl (by decide) rfl (fun ls hl => ?_)
  refine W_X3_passes_L6 l D G w F x0 x1 x0 x1 res C0 hA _ ?_ F (x1 - (1 : Int32)) (0 : Int32) h _ _ _ hP hD hS (lv_sub hl [2, 3, 1, 0] rfl)
  · intro z2 z3 h H locs ls hP hD hS hl
    refine lv_lconst (v := 1) hx hb dX3_passes_26 (by decide) ?_
    refine lv_lstore (lv' := [(4, .long (1 : Int64)), (0, .int x0), (1, .int x1), (2, .int z2), (3, .int z3)]) hx hb dX3_passes_27 hl (by decide) rfl (fun ls hl => ?_)
    refine lv_iload_n hx hb dX3_passes_29 rfl (lv_at hl 1 rfl) ?_
    refine lv_i2l (v := (x0 : Int32).toInt64) hx hb dX3_passes_30 rfl ?_
    refine lv_iload_n hx hb dX3_passes_31 rfl (lv_at hl 2 rfl) ?_
    refine lv_i2l (v := (x1 : Int32).toInt64) hx hb dX3_passes_32 rfl ?_
    obtain ⟨q3, hq3, h⟩ := f_b h
    refine cl_S (w := w) (w' := w) (rv := some (.long q3)) (bytes := cX3_rest) (maxL := 4) (ret := (some .long)) (As := [.long (x0 : Int32).toInt64, .long (x1 : Int32).toInt64]) (rest := []) (stk := [.long q3]) ⟨hx, hb, hml, hown, hts⟩ hK hE hA hP hD hS (c_X3_rest l D G w ((x0 : Int32).toInt64) ((x1 : Int32).toInt64) q3 hq3) (mkS hts wd_707 wd_708 wd_5 wd_709 rfl rfl hd_X3_rest ⟨Nat.le_of_ble_eq_true rfl, Nat.le_of_ble_eq_true rfl⟩) rfl hl.1 rfl (Nat.le_of_ble_eq_true rfl) dX3_passes_33 ⟨Nat.zero_le _, Nat.zero_le _⟩ rfl (fun H locs hP hD hS => ?_)
    refine lv_lstore (lv' := [(6, .long q3), (4, .long (1 : Int64)), (0, .int x0), (1, .int x1), (2, .int z2), (3, .int z3)]) hx hb dX3_passes_36 hl (by decide) rfl (fun ls hl => ?_)
    refine W_X3_passes_L38 l D G w F x0 x1 x1 z3 res C0 hA _ ?_ F z2 (1 : Int64) q3 h _ _ _ hP hD hS (lv_sub hl [3, 4, 5, 1, 0] rfl)
    · intro z4 h H locs ls hP hD hS hl
      refine lv_lload hx hb dX3_passes_78 (lv_at hl 2 rfl) ?_
      refine lv_lconst (v := 1) hx hb dX3_passes_80 (by decide) ?_
      refine W.lcmp hx hb dX3_passes_81 ?_
      refine lv_if_ne (tgt := 87) hx hb dX3_passes_82 (by decide) (fun c9 => ?_) (fun c9 => ?_)
      · skip
        have c9 := mt (lg_cmp_eq _ _).mpr c9
        have h := f_f c9 h
        refine lv_iconst (v := 0) hx hb dX3_passes_87 (by decide) ?_
        refine lv_istore (lv' := [(8, .int (0 : Int32)), (1, .int x1), (3, .int z3), (4, .long z4)]) hx hb dX3_passes_88 hl (by decide) rfl (fun ls hl => ?_)
        refine W_X3_passes_L90 l D G w F x0 x1 x1 z3 res C0 hA F z4 (0 : Int32) h _ _ _ hP hD hS (lv_sub hl [1, 2, 3, 0] rfl)
      · skip
        have c9 := (lg_cmp_eq _ _).mp c9
        have h := f_t c9 h
        refine lv_iconst (v := 1) hx hb dX3_passes_85 (by decide) ?_
        obtain rfl := Option.some.inj h
        exact W.zret (v := (1 : Int32)) hx hb hr rfl (q_end hK hP hD hS) hS.2.2 dX3_passes_86
abbrev rm_X3_isPrime : Room := { frames := 3, cells := 0, slots := 0, locals := 76 }
set_option maxRecDepth 100000 in
set_option maxHeartbeats 8000000 in
theorem c_X3_isPrime (l : Launch) (D : va_G) (G : hG) (w : va_W) (F : Nat) (x0 : Int32) (res : Int32) (h : f_X3_isPrime F x0 = some res) : CT l yX3_isPrime cX3_isPrime 1 (some .boolean) rm_X3_isPrime D G 0 0 [.int x0] w w (some (.int res)) := by
  unfold f_X3_isPrime at h
  refine CT.mk (cc := cX3_isPrime) (maxL := 1) (ret := (some .boolean)) (own := RX3) (plainFor_of_name (by decide)) rfl (Nat.le_of_ble_eq_true rfl) ?_
  intro p e s m args below meth c A ls C0 hnm hA hP hD hl
  obtain ⟨hx, hb, hr, hml, hown, hts, hlocks, hK, hE⟩ := id C0
  have hS : va_S A s.heap s.heap [] := va_S.rf
  have hl : lv_has ls 1 [(0, .int x0)] := hl
  refine lv_iload_n hx hb dX3_isPrime_0 rfl (lv_at hl 0 rfl) ?_
  refine lv_iconst (v := 2) hx hb dX3_isPrime_1 (by decide) ?_
  refine lv_icmp_lt (tgt := 11) hx hb dX3_isPrime_2 (by decide) (fun c1 => ?_) (fun c1 => ?_)
  · skip
    have h := f_t c1 h
    refine lv_iconst (v := 0) hx hb dX3_isPrime_11 (by decide) ?_
    obtain rfl := Option.some.inj h
    exact W.zret (v := (0 : Int32)) hx hb hr rfl (q_end hK hP hD hS) hS.2.2 dX3_isPrime_12
  · skip
    have h := f_f c1 h
    refine lv_iload_n hx hb dX3_isPrime_5 rfl (lv_at hl 0 rfl) ?_
    refine lv_ldc (v := 1000000007) hx hb hown (hts _ wd_703) dX3_isPrime_6 ?_
    refine lv_icmp_le (tgt := 13) hx hb dX3_isPrime_8 (by decide) (fun c2 => ?_) (fun c2 => ?_)
    · skip
      have h := f_t c2 h
      refine lv_iload_n hx hb dX3_isPrime_13 rfl (lv_at hl 0 rfl) ?_
      refine lv_iconst (v := 2) hx hb dX3_isPrime_14 (by decide) ?_
      refine lv_icmp_eq (tgt := 30) hx hb dX3_isPrime_15 (by decide) (fun c3 => ?_) (fun c3 => ?_)
      · skip
        have h := f_t c3 h
        refine lv_iconst (v := 1) hx hb dX3_isPrime_30 (by decide) ?_
        obtain rfl := Option.some.inj h
        exact W.zret (v := (1 : Int32)) hx hb hr rfl (q_end hK hP hD hS) hS.2.2 dX3_isPrime_31
      · skip
        have h := f_f c3 h
        refine lv_iload_n hx hb dX3_isPrime_18 rfl (lv_at hl 0 rfl) ?_
        refine lv_bipush (v := 7) hx hb dX3_isPrime_19 (by decide) ?_
        refine lv_icmp_eq (tgt := 30) hx hb dX3_isPrime_21 (by decide) (fun c4 => ?_) (fun c4 => ?_)
        · skip
          have h := f_t c4 h
          refine lv_iconst (v := 1) hx hb dX3_isPrime_30 (by decide) ?_
          obtain rfl := Option.some.inj h
          exact W.zret (v := (1 : Int32)) hx hb hr rfl (q_end hK hP hD hS) hS.2.2 dX3_isPrime_31
        · skip
          have h := f_f c4 h
          refine lv_iload_n hx hb dX3_isPrime_24 rfl (lv_at hl 0 rfl) ?_
          refine lv_bipush (v := 61) hx hb dX3_isPrime_25 (by decide) ?_
          refine lv_icmp_ne (tgt := 32) hx hb dX3_isPrime_27 (by decide) (fun c5 => ?_) (fun c5 => ?_)
          · skip
            have h := f_f c5 h
            refine lv_iload_n hx hb dX3_isPrime_32 rfl (lv_at hl 0 rfl) ?_
            refine lv_iconst (v := 2) hx hb dX3_isPrime_33 (by decide) ?_
            refine lv_irem hx hb dX3_isPrime_34 (by decide) ?_
            refine lv_if_eq (tgt := 68) hx hb dX3_isPrime_35 (by decide) (fun c6 => ?_) (fun c6 => ?_)
            · skip
              have h := f_t c6 h
              refine lv_iconst (v := 0) hx hb dX3_isPrime_68 (by decide) ?_
              obtain rfl := Option.some.inj h
              exact W.zret (v := (0 : Int32)) hx hb hr rfl (q_end hK hP hD hS) hS.2.2 dX3_isPrime_69
            · skip
              have h := f_f c6 h
              refine lv_iconst (v := 2) hx hb dX3_isPrime_38 (by decide) ?_
              refine lv_iload_n hx hb dX3_isPrime_39 rfl (lv_at hl 0 rfl) ?_
              obtain ⟨q7, hq7, h⟩ := f_b h
              refine cl_S (w := w) (w' := w) (rv := some (.int q7)) (bytes := cX3_passes) (maxL := 9) (ret := (some .boolean)) (As := [.int (2 : Int32), .int x0]) (rest := []) (stk := [.int q7]) ⟨hx, hb, hml, hown, hts⟩ hK hE hA hP hD hS (c_X3_passes l D G w F (2 : Int32) x0 q7 hq7) (mkS hts wd_704 wd_705 wd_5 wd_706 rfl rfl hd_X3_passes ⟨Nat.le_of_ble_eq_true rfl, Nat.le_of_ble_eq_true rfl⟩) rfl hl.1 rfl (Nat.le_of_ble_eq_true rfl) dX3_isPrime_40 ⟨Nat.zero_le _, Nat.zero_le _⟩ rfl (fun H locs hP hD hS => ?_)
              refine lv_if_eq (tgt := 68) hx hb dX3_isPrime_43 (by decide) (fun c8 => ?_) (fun c8 => ?_)
              · skip
                have h := f_t c8 h
                refine lv_iconst (v := 0) hx hb dX3_isPrime_68 (by decide) ?_
                obtain rfl := Option.some.inj h
                exact W.zret (v := (0 : Int32)) hx hb hr rfl (q_end hK hP hD hS) hS.2.2 dX3_isPrime_69
              · skip
                have h := f_f c8 h
                refine lv_bipush (v := 7) hx hb dX3_isPrime_46 (by decide) ?_
                refine lv_iload_n hx hb dX3_isPrime_48 rfl (lv_at hl 0 rfl) ?_
                obtain ⟨q9, hq9, h⟩ := f_b h
                refine cl_S (w := w) (w' := w) (rv := some (.int q9)) (bytes := cX3_passes) (maxL := 9) (ret := (some .boolean)) (As := [.int (7 : Int32), .int x0]) (rest := []) (stk := [.int q9]) ⟨hx, hb, hml, hown, hts⟩ hK hE hA hP hD hS (c_X3_passes l D G w F (7 : Int32) x0 q9 hq9) (mkS hts wd_704 wd_705 wd_5 wd_706 rfl rfl hd_X3_passes ⟨Nat.le_of_ble_eq_true rfl, Nat.le_of_ble_eq_true rfl⟩) rfl hl.1 rfl (Nat.le_of_ble_eq_true rfl) dX3_isPrime_49 ⟨Nat.zero_le _, Nat.zero_le _⟩ rfl (fun H locs hP hD hS => ?_)
                refine lv_if_eq (tgt := 68) hx hb dX3_isPrime_52 (by decide) (fun c10 => ?_) (fun c10 => ?_)
                · skip
                  have h := f_t c10 h
                  refine lv_iconst (v := 0) hx hb dX3_isPrime_68 (by decide) ?_
                  obtain rfl := Option.some.inj h
                  exact W.zret (v := (0 : Int32)) hx hb hr rfl (q_end hK hP hD hS) hS.2.2 dX3_isPrime_69
                · skip
                  have h := f_f c10 h
                  refine lv_bipush (v := 61) hx hb dX3_isPrime_55 (by decide) ?_
                  refine lv_iload_n hx hb dX3_isPrime_57 rfl (lv_at hl 0 rfl) ?_
                  obtain ⟨q11, hq11, h⟩ := f_b h
                  refine cl_S (w := w) (w' := w) (rv := some (.int q11)) (bytes := cX3_passes) (maxL := 9) (ret := (some .boolean)) (As := [.int (61 : Int32), .int x0]) (rest := []) (stk := [.int q11]) ⟨hx, hb, hml, hown, hts⟩ hK hE hA hP hD hS (c_X3_passes l D G w F (61 : Int32) x0 q11 hq11) (mkS hts wd_704 wd_705 wd_5 wd_706 rfl rfl hd_X3_passes ⟨Nat.le_of_ble_eq_true rfl, Nat.le_of_ble_eq_true rfl⟩) rfl hl.1 rfl (Nat.le_of_ble_eq_true rfl) dX3_isPrime_58 ⟨Nat.zero_le _, Nat.zero_le _⟩ rfl (fun H locs hP hD hS => ?_)
                  refine lv_if_eq (tgt := 68) hx hb dX3_isPrime_61 (by decide) (fun c12 => ?_) (fun c12 => ?_)
                  · skip
                    have h := f_t c12 h
                    refine lv_iconst (v := 0) hx hb dX3_isPrime_68 (by decide) ?_
                    obtain rfl := Option.some.inj h
                    exact W.zret (v := (0 : Int32)) hx hb hr rfl (q_end hK hP hD hS) hS.2.2 dX3_isPrime_69
                  · skip
                    have h := f_f c12 h
                    refine lv_iconst (v := 1) hx hb dX3_isPrime_64 (by decide) ?_
                    refine lv_goto (tgt := 69) hx hb dX3_isPrime_65 (by decide) ?_
                    obtain rfl := Option.some.inj h
                    exact W.zret (v := (1 : Int32)) hx hb hr rfl (q_end hK hP hD hS) hS.2.2 dX3_isPrime_69
          · skip
            have h := f_t c5 h
            refine lv_iconst (v := 1) hx hb dX3_isPrime_30 (by decide) ?_
            obtain rfl := Option.some.inj h
            exact W.zret (v := (1 : Int32)) hx hb hr rfl (q_end hK hP hD hS) hS.2.2 dX3_isPrime_31
    · skip
      have h := f_f c2 h
      refine lv_iconst (v := 0) hx hb dX3_isPrime_11 (by decide) ?_
      obtain rfl := Option.some.inj h
      exact W.zret (v := (0 : Int32)) hx hb hr rfl (q_end hK hP hD hS) hS.2.2 dX3_isPrime_12
abbrev rm_X3_put : Room := { frames := 0, cells := 0, slots := 0, locals := 0 }
set_option maxRecDepth 100000 in
set_option maxHeartbeats 8000000 in
theorem c_X3_put (l : Launch) (D : va_G) (G : hG) (Z : hZ) (Y : va_W) (σ0 : hSt) (x1 : Int32) (x2 : Int64) (res : (Unit × hSt)) (h : f_X3_put Z σ0 x1 x2 = some res) : CT l yX3_put cX3_put 4 none rm_X3_put D G 0 0 [.ref (G.2.1 7), .int x1, .long x2] (hW G Z Y σ0) (hW G Z Y res.2) none := by
  unfold f_X3_put at h
  refine CT.mk (cc := cX3_put) (maxL := 4) (ret := none) (own := RX3) (plainFor_of_name (by decide)) rfl (Nat.le_of_ble_eq_true rfl) ?_
  intro p e s m args below meth c A ls C0 hnm hA hP hD hl
  obtain ⟨hx, hb, hr, hml, hown, hts, hlocks, hK, hE⟩ := id C0
  have hS : va_S A s.heap s.heap [] := va_S.rf
  have hl : lv_has ls 4 [(0, .ref (G.2.1 7)), (1, .int x1), (2, .long x2)] := hl
  refine lv_iload_n hx hb dX3_put_0 rfl (lv_at hl 1 rfl) ?_
  refine lv_if_lt (tgt := 20) hx hb dX3_put_1 (by decide) (fun c1 => ?_) (fun c1 => ?_)
  · skip
    have h := f_t c1 h
    obtain rfl := Option.some.inj h
    exact W.vret hx hb hr (q_end hK hP hD hS) hS.2.2 dX3_put_20
  · skip
    have h := f_f c1 h
    refine lv_iload_n hx hb dX3_put_4 rfl (lv_at hl 1 rfl) ?_
    refine lv_aload_n hx hb dX3_put_5 rfl (lv_at hl 0 rfl) ?_
    refine va_get (D := D) (ci := 4) (v := .ref (G.2.1 9)) (C := RX3) (T := TX3) (N := 4) hx hb hts inU_X3 hown hK hP _ (hg_7 G Z Y σ0) rfl 1 (by decide) (hts _ wd_108) (fun _ h9 => h9) rfl dX3_put_6 ?_
    refine va_alen (ty := .long) (v := (6 : Int32)) hx hb hK hP _ 1 (hg_9 G Z Y σ0) rfl rfl dX3_put_9 ?_
    refine lv_icmp_ge (tgt := 20) hx hb dX3_put_10 (by decide) (fun c2 => ?_) (fun c2 => ?_)
    · skip
      have h := f_t c2 h
      obtain rfl := Option.some.inj h
      exact W.vret hx hb hr (q_end hK hP hD hS) hS.2.2 dX3_put_20
    · skip
      have h := f_f c2 h
      refine lv_aload_n hx hb dX3_put_13 rfl (lv_at hl 0 rfl) ?_
      refine va_get (D := D) (ci := 4) (v := .ref (G.2.1 9)) (C := RX3) (T := TX3) (N := 4) hx hb hts inU_X3 hown hK hP _ (hg_7 G Z Y σ0) rfl 1 (by decide) (hts _ wd_108) (fun _ h9 => h9) rfl dX3_put_14 ?_
      refine lv_iload_n hx hb dX3_put_17 rfl (lv_at hl 1 rfl) ?_
      refine lv_lload_n hx hb dX3_put_18 rfl (lv_at hl 2 rfl) ?_
      obtain ⟨c3, h⟩ := f_n h
      refine va_last hx hb hK hP hD hS _ 1 (hg_9 G Z Y σ0) rfl c3 dX3_put_19 (fun H locs hP hD hS => ?_)
      have hP := wrP (hp_9 G Z Y σ0 _ _) hP
      have hD := wrD (hp_9 G Z Y σ0 _ _) hD
      obtain rfl := Option.some.inj h
      exact W.vret hx hb hr (q_end hK hP hD hS) hS.2.2 dX3_put_20
abbrev rm_X4_steepOf : Room := { frames := 0, cells := 0, slots := 0, locals := 0 }
set_option maxRecDepth 100000 in
set_option maxHeartbeats 8000000 in
theorem c_X4_steepOf (l : Launch) (D : va_G) (G : hG) (Z : hZ) (Y : va_W) (σ0 : hSt) (r0 : Nat) (hr0 : isSa Z r0 = true) (x1 : Int32) (res : Int32) (h : f_X4_steepOf Z σ0 r0 x1 = some res) : CT l yX4_steepOf cX4_steepOf 2 (some .int) rm_X4_steepOf D G 0 0 [.ref (G.2.1 r0), .int x1] (hW G Z Y σ0) (hW G Z Y σ0) (some (.int res)) := by
  unfold f_X4_steepOf at h
  refine CT.mk (cc := cX4_steepOf) (maxL := 2) (ret := (some .int)) (own := RX4) (plainFor_of_name (by decide)) rfl (Nat.le_of_ble_eq_true rfl) ?_
  intro p e s m args below meth c A ls C0 hnm hA hP hD hl
  obtain ⟨hx, hb, hr, hml, hown, hts, hlocks, hK, hE⟩ := id C0
  have hS : va_S A s.heap s.heap [] := va_S.rf
  have hl : lv_has ls 2 [(0, .ref (G.2.1 r0)), (1, .int x1)] := hl
  refine lv_iload_n hx hb dX4_steepOf_0 rfl (lv_at hl 1 rfl) ?_
  refine lv_if_lt (tgt := 13) hx hb dX4_steepOf_1 (by decide) (fun c1 => ?_) (fun c1 => ?_)
  · skip
    have h := f_t c1 h
    refine lv_iconst (v := 0) hx hb dX4_steepOf_13 (by decide) ?_
    refine lv_goto (tgt := 23) hx hb dX4_steepOf_14 (by decide) ?_
    obtain rfl := Option.some.inj h
    exact W.iret (v := (0 : Int32)) hx hb hr (q_end hK hP hD hS) hS.2.2 dX4_steepOf_23
  · skip
    have h := f_f c1 h
    refine lv_iload_n hx hb dX4_steepOf_4 rfl (lv_at hl 1 rfl) ?_
    refine lv_aload_n hx hb dX4_steepOf_5 rfl (lv_at hl 0 rfl) ?_
    obtain ⟨qq2, hq2⟩ := hg_Sa G Z Y σ0 hr0
    refine va_get (D := D) (ci := 5) (v := .ref (G.2.1 (r0 + 2000))) (C := RX4) (T := TX4) (N := 5) hx hb hts inU_X4 hown hK hP _ hq2 rfl 1 (by decide) (hts _ wd_555) (fun _ h9 => h9) rfl dX4_steepOf_6 ?_
    obtain ⟨qq3, hq3⟩ := hg_Ar G Z Y σ0 (isSa_steeps hr0)
    refine va_alen (ty := .int) (v := (Int32.ofNat (Z.2.1 (r0 + 2000)))) hx hb hK hP _ 0 hq3 rfl rfl dX4_steepOf_9 ?_
    refine lv_icmp_lt (tgt := 17) hx hb dX4_steepOf_10 (by decide) (fun c4 => ?_) (fun c4 => ?_)
    · skip
      have h := f_t c4 h
      refine lv_aload_n hx hb dX4_steepOf_17 rfl (lv_at hl 0 rfl) ?_
      obtain ⟨qq5, hq5⟩ := hg_Sa G Z Y σ0 hr0
      refine va_get (D := D) (ci := 5) (v := .ref (G.2.1 (r0 + 2000))) (C := RX4) (T := TX4) (N := 5) hx hb hts inU_X4 hown hK hP _ hq5 rfl 1 (by decide) (hts _ wd_555) (fun _ h9 => h9) rfl dX4_steepOf_18 ?_
      refine lv_iload_n hx hb dX4_steepOf_21 rfl (lv_at hl 1 rfl) ?_
      obtain ⟨qq6, hq6⟩ := hg_Ar G Z Y σ0 (isSa_steeps hr0)
      obtain ⟨c7, h⟩ := f_n h
      refine va_ialdE (v := (Z.2.2.1 (r0 + 2000) (x1 : Int32).toNatClampNeg)) hx hb hK hP _ 0 hq6 rfl c7 dX4_steepOf_22 rfl ?_
      obtain rfl := Option.some.inj h
      exact W.iret (v := (Z.2.2.1 (r0 + 2000) (x1 : Int32).toNatClampNeg)) hx hb hr (q_end hK hP hD hS) hS.2.2 dX4_steepOf_23
    · skip
      have h := f_f c4 h
      refine lv_iconst (v := 0) hx hb dX4_steepOf_13 (by decide) ?_
      refine lv_goto (tgt := 23) hx hb dX4_steepOf_14 (by decide) ?_
      obtain rfl := Option.some.inj h
      exact W.iret (v := (0 : Int32)) hx hb hr (q_end hK hP hD hS) hS.2.2 dX4_steepOf_23
abbrev rm_X4_mostSteep : Room := { frames := 1, cells := 0, slots := 0, locals := 30 }
set_option maxRecDepth 100000 in
set_option maxHeartbeats 8000000 in
theorem W_X4_mostSteep_L13 {p : Program} {e : Env} {s : State} {m : MethodId} {args : Array Value} {below : List Frame} {meth : Method} {c : Code} {A : Nat → Prop} (l : Launch) (D : va_G) (G : hG) (Z : hZ) (Y : va_W) (σ0 : hSt) (F : Nat) (r0 : Nat) (hr0 : isSa Z r0 = true) (y3 : Int32) (res : Int32) (C0 : Cx p s m args meth c cX4_mostSteep (some .int) RX4 6 D G A) (hA : ∀ q : Nat, s.heap.size ≤ q → A q) : ∀ (n : Nat) (z1 : Int32) (z4 : Int32), f_X4_mostSteep_L13 Z r0 y3 n z1 z4 = some res → ∀ (H : Heap) (locs : List Loc) (ls : Array Slot), va_P D vwCl (hW G Z Y σ0) H → va_D A (hW G Z Y σ0) → va_S A s.heap H locs → lv_has ls 6 [(1, .int z1), (2, .ref (G.2.1 (r0 + 2000))), (3, .int y3), (4, .int z4)] → W p l e rm_X4_mostSteep s m args below meth c H locs 0 0 (MQ below (Qg (some (.int res)) D (tysG G) (hW G Z Y σ0) A) args s 0 0 A) (F0 m 13 ls []) := by
  obtain ⟨hx, hb, hr, hml, hown, hts, hlocks, hK, hE⟩ := id C0
  intro n
  induction n with
  | zero =>
    intro z1 z4 h
    cases h
  | succ n ih =>
    intro z1 z4 h H locs ls hP hD hS hl
    rw [f_X4_mostSteep_L13] at h
    refine lv_iload hx hb dX4_mostSteep_13 (lv_at hl 3 rfl) ?_
    refine lv_iload_n hx hb dX4_mostSteep_15 rfl (lv_at hl 2 rfl) ?_
    refine lv_icmp_ge (tgt := 38) hx hb dX4_mostSteep_16 (by decide) (fun c3 => ?_) (fun c3 => ?_)
    · skip
      have h := f_t c3 h
      refine lv_iload_n hx hb dX4_mostSteep_38 rfl (lv_at hl 0 rfl) ?_
      obtain rfl := Option.some.inj h
      exact W.iret (v := z1) hx hb hr (q_end hK hP hD hS) hS.2.2 dX4_mostSteep_39
    · skip
      have h := f_f c3 h
      refine lv_aload_n hx hb dX4_mostSteep_19 rfl (lv_at hl 1 rfl) ?_
      refine lv_iload hx hb dX4_mostSteep_20 (lv_at hl 3 rfl) ?_
      obtain ⟨qq4, hq4⟩ := hg_Ar G Z Y σ0 (isSa_steeps hr0)
      obtain ⟨c5, h⟩ := f_n h
      refine va_ialdE (v := (Z.2.2.1 (r0 + 2000) (z4 : Int32).toNatClampNeg)) hx hb hK hP _ 0 hq4 rfl c5 dX4_mostSteep_22 rfl ?_
      refine lv_istore (lv' := [(5, .int (Z.2.2.1 (r0 + 2000) (z4 : Int32).toNatClampNeg)), (1, .int z1), (2, .ref (G.2.1 (r0 + 2000))), (3, .int y3), (4, .int z4)]) hx hb dX4_mostSteep_23 hl (by decide) rfl (fun ls hl => ?_)
      refine lv_iload_n hx hb dX4_mostSteep_25 rfl (lv_at hl 1 rfl) ?_
      refine lv_iload hx hb dX4_mostSteep_26 (lv_at hl 0 rfl) ?_
      refine va_mmax hx hb (hml.trans hl.1.symm) hown (hts _ wd_552) (hts _ wd_328) (hts _ wd_12) (hts _ wd_329) (Nat.le_of_ble_eq_true rfl) (Nat.le_of_ble_eq_true rfl) (Nat.zero_le _) (Nat.zero_le _) dX4_mostSteep_28 ?_
      refine lv_istore_n (lv' := [(1, .int (if z1 < (Z.2.2.1 (r0 + 2000) (z4 : Int32).toNatClampNeg) then (Z.2.2.1 (r0 + 2000) (z4 : Int32).toNatClampNeg) else z1)), (5, .int (Z.2.2.1 (r0 + 2000) (z4 : Int32).toNatClampNeg)), (2, .ref (G.2.1 (r0 + 2000))), (3, .int y3), (4, .int z4)]) hx hb dX4_mostSteep_31 rfl hl (by decide) rfl (fun ls hl => ?_)
      refine lv_iinc (v := (z4 + 1)) (lv' := [(4, .int (z4 + 1)), (1, .int (if z1 < (Z.2.2.1 (r0 + 2000) (z4 : Int32).toNatClampNeg) then (Z.2.2.1 (r0 + 2000) (z4 : Int32).toNatClampNeg) else z1)), (5, .int (Z.2.2.1 (r0 + 2000) (z4 : Int32).toNatClampNeg)), (2, .ref (G.2.1 (r0 + 2000))), (3, .int y3)]) hx hb dX4_mostSteep_32 hl (k := 4) rfl rfl (by decide) rfl (fun ls hl => ?_)
      refine lv_goto (tgt := 13) hx hb dX4_mostSteep_35 (by decide) ?_
      exact ih (if z1 < (Z.2.2.1 (r0 + 2000) (z4 : Int32).toNatClampNeg) then (Z.2.2.1 (r0 + 2000) (z4 : Int32).toNatClampNeg) else z1) (z4 + 1) h _ _ _ hP hD hS (lv_sub hl [1, 3, 4, 0] rfl)
set_option maxRecDepth 100000 in
set_option maxHeartbeats 8000000 in
theorem c_X4_mostSteep (l : Launch) (D : va_G) (G : hG) (Z : hZ) (Y : va_W) (σ0 : hSt) (F : Nat) (r0 : Nat) (hr0 : isSa Z r0 = true) (res : Int32) (h : f_X4_mostSteep F Z σ0 r0 = some res) : CT l yX4_mostSteep cX4_mostSteep 6 (some .int) rm_X4_mostSteep D G 0 0 [.ref (G.2.1 r0)] (hW G Z Y σ0) (hW G Z Y σ0) (some (.int res)) := by
  unfold f_X4_mostSteep at h
  refine CT.mk (cc := cX4_mostSteep) (maxL := 6) (ret := (some .int)) (own := RX4) (plainFor_of_name (by decide)) rfl (Nat.le_of_ble_eq_true rfl) ?_
  intro p e s m args below meth c A ls C0 hnm hA hP hD hl
  obtain ⟨hx, hb, hr, hml, hown, hts, hlocks, hK, hE⟩ := id C0
  have hS : va_S A s.heap s.heap [] := va_S.rf
  have hl : lv_has ls 6 [(0, .ref (G.2.1 r0))] := hl
  refine lv_iconst (v := 0) hx hb dX4_mostSteep_0 (by decide) ?_
  refine lv_istore_n (lv' := [(1, .int (0 : Int32)), (0, .ref (G.2.1 r0))]) hx hb dX4_mostSteep_1 rfl hl (by decide) rfl (fun ls hl => ?_)
  refine lv_aload_n hx hb dX4_mostSteep_2 rfl (lv_at hl 1 rfl) ?_
  obtain ⟨qq1, hq1⟩ := hg_Sa G Z Y σ0 hr0
  refine va_get (D := D) (ci := 5) (v := .ref (G.2.1 (r0 + 2000))) (C := RX4) (T := TX4) (N := 5) hx hb hts inU_X4 hown hK hP _ hq1 rfl 1 (by decide) (hts _ wd_555) (fun _ h9 => h9) rfl dX4_mostSteep_3 ?_
  refine lv_astore_n (lv' := [(2, .ref (G.2.1 (r0 + 2000))), (1, .int (0 : Int32)), (0, .ref (G.2.1 r0))]) hx hb dX4_mostSteep_6 rfl hl (by decide) rfl (fun ls hl => ?_)
  refine lv_aload_n hx hb dX4_mostSteep_7 rfl (lv_at hl 0 rfl) ?_
  obtain ⟨qq2, hq2⟩ := hg_Ar G Z Y σ0 (isSa_steeps hr0)
  refine va_alen (ty := .int) (v := (Int32.ofNat (Z.2.1 (r0 + 2000)))) hx hb hK hP _ 0 hq2 rfl rfl dX4_mostSteep_8 ?_
  refine lv_istore_n (lv' := [(3, .int (Int32.ofNat (Z.2.1 (r0 + 2000)))), (2, .ref (G.2.1 (r0 + 2000))), (1, .int (0 : Int32)), (0, .ref (G.2.1 r0))]) hx hb dX4_mostSteep_9 rfl hl (by decide) rfl (fun ls hl => ?_)
  refine lv_iconst (v := 0) hx hb dX4_mostSteep_10 (by decide) ?_
  refine lv_istore (lv' := [(4, .int (0 : Int32)), (3, .int (Int32.ofNat (Z.2.1 (r0 + 2000)))), (2, .ref (G.2.1 (r0 + 2000))), (1, .int (0 : Int32)), (0, .ref (G.2.1 r0))]) hx hb dX4_mostSteep_11 hl (by decide) rfl (fun ls hl => ?_)
  refine W_X4_mostSteep_L13 l D G Z Y σ0 F r0 hr0 (Int32.ofNat (Z.2.1 (r0 + 2000))) res C0 hA F (0 : Int32) (0 : Int32) h _ _ _ hP hD hS (lv_sub hl [3, 2, 1, 0] rfl)
abbrev rm_X3_worthOf : Room := { frames := 1, cells := 0, slots := 0, locals := 27 }
set_option maxRecDepth 100000 in
set_option maxHeartbeats 8000000 in
theorem W_X3_worthOf_L17 {p : Program} {e : Env} {s : State} {m : MethodId} {args : Array Value} {below : List Frame} {meth : Method} {c : Code} {A : Nat → Prop} (l : Launch) (D : va_G) (G : hG) (Z : hZ) (Y : va_W) (σ0 : hSt) (F : Nat) (r1 : Nat) (hr1 : isSa Z r1 = true) (x2 : Int64) (y2 : Int64) (y6 : Int32) (res : (Int64 × hSt)) (C0 : Cx p s m args meth c cX3_worthOf (some .long) RX3 15 D G A) (hA : ∀ q : Nat, s.heap.size ≤ q → A q) (k194 : hSt → Int32 → Option (Int64 × hSt)) (hk194 : ∀ (σ1 : hSt) (z4 : Int32), k194 σ1 z4 = some res → ∀ (H : Heap) (locs : List Loc) (ls : Array Slot), va_P D vwCl (hW G Z Y σ1) H → va_D A (hW G Z Y σ1) → va_S A s.heap H locs → lv_has ls 15 [(0, .ref (G.2.1 7)), (4, .int z4)] → W p l e rm_X3_worthOf s m args below meth c H locs 0 0 (MQ below (Qg (some (.long res.1)) D (tysG G) (hW G Z Y res.2) A) args s 0 0 A) (F0 m 194 ls [])) : ∀ (n : Nat) (σ1 : hSt) (z4 : Int32) (z7 : Int32), f_X3_worthOf_L17 Z r1 y2 y6 k194 n σ1 z4 z7 = some res → ∀ (H : Heap) (locs : List Loc) (ls : Array Slot), va_P D vwCl (hW G Z Y σ1) H → va_D A (hW G Z Y σ1) → va_S A s.heap H locs → lv_has ls 15 [(0, .ref (G.2.1 7)), (2, .long y2), (4, .int z4), (5, .ref (G.2.1 (r1 + 1000))), (6, .int y6), (7, .int z7)] → W p l e rm_X3_worthOf s m args below meth c H locs 0 0 (MQ below (Qg (some (.long res.1)) D (tysG G) (hW G Z Y res.2) A) args s 0 0 A) (F0 m 17 ls []) := by
  obtain ⟨hx, hb, hr, hml, hown, hts, hlocks, hK, hE⟩ := id C0
  intro n
  induction n with
  | zero =>
    intro σ1 z4 z7 h
    cases h
  | succ n ih =>
    intro σ1 z4 z7 h H locs ls hP hD hS hl
    rw [f_X3_worthOf_L17] at h
    refine lv_iload hx hb dX3_worthOf_17 (lv_at hl 5 rfl) ?_
    refine lv_iload hx hb dX3_worthOf_19 (lv_at hl 4 rfl) ?_
    refine lv_icmp_ge (tgt := 194) hx hb dX3_worthOf_21 (by decide) (fun c3 => ?_) (fun c3 => ?_)
    · skip
      have h := f_t c3 h
      exact hk194 σ1 z4 h _ _ _ hP hD hS (lv_sub hl [0, 2] rfl)
    · skip
      have h := f_f c3 h
      refine lv_aload hx hb dX3_worthOf_24 (lv_at hl 3 rfl) ?_
      refine lv_iload hx hb dX3_worthOf_26 (lv_at hl 5 rfl) ?_
      obtain ⟨qq4, hq4⟩ := hg_Ar G Z Y σ1 (isSa_code hr1)
      obtain ⟨c5, h⟩ := f_n h
      refine va_ialdE (v := (Z.2.2.1 (r1 + 1000) (z7 : Int32).toNatClampNeg)) hx hb hK hP _ 0 hq4 rfl c5 dX3_worthOf_28 rfl ?_
      refine lv_istore (lv' := [(8, .int (Z.2.2.1 (r1 + 1000) (z7 : Int32).toNatClampNeg)), (0, .ref (G.2.1 7)), (2, .long y2), (4, .int z4), (5, .ref (G.2.1 (r1 + 1000))), (6, .int y6), (7, .int z7)]) hx hb dX3_worthOf_29 hl (by decide) rfl (fun ls hl => ?_)
      refine lv_iload hx hb dX3_worthOf_31 (lv_at hl 0 rfl) ?_
      refine lv_if_lt (tgt := 76) hx hb dX3_worthOf_33 (by decide) (fun c6 => ?_) (fun c6 => ?_)
      · skip
        have h := f_t c6 h
        refine lv_iload hx hb dX3_worthOf_76 (lv_at hl 0 rfl) ?_
        refine lv_bipush (v := 6) hx hb dX3_worthOf_78 (by decide) ?_
        refine lv_icmp_ne (tgt := 114) hx hb dX3_worthOf_80 (by decide) (fun c7 => ?_) (fun c7 => ?_)
        · skip
          have h := f_f c7 h
          refine lv_iload hx hb dX3_worthOf_114 (lv_at hl 3 rfl) ?_
          refine lv_iconst (v := 1) hx hb dX3_worthOf_116 (by decide) ?_
          refine lv_icmp_le (tgt := 188) hx hb dX3_worthOf_117 (by decide) (fun c8 => ?_) (fun c8 => ?_)
          · skip
            have h := f_t c8 h
            refine lv_iinc (v := (z7 + 1)) (lv' := [(7, .int (z7 + 1)), (8, .int (Z.2.2.1 (r1 + 1000) (z7 : Int32).toNatClampNeg)), (0, .ref (G.2.1 7)), (2, .long y2), (4, .int z4), (5, .ref (G.2.1 (r1 + 1000))), (6, .int y6)]) hx hb dX3_worthOf_188 hl (k := 6) rfl rfl (by decide) rfl (fun ls hl => ?_)
            refine lv_goto (tgt := 17) hx hb dX3_worthOf_191 (by decide) ?_
            exact ih σ1 z4 (z7 + 1) h _ _ _ hP hD hS (lv_sub hl [2, 3, 4, 5, 6, 0] rfl)
          · skip
            have h := f_f c8 h
            refine lv_iinc (v := (z4 + (-1 : Int32))) (lv' := [(4, .int (z4 + (-1 : Int32))), (8, .int (Z.2.2.1 (r1 + 1000) (z7 : Int32).toNatClampNeg)), (0, .ref (G.2.1 7)), (2, .long y2), (5, .ref (G.2.1 (r1 + 1000))), (6, .int y6), (7, .int z7)]) hx hb dX3_worthOf_120 hl (k := 3) rfl rfl (by decide) rfl (fun ls hl => ?_)
            refine lv_aload_n hx hb dX3_worthOf_123 rfl (lv_at hl 2 rfl) ?_
            refine va_get (D := D) (ci := 4) (v := .ref (G.2.1 8)) (C := RX3) (T := TX3) (N := 4) hx hb hts inU_X3 hown hK hP _ (hg_7 G Z Y σ1) rfl 0 (by decide) (hts _ wd_107) (fun _ h9 => h9) rfl dX3_worthOf_124 ?_
            refine lv_iload hx hb dX3_worthOf_127 (lv_at hl 0 rfl) ?_
            refine lv_iconst (v := 1) hx hb dX3_worthOf_129 (by decide) ?_
            refine lv_isub hx hb dX3_worthOf_130 ?_
            obtain ⟨c9, h⟩ := f_n h
            refine va_laldE (v := (σ1.2.1 8 ((((z4 + (-1 : Int32)) - (1 : Int32)) : Int32).toNatClampNeg))) hx hb hK hP _ 1 (hg_8 G Z Y σ1) rfl c9 dX3_worthOf_131 rfl ?_
            refine lv_lstore (lv' := [(9, .long (σ1.2.1 8 ((((z4 + (-1 : Int32)) - (1 : Int32)) : Int32).toNatClampNeg))), (4, .int (z4 + (-1 : Int32))), (8, .int (Z.2.2.1 (r1 + 1000) (z7 : Int32).toNatClampNeg)), (0, .ref (G.2.1 7)), (2, .long y2), (5, .ref (G.2.1 (r1 + 1000))), (6, .int y6), (7, .int z7)]) hx hb dX3_worthOf_132 hl (by decide) rfl (fun ls hl => ?_)
            refine lv_aload_n hx hb dX3_worthOf_134 rfl (lv_at hl 3 rfl) ?_
            refine va_get (D := D) (ci := 4) (v := .ref (G.2.1 8)) (C := RX3) (T := TX3) (N := 4) hx hb hts inU_X3 hown hK hP _ (hg_7 G Z Y σ1) rfl 0 (by decide) (hts _ wd_107) (fun _ h9 => h9) rfl dX3_worthOf_135 ?_
            refine lv_iload hx hb dX3_worthOf_138 (lv_at hl 1 rfl) ?_
            obtain ⟨c10, h⟩ := f_n h
            refine va_laldE (v := (σ1.2.1 8 (((z4 + (-1 : Int32)) : Int32).toNatClampNeg))) hx hb hK hP _ 1 (hg_8 G Z Y σ1) rfl c10 dX3_worthOf_140 rfl ?_
            refine lv_lstore (lv' := [(11, .long (σ1.2.1 8 (((z4 + (-1 : Int32)) : Int32).toNatClampNeg))), (9, .long (σ1.2.1 8 ((((z4 + (-1 : Int32)) - (1 : Int32)) : Int32).toNatClampNeg))), (4, .int (z4 + (-1 : Int32))), (8, .int (Z.2.2.1 (r1 + 1000) (z7 : Int32).toNatClampNeg)), (0, .ref (G.2.1 7)), (2, .long y2), (5, .ref (G.2.1 (r1 + 1000))), (6, .int y6), (7, .int z7)]) hx hb dX3_worthOf_141 hl (by decide) rfl (fun ls hl => ?_)
            refine lv_lload hx hb dX3_worthOf_143 (lv_at hl 1 rfl) ?_
            refine lv_lload hx hb dX3_worthOf_145 (lv_at hl 0 rfl) ?_
            refine lv_lload_n hx hb dX3_worthOf_147 rfl (lv_at hl 5 rfl) ?_
            obtain ⟨q11, hq11, h⟩ := f_b h
            refine cl_S (w := (hW G Z Y σ1)) (w' := (hW G Z Y σ1)) (rv := some (.long q11)) (bytes := cX3_times) (maxL := 6) (ret := (some .long)) (As := [.long (σ1.2.1 8 ((((z4 + (-1 : Int32)) - (1 : Int32)) : Int32).toNatClampNeg)), .long (σ1.2.1 8 (((z4 + (-1 : Int32)) : Int32).toNatClampNeg)), .long y2]) (rest := []) (stk := [.long q11]) ⟨hx, hb, hml, hown, hts⟩ hK hE hA hP hD hS (c_X3_times l D G (hW G Z Y σ1) (σ1.2.1 8 ((((z4 + (-1 : Int32)) - (1 : Int32)) : Int32).toNatClampNeg)) (σ1.2.1 8 (((z4 + (-1 : Int32)) : Int32).toNatClampNeg)) y2 q11 hq11) (mkS hts wd_593 wd_594 wd_5 wd_595 rfl rfl hd_X3_times ⟨Nat.le_of_ble_eq_true rfl, Nat.le_of_ble_eq_true rfl⟩) rfl hl.1 rfl (Nat.le_of_ble_eq_true rfl) dX3_worthOf_148 ⟨Nat.zero_le _, Nat.zero_le _⟩ rfl (fun H locs hP hD hS => ?_)
            refine lv_lstore (lv' := [(13, .long q11), (11, .long (σ1.2.1 8 (((z4 + (-1 : Int32)) : Int32).toNatClampNeg))), (9, .long (σ1.2.1 8 ((((z4 + (-1 : Int32)) - (1 : Int32)) : Int32).toNatClampNeg))), (4, .int (z4 + (-1 : Int32))), (8, .int (Z.2.2.1 (r1 + 1000) (z7 : Int32).toNatClampNeg)), (0, .ref (G.2.1 7)), (2, .long y2), (5, .ref (G.2.1 (r1 + 1000))), (6, .int y6), (7, .int z7)]) hx hb dX3_worthOf_151 hl (by decide) rfl (fun ls hl => ?_)
            refine lv_aload_n hx hb dX3_worthOf_153 rfl (lv_at hl 5 rfl) ?_
            refine va_get (D := D) (ci := 4) (v := .ref (G.2.1 8)) (C := RX3) (T := TX3) (N := 4) hx hb hts inU_X3 hown hK hP _ (hg_7 G Z Y σ1) rfl 0 (by decide) (hts _ wd_107) (fun _ h9 => h9) rfl dX3_worthOf_154 ?_
            refine lv_iload hx hb dX3_worthOf_157 (lv_at hl 3 rfl) ?_
            refine lv_iconst (v := 1) hx hb dX3_worthOf_159 (by decide) ?_
            refine lv_isub hx hb dX3_worthOf_160 ?_
            refine lv_iload hx hb dX3_worthOf_161 (lv_at hl 4 rfl) ?_
            refine lv_bipush (v := 7) hx hb dX3_worthOf_163 (by decide) ?_
            refine lv_icmp_ne (tgt := 173) hx hb dX3_worthOf_165 (by decide) (fun c12 => ?_) (fun c12 => ?_)
            · skip
              have h := f_f c12 h
              refine lv_lload hx hb dX3_worthOf_173 (lv_at hl 2 rfl) ?_
              refine lv_lload hx hb dX3_worthOf_175 (lv_at hl 1 rfl) ?_
              refine lv_lload_n hx hb dX3_worthOf_177 rfl (lv_at hl 6 rfl) ?_
              obtain ⟨q13, hq13, h⟩ := f_b h
              refine cl_S (w := (hW G Z Y σ1)) (w' := (hW G Z Y σ1)) (rv := some (.long q13)) (bytes := cX3_plus) (maxL := 8) (ret := (some .long)) (As := [.long (σ1.2.1 8 ((((z4 + (-1 : Int32)) - (1 : Int32)) : Int32).toNatClampNeg)), .long (σ1.2.1 8 (((z4 + (-1 : Int32)) : Int32).toNatClampNeg)), .long y2]) (rest := [.int ((z4 + (-1 : Int32)) - (1 : Int32)), .ref (G.2.1 8)]) (stk := [.long q13, .int ((z4 + (-1 : Int32)) - (1 : Int32)), .ref (G.2.1 8)]) ⟨hx, hb, hml, hown, hts⟩ hK hE hA hP hD hS (c_X3_plus l D G (hW G Z Y σ1) (σ1.2.1 8 ((((z4 + (-1 : Int32)) - (1 : Int32)) : Int32).toNatClampNeg)) (σ1.2.1 8 (((z4 + (-1 : Int32)) : Int32).toNatClampNeg)) y2 q13 hq13) (mkS hts wd_597 wd_598 wd_5 wd_599 rfl rfl hd_X3_plus ⟨Nat.le_of_ble_eq_true rfl, Nat.le_of_ble_eq_true rfl⟩) rfl hl.1 rfl (Nat.le_of_ble_eq_true rfl) dX3_worthOf_178 ⟨Nat.zero_le _, Nat.zero_le _⟩ rfl (fun H locs hP hD hS => ?_)
              refine lv_lload hx hb dX3_worthOf_181 (lv_at hl 0 rfl) ?_
              refine lv_lload_n hx hb dX3_worthOf_183 rfl (lv_at hl 6 rfl) ?_
              obtain ⟨q14, hq14, h⟩ := f_b h
              refine cl_S (w := (hW G Z Y σ1)) (w' := (hW G Z Y σ1)) (rv := some (.long q14)) (bytes := cX3_minus) (maxL := 6) (ret := (some .long)) (As := [.long q13, .long q11, .long y2]) (rest := [.int ((z4 + (-1 : Int32)) - (1 : Int32)), .ref (G.2.1 8)]) (stk := [.long q14, .int ((z4 + (-1 : Int32)) - (1 : Int32)), .ref (G.2.1 8)]) ⟨hx, hb, hml, hown, hts⟩ hK hE hA hP hD hS (c_X3_minus l D G (hW G Z Y σ1) q13 q11 y2 q14 hq14) (mkS hts wd_590 wd_591 wd_5 wd_592 rfl rfl hd_X3_minus ⟨Nat.le_of_ble_eq_true rfl, Nat.le_of_ble_eq_true rfl⟩) rfl hl.1 rfl (Nat.le_of_ble_eq_true rfl) dX3_worthOf_184 ⟨Nat.zero_le _, Nat.zero_le _⟩ rfl (fun H locs hP hD hS => ?_)
              obtain ⟨c15, h⟩ := f_n h
              refine va_last hx hb hK hP hD hS _ 1 (hg_8 G Z Y σ1) rfl c15 dX3_worthOf_187 (fun H locs hP hD hS => ?_)
              have hP := wrP (hp_8 G Z Y σ1 _ _) hP
              have hD := wrD (hp_8 G Z Y σ1 _ _) hD
              refine lv_iinc (v := (z7 + 1)) (lv' := [(7, .int (z7 + 1)), (13, .long q11), (11, .long (σ1.2.1 8 (((z4 + (-1 : Int32)) : Int32).toNatClampNeg))), (9, .long (σ1.2.1 8 ((((z4 + (-1 : Int32)) - (1 : Int32)) : Int32).toNatClampNeg))), (4, .int (z4 + (-1 : Int32))), (8, .int (Z.2.2.1 (r1 + 1000) (z7 : Int32).toNatClampNeg)), (0, .ref (G.2.1 7)), (2, .long y2), (5, .ref (G.2.1 (r1 + 1000))), (6, .int y6)]) hx hb dX3_worthOf_188 hl (k := 9) rfl rfl (by decide) rfl (fun ls hl => ?_)
              refine lv_goto (tgt := 17) hx hb dX3_worthOf_191 (by decide) ?_
              exact ih (sJ σ1 8 ((((z4 + (-1 : Int32)) - (1 : Int32)) : Int32).toNatClampNeg) q14) (z4 + (-1 : Int32)) (z7 + 1) h _ _ _ hP hD hS (lv_sub hl [6, 7, 4, 8, 9, 0] rfl)
            · skip
              have h := f_t c12 h
              refine lv_lload hx hb dX3_worthOf_168 (lv_at hl 0 rfl) ?_
              refine lv_goto (tgt := 187) hx hb dX3_worthOf_170 (by decide) ?_
              obtain ⟨c16, h⟩ := f_n h
              refine va_last hx hb hK hP hD hS _ 1 (hg_8 G Z Y σ1) rfl c16 dX3_worthOf_187 (fun H locs hP hD hS => ?_)
              have hP := wrP (hp_8 G Z Y σ1 _ _) hP
              have hD := wrD (hp_8 G Z Y σ1 _ _) hD
              refine lv_iinc (v := (z7 + 1)) (lv' := [(7, .int (z7 + 1)), (13, .long q11), (11, .long (σ1.2.1 8 (((z4 + (-1 : Int32)) : Int32).toNatClampNeg))), (9, .long (σ1.2.1 8 ((((z4 + (-1 : Int32)) - (1 : Int32)) : Int32).toNatClampNeg))), (4, .int (z4 + (-1 : Int32))), (8, .int (Z.2.2.1 (r1 + 1000) (z7 : Int32).toNatClampNeg)), (0, .ref (G.2.1 7)), (2, .long y2), (5, .ref (G.2.1 (r1 + 1000))), (6, .int y6)]) hx hb dX3_worthOf_188 hl (k := 9) rfl rfl (by decide) rfl (fun ls hl => ?_)
              refine lv_goto (tgt := 17) hx hb dX3_worthOf_191 (by decide) ?_
              exact ih (sJ σ1 8 ((((z4 + (-1 : Int32)) - (1 : Int32)) : Int32).toNatClampNeg) q11) (z4 + (-1 : Int32)) (z7 + 1) h _ _ _ hP hD hS (lv_sub hl [6, 7, 4, 8, 9, 0] rfl)
        · skip
          have h := f_t c7 h
          refine lv_iload hx hb dX3_worthOf_83 (lv_at hl 3 rfl) ?_
          refine lv_if_le (tgt := 188) hx hb dX3_worthOf_85 (by decide) (fun c17 => ?_) (fun c17 => ?_)
          · skip
            have h := f_t c17 h
            refine lv_iinc (v := (z7 + 1)) (lv' := [(7, .int (z7 + 1)), (8, .int (Z.2.2.1 (r1 + 1000) (z7 : Int32).toNatClampNeg)), (0, .ref (G.2.1 7)), (2, .long y2), (4, .int z4), (5, .ref (G.2.1 (r1 + 1000))), (6, .int y6)]) hx hb dX3_worthOf_188 hl (k := 6) rfl rfl (by decide) rfl (fun ls hl => ?_)
            refine lv_goto (tgt := 17) hx hb dX3_worthOf_191 (by decide) ?_
            exact ih σ1 z4 (z7 + 1) h _ _ _ hP hD hS (lv_sub hl [2, 3, 4, 5, 6, 0] rfl)
          · skip
            have h := f_f c17 h
            refine lv_aload_n hx hb dX3_worthOf_88 rfl (lv_at hl 1 rfl) ?_
            refine va_get (D := D) (ci := 4) (v := .ref (G.2.1 8)) (C := RX3) (T := TX3) (N := 4) hx hb hts inU_X3 hown hK hP _ (hg_7 G Z Y σ1) rfl 0 (by decide) (hts _ wd_107) (fun _ h9 => h9) rfl dX3_worthOf_89 ?_
            refine lv_iload hx hb dX3_worthOf_92 (lv_at hl 3 rfl) ?_
            refine lv_iconst (v := 1) hx hb dX3_worthOf_94 (by decide) ?_
            refine lv_isub hx hb dX3_worthOf_95 ?_
            refine lv_lconst (v := 1) hx hb dX3_worthOf_96 (by decide) ?_
            refine lv_aload_n hx hb dX3_worthOf_97 rfl (lv_at hl 1 rfl) ?_
            refine va_get (D := D) (ci := 4) (v := .ref (G.2.1 8)) (C := RX3) (T := TX3) (N := 4) hx hb hts inU_X3 hown hK hP _ (hg_7 G Z Y σ1) rfl 0 (by decide) (hts _ wd_107) (fun _ h9 => h9) rfl dX3_worthOf_98 ?_
            refine lv_iload hx hb dX3_worthOf_101 (lv_at hl 3 rfl) ?_
            refine lv_iconst (v := 1) hx hb dX3_worthOf_103 (by decide) ?_
            refine lv_isub hx hb dX3_worthOf_104 ?_
            obtain ⟨c18, h⟩ := f_n h
            refine va_laldE (v := (σ1.2.1 8 (((z4 - (1 : Int32)) : Int32).toNatClampNeg))) hx hb hK hP _ 1 (hg_8 G Z Y σ1) rfl c18 dX3_worthOf_105 rfl ?_
            refine lv_lload_n hx hb dX3_worthOf_106 rfl (lv_at hl 2 rfl) ?_
            obtain ⟨q19, hq19, h⟩ := f_b h
            refine cl_S (w := (hW G Z Y σ1)) (w' := (hW G Z Y σ1)) (rv := some (.long q19)) (bytes := cX3_minus) (maxL := 6) (ret := (some .long)) (As := [.long (1 : Int64), .long (σ1.2.1 8 (((z4 - (1 : Int32)) : Int32).toNatClampNeg)), .long y2]) (rest := [.int (z4 - (1 : Int32)), .ref (G.2.1 8)]) (stk := [.long q19, .int (z4 - (1 : Int32)), .ref (G.2.1 8)]) ⟨hx, hb, hml, hown, hts⟩ hK hE hA hP hD hS (c_X3_minus l D G (hW G Z Y σ1) (1 : Int64) (σ1.2.1 8 (((z4 - (1 : Int32)) : Int32).toNatClampNeg)) y2 q19 hq19) (mkS hts wd_590 wd_591 wd_5 wd_592 rfl rfl hd_X3_minus ⟨Nat.le_of_ble_eq_true rfl, Nat.le_of_ble_eq_true rfl⟩) rfl hl.1 rfl (Nat.le_of_ble_eq_true rfl) dX3_worthOf_107 ⟨Nat.zero_le _, Nat.zero_le _⟩ rfl (fun H locs hP hD hS => ?_)
            obtain ⟨c20, h⟩ := f_n h
            refine va_last hx hb hK hP hD hS _ 1 (hg_8 G Z Y σ1) rfl c20 dX3_worthOf_110 (fun H locs hP hD hS => ?_)
            have hP := wrP (hp_8 G Z Y σ1 _ _) hP
            have hD := wrD (hp_8 G Z Y σ1 _ _) hD
            refine lv_goto (tgt := 188) hx hb dX3_worthOf_111 (by decide) ?_
            refine lv_iinc (v := (z7 + 1)) (lv' := [(7, .int (z7 + 1)), (8, .int (Z.2.2.1 (r1 + 1000) (z7 : Int32).toNatClampNeg)), (0, .ref (G.2.1 7)), (2, .long y2), (4, .int z4), (5, .ref (G.2.1 (r1 + 1000))), (6, .int y6)]) hx hb dX3_worthOf_188 hl (k := 6) rfl rfl (by decide) rfl (fun ls hl => ?_)
            refine lv_goto (tgt := 17) hx hb dX3_worthOf_191 (by decide) ?_
            exact ih (sJ σ1 8 (((z4 - (1 : Int32)) : Int32).toNatClampNeg) q19) z4 (z7 + 1) h _ _ _ hP hD hS (lv_sub hl [2, 3, 4, 5, 6, 0] rfl)
      · skip
        have h := f_f c6 h
        refine lv_iload hx hb dX3_worthOf_36 (lv_at hl 0 rfl) ?_
        refine lv_aload_n hx hb dX3_worthOf_38 rfl (lv_at hl 1 rfl) ?_
        refine va_get (D := D) (ci := 4) (v := .ref (G.2.1 9)) (C := RX3) (T := TX3) (N := 4) hx hb hts inU_X3 hown hK hP _ (hg_7 G Z Y σ1) rfl 1 (by decide) (hts _ wd_108) (fun _ h9 => h9) rfl dX3_worthOf_39 ?_
        refine va_alen (ty := .long) (v := (6 : Int32)) hx hb hK hP _ 1 (hg_9 G Z Y σ1) rfl rfl dX3_worthOf_42 ?_
        refine lv_icmp_ge (tgt := 76) hx hb dX3_worthOf_43 (by decide) (fun c21 => ?_) (fun c21 => ?_)
        · skip
          have h := f_t c21 h
          refine lv_iload hx hb dX3_worthOf_76 (lv_at hl 0 rfl) ?_
          refine lv_bipush (v := 6) hx hb dX3_worthOf_78 (by decide) ?_
          refine lv_icmp_ne (tgt := 114) hx hb dX3_worthOf_80 (by decide) (fun c22 => ?_) (fun c22 => ?_)
          · skip
            have h := f_f c22 h
            refine lv_iload hx hb dX3_worthOf_114 (lv_at hl 3 rfl) ?_
            refine lv_iconst (v := 1) hx hb dX3_worthOf_116 (by decide) ?_
            refine lv_icmp_le (tgt := 188) hx hb dX3_worthOf_117 (by decide) (fun c23 => ?_) (fun c23 => ?_)
            · skip
              have h := f_t c23 h
              refine lv_iinc (v := (z7 + 1)) (lv' := [(7, .int (z7 + 1)), (8, .int (Z.2.2.1 (r1 + 1000) (z7 : Int32).toNatClampNeg)), (0, .ref (G.2.1 7)), (2, .long y2), (4, .int z4), (5, .ref (G.2.1 (r1 + 1000))), (6, .int y6)]) hx hb dX3_worthOf_188 hl (k := 6) rfl rfl (by decide) rfl (fun ls hl => ?_)
              refine lv_goto (tgt := 17) hx hb dX3_worthOf_191 (by decide) ?_
              exact ih σ1 z4 (z7 + 1) h _ _ _ hP hD hS (lv_sub hl [2, 3, 4, 5, 6, 0] rfl)
            · skip
              have h := f_f c23 h
              refine lv_iinc (v := (z4 + (-1 : Int32))) (lv' := [(4, .int (z4 + (-1 : Int32))), (8, .int (Z.2.2.1 (r1 + 1000) (z7 : Int32).toNatClampNeg)), (0, .ref (G.2.1 7)), (2, .long y2), (5, .ref (G.2.1 (r1 + 1000))), (6, .int y6), (7, .int z7)]) hx hb dX3_worthOf_120 hl (k := 3) rfl rfl (by decide) rfl (fun ls hl => ?_)
              refine lv_aload_n hx hb dX3_worthOf_123 rfl (lv_at hl 2 rfl) ?_
              refine va_get (D := D) (ci := 4) (v := .ref (G.2.1 8)) (C := RX3) (T := TX3) (N := 4) hx hb hts inU_X3 hown hK hP _ (hg_7 G Z Y σ1) rfl 0 (by decide) (hts _ wd_107) (fun _ h9 => h9) rfl dX3_worthOf_124 ?_
              refine lv_iload hx hb dX3_worthOf_127 (lv_at hl 0 rfl) ?_
              refine lv_iconst (v := 1) hx hb dX3_worthOf_129 (by decide) ?_
              refine lv_isub hx hb dX3_worthOf_130 ?_
              obtain ⟨c24, h⟩ := f_n h
              refine va_laldE (v := (σ1.2.1 8 ((((z4 + (-1 : Int32)) - (1 : Int32)) : Int32).toNatClampNeg))) hx hb hK hP _ 1 (hg_8 G Z Y σ1) rfl c24 dX3_worthOf_131 rfl ?_
              refine lv_lstore (lv' := [(9, .long (σ1.2.1 8 ((((z4 + (-1 : Int32)) - (1 : Int32)) : Int32).toNatClampNeg))), (4, .int (z4 + (-1 : Int32))), (8, .int (Z.2.2.1 (r1 + 1000) (z7 : Int32).toNatClampNeg)), (0, .ref (G.2.1 7)), (2, .long y2), (5, .ref (G.2.1 (r1 + 1000))), (6, .int y6), (7, .int z7)]) hx hb dX3_worthOf_132 hl (by decide) rfl (fun ls hl => ?_)
              refine lv_aload_n hx hb dX3_worthOf_134 rfl (lv_at hl 3 rfl) ?_
              refine va_get (D := D) (ci := 4) (v := .ref (G.2.1 8)) (C := RX3) (T := TX3) (N := 4) hx hb hts inU_X3 hown hK hP _ (hg_7 G Z Y σ1) rfl 0 (by decide) (hts _ wd_107) (fun _ h9 => h9) rfl dX3_worthOf_135 ?_
              refine lv_iload hx hb dX3_worthOf_138 (lv_at hl 1 rfl) ?_
              obtain ⟨c25, h⟩ := f_n h
              refine va_laldE (v := (σ1.2.1 8 (((z4 + (-1 : Int32)) : Int32).toNatClampNeg))) hx hb hK hP _ 1 (hg_8 G Z Y σ1) rfl c25 dX3_worthOf_140 rfl ?_
              refine lv_lstore (lv' := [(11, .long (σ1.2.1 8 (((z4 + (-1 : Int32)) : Int32).toNatClampNeg))), (9, .long (σ1.2.1 8 ((((z4 + (-1 : Int32)) - (1 : Int32)) : Int32).toNatClampNeg))), (4, .int (z4 + (-1 : Int32))), (8, .int (Z.2.2.1 (r1 + 1000) (z7 : Int32).toNatClampNeg)), (0, .ref (G.2.1 7)), (2, .long y2), (5, .ref (G.2.1 (r1 + 1000))), (6, .int y6), (7, .int z7)]) hx hb dX3_worthOf_141 hl (by decide) rfl (fun ls hl => ?_)
              refine lv_lload hx hb dX3_worthOf_143 (lv_at hl 1 rfl) ?_
              refine lv_lload hx hb dX3_worthOf_145 (lv_at hl 0 rfl) ?_
              refine lv_lload_n hx hb dX3_worthOf_147 rfl (lv_at hl 5 rfl) ?_
              obtain ⟨q26, hq26, h⟩ := f_b h
              refine cl_S (w := (hW G Z Y σ1)) (w' := (hW G Z Y σ1)) (rv := some (.long q26)) (bytes := cX3_times) (maxL := 6) (ret := (some .long)) (As := [.long (σ1.2.1 8 ((((z4 + (-1 : Int32)) - (1 : Int32)) : Int32).toNatClampNeg)), .long (σ1.2.1 8 (((z4 + (-1 : Int32)) : Int32).toNatClampNeg)), .long y2]) (rest := []) (stk := [.long q26]) ⟨hx, hb, hml, hown, hts⟩ hK hE hA hP hD hS (c_X3_times l D G (hW G Z Y σ1) (σ1.2.1 8 ((((z4 + (-1 : Int32)) - (1 : Int32)) : Int32).toNatClampNeg)) (σ1.2.1 8 (((z4 + (-1 : Int32)) : Int32).toNatClampNeg)) y2 q26 hq26) (mkS hts wd_593 wd_594 wd_5 wd_595 rfl rfl hd_X3_times ⟨Nat.le_of_ble_eq_true rfl, Nat.le_of_ble_eq_true rfl⟩) rfl hl.1 rfl (Nat.le_of_ble_eq_true rfl) dX3_worthOf_148 ⟨Nat.zero_le _, Nat.zero_le _⟩ rfl (fun H locs hP hD hS => ?_)
              refine lv_lstore (lv' := [(13, .long q26), (11, .long (σ1.2.1 8 (((z4 + (-1 : Int32)) : Int32).toNatClampNeg))), (9, .long (σ1.2.1 8 ((((z4 + (-1 : Int32)) - (1 : Int32)) : Int32).toNatClampNeg))), (4, .int (z4 + (-1 : Int32))), (8, .int (Z.2.2.1 (r1 + 1000) (z7 : Int32).toNatClampNeg)), (0, .ref (G.2.1 7)), (2, .long y2), (5, .ref (G.2.1 (r1 + 1000))), (6, .int y6), (7, .int z7)]) hx hb dX3_worthOf_151 hl (by decide) rfl (fun ls hl => ?_)
              refine lv_aload_n hx hb dX3_worthOf_153 rfl (lv_at hl 5 rfl) ?_
              refine va_get (D := D) (ci := 4) (v := .ref (G.2.1 8)) (C := RX3) (T := TX3) (N := 4) hx hb hts inU_X3 hown hK hP _ (hg_7 G Z Y σ1) rfl 0 (by decide) (hts _ wd_107) (fun _ h9 => h9) rfl dX3_worthOf_154 ?_
              refine lv_iload hx hb dX3_worthOf_157 (lv_at hl 3 rfl) ?_
              refine lv_iconst (v := 1) hx hb dX3_worthOf_159 (by decide) ?_
              refine lv_isub hx hb dX3_worthOf_160 ?_
              refine lv_iload hx hb dX3_worthOf_161 (lv_at hl 4 rfl) ?_
              refine lv_bipush (v := 7) hx hb dX3_worthOf_163 (by decide) ?_
              refine lv_icmp_ne (tgt := 173) hx hb dX3_worthOf_165 (by decide) (fun c27 => ?_) (fun c27 => ?_)
              · skip
                have h := f_f c27 h
                refine lv_lload hx hb dX3_worthOf_173 (lv_at hl 2 rfl) ?_
                refine lv_lload hx hb dX3_worthOf_175 (lv_at hl 1 rfl) ?_
                refine lv_lload_n hx hb dX3_worthOf_177 rfl (lv_at hl 6 rfl) ?_
                obtain ⟨q28, hq28, h⟩ := f_b h
                refine cl_S (w := (hW G Z Y σ1)) (w' := (hW G Z Y σ1)) (rv := some (.long q28)) (bytes := cX3_plus) (maxL := 8) (ret := (some .long)) (As := [.long (σ1.2.1 8 ((((z4 + (-1 : Int32)) - (1 : Int32)) : Int32).toNatClampNeg)), .long (σ1.2.1 8 (((z4 + (-1 : Int32)) : Int32).toNatClampNeg)), .long y2]) (rest := [.int ((z4 + (-1 : Int32)) - (1 : Int32)), .ref (G.2.1 8)]) (stk := [.long q28, .int ((z4 + (-1 : Int32)) - (1 : Int32)), .ref (G.2.1 8)]) ⟨hx, hb, hml, hown, hts⟩ hK hE hA hP hD hS (c_X3_plus l D G (hW G Z Y σ1) (σ1.2.1 8 ((((z4 + (-1 : Int32)) - (1 : Int32)) : Int32).toNatClampNeg)) (σ1.2.1 8 (((z4 + (-1 : Int32)) : Int32).toNatClampNeg)) y2 q28 hq28) (mkS hts wd_597 wd_598 wd_5 wd_599 rfl rfl hd_X3_plus ⟨Nat.le_of_ble_eq_true rfl, Nat.le_of_ble_eq_true rfl⟩) rfl hl.1 rfl (Nat.le_of_ble_eq_true rfl) dX3_worthOf_178 ⟨Nat.zero_le _, Nat.zero_le _⟩ rfl (fun H locs hP hD hS => ?_)
                refine lv_lload hx hb dX3_worthOf_181 (lv_at hl 0 rfl) ?_
                refine lv_lload_n hx hb dX3_worthOf_183 rfl (lv_at hl 6 rfl) ?_
                obtain ⟨q29, hq29, h⟩ := f_b h
                refine cl_S (w := (hW G Z Y σ1)) (w' := (hW G Z Y σ1)) (rv := some (.long q29)) (bytes := cX3_minus) (maxL := 6) (ret := (some .long)) (As := [.long q28, .long q26, .long y2]) (rest := [.int ((z4 + (-1 : Int32)) - (1 : Int32)), .ref (G.2.1 8)]) (stk := [.long q29, .int ((z4 + (-1 : Int32)) - (1 : Int32)), .ref (G.2.1 8)]) ⟨hx, hb, hml, hown, hts⟩ hK hE hA hP hD hS (c_X3_minus l D G (hW G Z Y σ1) q28 q26 y2 q29 hq29) (mkS hts wd_590 wd_591 wd_5 wd_592 rfl rfl hd_X3_minus ⟨Nat.le_of_ble_eq_true rfl, Nat.le_of_ble_eq_true rfl⟩) rfl hl.1 rfl (Nat.le_of_ble_eq_true rfl) dX3_worthOf_184 ⟨Nat.zero_le _, Nat.zero_le _⟩ rfl (fun H locs hP hD hS => ?_)
                obtain ⟨c30, h⟩ := f_n h
                refine va_last hx hb hK hP hD hS _ 1 (hg_8 G Z Y σ1) rfl c30 dX3_worthOf_187 (fun H locs hP hD hS => ?_)
                have hP := wrP (hp_8 G Z Y σ1 _ _) hP
                have hD := wrD (hp_8 G Z Y σ1 _ _) hD
                refine lv_iinc (v := (z7 + 1)) (lv' := [(7, .int (z7 + 1)), (13, .long q26), (11, .long (σ1.2.1 8 (((z4 + (-1 : Int32)) : Int32).toNatClampNeg))), (9, .long (σ1.2.1 8 ((((z4 + (-1 : Int32)) - (1 : Int32)) : Int32).toNatClampNeg))), (4, .int (z4 + (-1 : Int32))), (8, .int (Z.2.2.1 (r1 + 1000) (z7 : Int32).toNatClampNeg)), (0, .ref (G.2.1 7)), (2, .long y2), (5, .ref (G.2.1 (r1 + 1000))), (6, .int y6)]) hx hb dX3_worthOf_188 hl (k := 9) rfl rfl (by decide) rfl (fun ls hl => ?_)
                refine lv_goto (tgt := 17) hx hb dX3_worthOf_191 (by decide) ?_
                exact ih (sJ σ1 8 ((((z4 + (-1 : Int32)) - (1 : Int32)) : Int32).toNatClampNeg) q29) (z4 + (-1 : Int32)) (z7 + 1) h _ _ _ hP hD hS (lv_sub hl [6, 7, 4, 8, 9, 0] rfl)
              · skip
                have h := f_t c27 h
                refine lv_lload hx hb dX3_worthOf_168 (lv_at hl 0 rfl) ?_
                refine lv_goto (tgt := 187) hx hb dX3_worthOf_170 (by decide) ?_
                obtain ⟨c31, h⟩ := f_n h
                refine va_last hx hb hK hP hD hS _ 1 (hg_8 G Z Y σ1) rfl c31 dX3_worthOf_187 (fun H locs hP hD hS => ?_)
                have hP := wrP (hp_8 G Z Y σ1 _ _) hP
                have hD := wrD (hp_8 G Z Y σ1 _ _) hD
                refine lv_iinc (v := (z7 + 1)) (lv' := [(7, .int (z7 + 1)), (13, .long q26), (11, .long (σ1.2.1 8 (((z4 + (-1 : Int32)) : Int32).toNatClampNeg))), (9, .long (σ1.2.1 8 ((((z4 + (-1 : Int32)) - (1 : Int32)) : Int32).toNatClampNeg))), (4, .int (z4 + (-1 : Int32))), (8, .int (Z.2.2.1 (r1 + 1000) (z7 : Int32).toNatClampNeg)), (0, .ref (G.2.1 7)), (2, .long y2), (5, .ref (G.2.1 (r1 + 1000))), (6, .int y6)]) hx hb dX3_worthOf_188 hl (k := 9) rfl rfl (by decide) rfl (fun ls hl => ?_)
                refine lv_goto (tgt := 17) hx hb dX3_worthOf_191 (by decide) ?_
                exact ih (sJ σ1 8 ((((z4 + (-1 : Int32)) - (1 : Int32)) : Int32).toNatClampNeg) q26) (z4 + (-1 : Int32)) (z7 + 1) h _ _ _ hP hD hS (lv_sub hl [6, 7, 4, 8, 9, 0] rfl)
          · skip
            have h := f_t c22 h
            refine lv_iload hx hb dX3_worthOf_83 (lv_at hl 3 rfl) ?_
            refine lv_if_le (tgt := 188) hx hb dX3_worthOf_85 (by decide) (fun c32 => ?_) (fun c32 => ?_)
            · skip
              have h := f_t c32 h
              refine lv_iinc (v := (z7 + 1)) (lv' := [(7, .int (z7 + 1)), (8, .int (Z.2.2.1 (r1 + 1000) (z7 : Int32).toNatClampNeg)), (0, .ref (G.2.1 7)), (2, .long y2), (4, .int z4), (5, .ref (G.2.1 (r1 + 1000))), (6, .int y6)]) hx hb dX3_worthOf_188 hl (k := 6) rfl rfl (by decide) rfl (fun ls hl => ?_)
              refine lv_goto (tgt := 17) hx hb dX3_worthOf_191 (by decide) ?_
              exact ih σ1 z4 (z7 + 1) h _ _ _ hP hD hS (lv_sub hl [2, 3, 4, 5, 6, 0] rfl)
            · skip
              have h := f_f c32 h
              refine lv_aload_n hx hb dX3_worthOf_88 rfl (lv_at hl 1 rfl) ?_
              refine va_get (D := D) (ci := 4) (v := .ref (G.2.1 8)) (C := RX3) (T := TX3) (N := 4) hx hb hts inU_X3 hown hK hP _ (hg_7 G Z Y σ1) rfl 0 (by decide) (hts _ wd_107) (fun _ h9 => h9) rfl dX3_worthOf_89 ?_
              refine lv_iload hx hb dX3_worthOf_92 (lv_at hl 3 rfl) ?_
              refine lv_iconst (v := 1) hx hb dX3_worthOf_94 (by decide) ?_
              refine lv_isub hx hb dX3_worthOf_95 ?_
              refine lv_lconst (v := 1) hx hb dX3_worthOf_96 (by decide) ?_
              refine lv_aload_n hx hb dX3_worthOf_97 rfl (lv_at hl 1 rfl) ?_
              refine va_get (D := D) (ci := 4) (v := .ref (G.2.1 8)) (C := RX3) (T := TX3) (N := 4) hx hb hts inU_X3 hown hK hP _ (hg_7 G Z Y σ1) rfl 0 (by decide) (hts _ wd_107) (fun _ h9 => h9) rfl dX3_worthOf_98 ?_
              refine lv_iload hx hb dX3_worthOf_101 (lv_at hl 3 rfl) ?_
              refine lv_iconst (v := 1) hx hb dX3_worthOf_103 (by decide) ?_
              refine lv_isub hx hb dX3_worthOf_104 ?_
              obtain ⟨c33, h⟩ := f_n h
              refine va_laldE (v := (σ1.2.1 8 (((z4 - (1 : Int32)) : Int32).toNatClampNeg))) hx hb hK hP _ 1 (hg_8 G Z Y σ1) rfl c33 dX3_worthOf_105 rfl ?_
              refine lv_lload_n hx hb dX3_worthOf_106 rfl (lv_at hl 2 rfl) ?_
              obtain ⟨q34, hq34, h⟩ := f_b h
              refine cl_S (w := (hW G Z Y σ1)) (w' := (hW G Z Y σ1)) (rv := some (.long q34)) (bytes := cX3_minus) (maxL := 6) (ret := (some .long)) (As := [.long (1 : Int64), .long (σ1.2.1 8 (((z4 - (1 : Int32)) : Int32).toNatClampNeg)), .long y2]) (rest := [.int (z4 - (1 : Int32)), .ref (G.2.1 8)]) (stk := [.long q34, .int (z4 - (1 : Int32)), .ref (G.2.1 8)]) ⟨hx, hb, hml, hown, hts⟩ hK hE hA hP hD hS (c_X3_minus l D G (hW G Z Y σ1) (1 : Int64) (σ1.2.1 8 (((z4 - (1 : Int32)) : Int32).toNatClampNeg)) y2 q34 hq34) (mkS hts wd_590 wd_591 wd_5 wd_592 rfl rfl hd_X3_minus ⟨Nat.le_of_ble_eq_true rfl, Nat.le_of_ble_eq_true rfl⟩) rfl hl.1 rfl (Nat.le_of_ble_eq_true rfl) dX3_worthOf_107 ⟨Nat.zero_le _, Nat.zero_le _⟩ rfl (fun H locs hP hD hS => ?_)
              obtain ⟨c35, h⟩ := f_n h
              refine va_last hx hb hK hP hD hS _ 1 (hg_8 G Z Y σ1) rfl c35 dX3_worthOf_110 (fun H locs hP hD hS => ?_)
              have hP := wrP (hp_8 G Z Y σ1 _ _) hP
              have hD := wrD (hp_8 G Z Y σ1 _ _) hD
              refine lv_goto (tgt := 188) hx hb dX3_worthOf_111 (by decide) ?_
              refine lv_iinc (v := (z7 + 1)) (lv' := [(7, .int (z7 + 1)), (8, .int (Z.2.2.1 (r1 + 1000) (z7 : Int32).toNatClampNeg)), (0, .ref (G.2.1 7)), (2, .long y2), (4, .int z4), (5, .ref (G.2.1 (r1 + 1000))), (6, .int y6)]) hx hb dX3_worthOf_188 hl (k := 6) rfl rfl (by decide) rfl (fun ls hl => ?_)
              refine lv_goto (tgt := 17) hx hb dX3_worthOf_191 (by decide) ?_
              exact ih (sJ σ1 8 (((z4 - (1 : Int32)) : Int32).toNatClampNeg) q34) z4 (z7 + 1) h _ _ _ hP hD hS (lv_sub hl [2, 3, 4, 5, 6, 0] rfl)
        · skip
          have h := f_f c21 h
          refine lv_iload hx hb dX3_worthOf_46 (lv_at hl 3 rfl) ?_
          refine lv_aload_n hx hb dX3_worthOf_48 rfl (lv_at hl 1 rfl) ?_
          refine va_get (D := D) (ci := 4) (v := .ref (G.2.1 8)) (C := RX3) (T := TX3) (N := 4) hx hb hts inU_X3 hown hK hP _ (hg_7 G Z Y σ1) rfl 0 (by decide) (hts _ wd_107) (fun _ h9 => h9) rfl dX3_worthOf_49 ?_
          refine va_alen (ty := .long) (v := (64 : Int32)) hx hb hK hP _ 1 (hg_8 G Z Y σ1) rfl rfl dX3_worthOf_52 ?_
          refine lv_icmp_ge (tgt := 188) hx hb dX3_worthOf_53 (by decide) (fun c36 => ?_) (fun c36 => ?_)
          · skip
            have h := f_t c36 h
            refine lv_iinc (v := (z7 + 1)) (lv' := [(7, .int (z7 + 1)), (8, .int (Z.2.2.1 (r1 + 1000) (z7 : Int32).toNatClampNeg)), (0, .ref (G.2.1 7)), (2, .long y2), (4, .int z4), (5, .ref (G.2.1 (r1 + 1000))), (6, .int y6)]) hx hb dX3_worthOf_188 hl (k := 6) rfl rfl (by decide) rfl (fun ls hl => ?_)
            refine lv_goto (tgt := 17) hx hb dX3_worthOf_191 (by decide) ?_
            exact ih σ1 z4 (z7 + 1) h _ _ _ hP hD hS (lv_sub hl [2, 3, 4, 5, 6, 0] rfl)
          · skip
            have h := f_f c36 h
            refine lv_aload_n hx hb dX3_worthOf_56 rfl (lv_at hl 1 rfl) ?_
            refine va_get (D := D) (ci := 4) (v := .ref (G.2.1 8)) (C := RX3) (T := TX3) (N := 4) hx hb hts inU_X3 hown hK hP _ (hg_7 G Z Y σ1) rfl 0 (by decide) (hts _ wd_107) (fun _ h9 => h9) rfl dX3_worthOf_57 ?_
            refine lv_iload hx hb dX3_worthOf_60 (lv_at hl 3 rfl) ?_
            refine lv_aload_n hx hb dX3_worthOf_62 rfl (lv_at hl 1 rfl) ?_
            refine va_get (D := D) (ci := 4) (v := .ref (G.2.1 9)) (C := RX3) (T := TX3) (N := 4) hx hb hts inU_X3 hown hK hP _ (hg_7 G Z Y σ1) rfl 1 (by decide) (hts _ wd_108) (fun _ h9 => h9) rfl dX3_worthOf_63 ?_
            refine lv_iload hx hb dX3_worthOf_66 (lv_at hl 0 rfl) ?_
            obtain ⟨c37, h⟩ := f_n h
            refine va_laldE (v := (σ1.2.1 9 (((Z.2.2.1 (r1 + 1000) (z7 : Int32).toNatClampNeg) : Int32).toNatClampNeg))) hx hb hK hP _ 1 (hg_9 G Z Y σ1) rfl c37 dX3_worthOf_68 rfl ?_
            obtain ⟨c38, h⟩ := f_n h
            refine va_last hx hb hK hP hD hS _ 1 (hg_8 G Z Y σ1) rfl c38 dX3_worthOf_69 (fun H locs hP hD hS => ?_)
            have hP := wrP (hp_8 G Z Y σ1 _ _) hP
            have hD := wrD (hp_8 G Z Y σ1 _ _) hD
            refine lv_iinc (v := (z4 + 1)) (lv' := [(4, .int (z4 + 1)), (8, .int (Z.2.2.1 (r1 + 1000) (z7 : Int32).toNatClampNeg)), (0, .ref (G.2.1 7)), (2, .long y2), (5, .ref (G.2.1 (r1 + 1000))), (6, .int y6), (7, .int z7)]) hx hb dX3_worthOf_70 hl (k := 3) rfl rfl (by decide) rfl (fun ls hl => ?_)
            refine lv_goto (tgt := 188) hx hb dX3_worthOf_73 (by decide) ?_
            refine lv_iinc (v := (z7 + 1)) (lv' := [(7, .int (z7 + 1)), (4, .int (z4 + 1)), (8, .int (Z.2.2.1 (r1 + 1000) (z7 : Int32).toNatClampNeg)), (0, .ref (G.2.1 7)), (2, .long y2), (5, .ref (G.2.1 (r1 + 1000))), (6, .int y6)]) hx hb dX3_worthOf_188 hl (k := 6) rfl rfl (by decide) rfl (fun ls hl => ?_)
            refine lv_goto (tgt := 17) hx hb dX3_worthOf_191 (by decide) ?_
            exact ih (sJ σ1 8 ((z4 : Int32).toNatClampNeg) (σ1.2.1 9 (((Z.2.2.1 (r1 + 1000) (z7 : Int32).toNatClampNeg) : Int32).toNatClampNeg))) (z4 + 1) (z7 + 1) h _ _ _ hP hD hS (lv_sub hl [3, 4, 1, 5, 6, 0] rfl)
set_option maxRecDepth 100000 in
set_option maxHeartbeats 8000000 in
theorem c_X3_worthOf (l : Launch) (D : va_G) (G : hG) (Z : hZ) (Y : va_W) (σ0 : hSt) (F : Nat) (r1 : Nat) (hr1 : isSa Z r1 = true) (x2 : Int64) (res : (Int64 × hSt)) (h : f_X3_worthOf F Z σ0 r1 x2 = some res) : CT l yX3_worthOf cX3_worthOf 15 (some .long) rm_X3_worthOf D G 0 0 [.ref (G.2.1 7), .ref (G.2.1 r1), .long x2] (hW G Z Y σ0) (hW G Z Y res.2) (some (.long res.1)) := by
  unfold f_X3_worthOf at h
  refine CT.mk (cc := cX3_worthOf) (maxL := 15) (ret := (some .long)) (own := RX3) (plainFor_of_name (by decide)) rfl (Nat.le_of_ble_eq_true rfl) ?_
  intro p e s m args below meth c A ls C0 hnm hA hP hD hl
  obtain ⟨hx, hb, hr, hml, hown, hts, hlocks, hK, hE⟩ := id C0
  have hS : va_S A s.heap s.heap [] := va_S.rf
  have hl : lv_has ls 15 [(0, .ref (G.2.1 7)), (1, .ref (G.2.1 r1)), (2, .long x2)] := hl
  refine lv_iconst (v := 0) hx hb dX3_worthOf_0 (by decide) ?_
  refine lv_istore (lv' := [(4, .int (0 : Int32)), (0, .ref (G.2.1 7)), (1, .ref (G.2.1 r1)), (2, .long x2)]) hx hb dX3_worthOf_1 hl (by decide) rfl (fun ls hl => ?_)
  refine lv_aload_n hx hb dX3_worthOf_3 rfl (lv_at hl 2 rfl) ?_
  obtain ⟨qq1, hq1⟩ := hg_Sa G Z Y σ0 hr1
  refine va_getN (D := D) (ci := 5) (v := .ref (G.2.1 (r1 + 1000))) (C := RX4) (T := TX4) (N := 5) hx hb hts inU_X4 hown hK hP _ hq1 rfl 0 (by decide) (nF_use 10 hE rfl) (fun _ h9 => h9) rfl dX3_worthOf_4 ?_
  refine lv_astore (lv' := [(5, .ref (G.2.1 (r1 + 1000))), (4, .int (0 : Int32)), (0, .ref (G.2.1 7)), (1, .ref (G.2.1 r1)), (2, .long x2)]) hx hb dX3_worthOf_7 hl (by decide) rfl (fun ls hl => ?_)
  refine lv_aload hx hb dX3_worthOf_9 (lv_at hl 0 rfl) ?_
  obtain ⟨qq2, hq2⟩ := hg_Ar G Z Y σ0 (isSa_code hr1)
  refine va_alen (ty := .int) (v := (Int32.ofNat (Z.2.1 (r1 + 1000)))) hx hb hK hP _ 0 hq2 rfl rfl dX3_worthOf_11 ?_
  refine lv_istore (lv' := [(6, .int (Int32.ofNat (Z.2.1 (r1 + 1000)))), (5, .ref (G.2.1 (r1 + 1000))), (4, .int (0 : Int32)), (0, .ref (G.2.1 7)), (1, .ref (G.2.1 r1)), (2, .long x2)]) hx hb dX3_worthOf_12 hl (by decide) rfl (fun ls hl => ?_)
  refine lv_iconst (v := 0) hx hb dX3_worthOf_14 (by decide) ?_
  refine lv_istore (lv' := [(7, .int (0 : Int32)), (6, .int (Int32.ofNat (Z.2.1 (r1 + 1000)))), (5, .ref (G.2.1 (r1 + 1000))), (4, .int (0 : Int32)), (0, .ref (G.2.1 7)), (1, .ref (G.2.1 r1)), (2, .long x2)]) hx hb dX3_worthOf_15 hl (by decide) rfl (fun ls hl => ?_)
  refine W_X3_worthOf_L17 l D G Z Y σ0 F r1 hr1 x2 x2 (Int32.ofNat (Z.2.1 (r1 + 1000))) res C0 hA _ ?_ F σ0 (0 : Int32) (0 : Int32) h _ _ _ hP hD hS (lv_sub hl [4, 6, 3, 2, 1, 0] rfl)
  · intro σ1 z4 h H locs ls hP hD hS hl
    refine lv_iload hx hb dX3_worthOf_194 (lv_at hl 1 rfl) ?_
    refine lv_if_le (tgt := 211) hx hb dX3_worthOf_196 (by decide) (fun c39 => ?_) (fun c39 => ?_)
    · skip
      have h := f_t c39 h
      refine lv_lconst (v := 0) hx hb dX3_worthOf_211 (by decide) ?_
      obtain rfl := Option.some.inj h
      exact W.lret (v := (0 : Int64)) hx hb hr (q_end hK hP hD hS) hS.2.2 dX3_worthOf_212
    · skip
      have h := f_f c39 h
      refine lv_aload_n hx hb dX3_worthOf_199 rfl (lv_at hl 0 rfl) ?_
      refine va_get (D := D) (ci := 4) (v := .ref (G.2.1 8)) (C := RX3) (T := TX3) (N := 4) hx hb hts inU_X3 hown hK hP _ (hg_7 G Z Y σ1) rfl 0 (by decide) (hts _ wd_107) (fun _ h9 => h9) rfl dX3_worthOf_200 ?_
      refine lv_iload hx hb dX3_worthOf_203 (lv_at hl 1 rfl) ?_
      refine lv_iconst (v := 1) hx hb dX3_worthOf_205 (by decide) ?_
      refine lv_isub hx hb dX3_worthOf_206 ?_
      obtain ⟨c40, h⟩ := f_n h
      refine va_laldE (v := (σ1.2.1 8 (((z4 - (1 : Int32)) : Int32).toNatClampNeg))) hx hb hK hP _ 1 (hg_8 G Z Y σ1) rfl c40 dX3_worthOf_207 rfl ?_
      refine lv_goto (tgt := 212) hx hb dX3_worthOf_208 (by decide) ?_
      obtain rfl := Option.some.inj h
      exact W.lret (v := (σ1.2.1 8 (((z4 - (1 : Int32)) : Int32).toNatClampNeg))) hx hb hr (q_end hK hP hD hS) hS.2.2 dX3_worthOf_212
abbrev rm_X3_overCorners : Room := { frames := 2, cells := 0, slots := 0, locals := 61 }
set_option maxRecDepth 100000 in
set_option maxHeartbeats 8000000 in
theorem W_X3_overCorners_L30 {p : Program} {e : Env} {s : State} {m : MethodId} {args : Array Value} {below : List Frame} {meth : Method} {c : Code} {A : Nat → Prop} (l : Launch) (D : va_G) (G : hG) (Z : hZ) (Y : va_W) (σ0 : hSt) (F : Nat) (r1 : Nat) (hr1 : isSa Z r1 = true) (x2 : Int32) (x3 : Int64) (y2 : Int32) (y3 : Int64) (y5 : Int32) (y6 : Int64) (y8 : Int32) (res : (Int64 × hSt)) (C0 : Cx p s m args meth c cX3_overCorners (some .long) RX3 10 D G A) (hA : ∀ q : Nat, s.heap.size ≤ q → A q) (k59 : hSt → Option (Int64 × hSt)) (hk59 : ∀ (σ1 : hSt), k59 σ1 = some res → ∀ (H : Heap) (locs : List Loc) (ls : Array Slot), va_P D vwCl (hW G Z Y σ1) H → va_D A (hW G Z Y σ1) → va_S A s.heap H locs → lv_has ls 10 [(0, .ref (G.2.1 7)), (1, .ref (G.2.1 r1)), (2, .int y2), (3, .long y3), (5, .int y5), (6, .long y6), (8, .int y8)] → W p l e rm_X3_overCorners s m args below meth c H locs 0 0 (MQ below (Qg (some (.long res.1)) D (tysG G) (hW G Z Y res.2) A) args s 0 0 A) (F0 m 59 ls [])) : ∀ (n : Nat) (σ1 : hSt) (z9 : Int32), f_X3_overCorners_L30 Z y2 y3 y5 y6 y8 k59 n σ1 z9 = some res → ∀ (H : Heap) (locs : List Loc) (ls : Array Slot), va_P D vwCl (hW G Z Y σ1) H → va_D A (hW G Z Y σ1) → va_S A s.heap H locs → lv_has ls 10 [(0, .ref (G.2.1 7)), (1, .ref (G.2.1 r1)), (2, .int y2), (3, .long y3), (5, .int y5), (6, .long y6), (8, .int y8), (9, .int z9)] → W p l e rm_X3_overCorners s m args below meth c H locs 0 0 (MQ below (Qg (some (.long res.1)) D (tysG G) (hW G Z Y res.2) A) args s 0 0 A) (F0 m 30 ls []) := by
  obtain ⟨hx, hb, hr, hml, hown, hts, hlocks, hK, hE⟩ := id C0
  intro n
  induction n with
  | zero =>
    intro σ1 z9 h
    cases h
  | succ n ih =>
    intro σ1 z9 h H locs ls hP hD hS hl
    rw [f_X3_overCorners_L30] at h
    refine lv_iload hx hb dX3_overCorners_30 (lv_at hl 7 rfl) ?_
    refine lv_iload hx hb dX3_overCorners_32 (lv_at hl 4 rfl) ?_
    refine lv_icmp_ge (tgt := 59) hx hb dX3_overCorners_34 (by decide) (fun c3 => ?_) (fun c3 => ?_)
    · skip
      have h := f_t c3 h
      exact hk59 σ1 h _ _ _ hP hD hS (lv_sub hl [0, 1, 2, 3, 4, 5, 6] rfl)
    · skip
      have h := f_f c3 h
      refine lv_aload_n hx hb dX3_overCorners_37 rfl (lv_at hl 0 rfl) ?_
      refine lv_iload_n hx hb dX3_overCorners_38 rfl (lv_at hl 2 rfl) ?_
      refine lv_iload hx hb dX3_overCorners_39 (lv_at hl 7 rfl) ?_
      refine lv_iadd hx hb dX3_overCorners_41 ?_
      refine lv_iload hx hb dX3_overCorners_42 (lv_at hl 6 rfl) ?_
      refine lv_iload hx hb dX3_overCorners_44 (lv_at hl 7 rfl) ?_
      refine lv_ishr hx hb dX3_overCorners_46 ?_
      refine lv_iconst (v := 1) hx hb dX3_overCorners_47 (by decide) ?_
      refine lv_iand hx hb dX3_overCorners_48 ?_
      refine lv_i2l (v := (((y8 >>> (z9 &&& 31)) &&& (1 : Int32)) : Int32).toInt64) hx hb dX3_overCorners_49 rfl ?_
      obtain ⟨q4, hq4, h⟩ := f_b h
      refine cl_V (w := (hW G Z Y σ1)) (w' := (hW G Z Y q4.2)) (rv := none) (bytes := cX3_put) (maxL := 4) (ret := none) (C := RX3) (As := [.int (y2 + z9), .long (((y8 >>> (z9 &&& 31)) &&& (1 : Int32)) : Int32).toInt64]) (rest := []) (stk := []) ⟨hx, hb, hml, hown, hts⟩ hK hE hA hP hD hS (c_X3_put l D G Z Y σ1 (y2 + z9) ((((y8 >>> (z9 &&& 31)) &&& (1 : Int32)) : Int32).toInt64) q4 hq4) (cwV 2 hts (gwV wd_582 wd_583 wd_584 wd_5 wd_585) rfl rfl rfl hd_X3_put ⟨Nat.le_of_ble_eq_true rfl, Nat.le_of_ble_eq_true rfl⟩) (hg_7 G Z Y σ1) rfl rfl rfl hl.1 rfl (Nat.le_of_ble_eq_true rfl) dX3_overCorners_50 ⟨Nat.zero_le _, Nat.zero_le _⟩ rfl (fun H locs hP hD hS => ?_)
      refine lv_iinc (v := (z9 + 1)) (lv' := [(9, .int (z9 + 1)), (0, .ref (G.2.1 7)), (1, .ref (G.2.1 r1)), (2, .int y2), (3, .long y3), (5, .int y5), (6, .long y6), (8, .int y8)]) hx hb dX3_overCorners_53 hl (k := 7) rfl rfl (by decide) rfl (fun ls hl => ?_)
      refine lv_goto (tgt := 30) hx hb dX3_overCorners_56 (by decide) ?_
      exact ih q4.2 (z9 + 1) h _ _ _ hP hD hS (lv_sub hl [1, 2, 3, 4, 5, 6, 7, 0] rfl)
set_option maxRecDepth 100000 in
set_option maxHeartbeats 8000000 in
theorem W_X3_overCorners_L18 {p : Program} {e : Env} {s : State} {m : MethodId} {args : Array Value} {below : List Frame} {meth : Method} {c : Code} {A : Nat → Prop} (l : Launch) (D : va_G) (G : hG) (Z : hZ) (Y : va_W) (σ0 : hSt) (F : Nat) (r1 : Nat) (hr1 : isSa Z r1 = true) (x2 : Int32) (x3 : Int64) (y2 : Int32) (y3 : Int64) (y5 : Int32) (res : (Int64 × hSt)) (C0 : Cx p s m args meth c cX3_overCorners (some .long) RX3 10 D G A) (hA : ∀ q : Nat, s.heap.size ≤ q → A q) : ∀ (n : Nat) (σ1 : hSt) (z6 : Int64) (z8 : Int32), f_X3_overCorners_L18 F Z r1 y2 y3 y5 n σ1 z6 z8 = some res → ∀ (H : Heap) (locs : List Loc) (ls : Array Slot), va_P D vwCl (hW G Z Y σ1) H → va_D A (hW G Z Y σ1) → va_S A s.heap H locs → lv_has ls 10 [(0, .ref (G.2.1 7)), (1, .ref (G.2.1 r1)), (2, .int y2), (3, .long y3), (5, .int y5), (6, .long z6), (8, .int z8)] → W p l e rm_X3_overCorners s m args below meth c H locs 0 0 (MQ below (Qg (some (.long res.1)) D (tysG G) (hW G Z Y res.2) A) args s 0 0 A) (F0 m 18 ls []) := by
  obtain ⟨hx, hb, hr, hml, hown, hts, hlocks, hK, hE⟩ := id C0
  intro n
  induction n with
  | zero =>
    intro σ1 z6 z8 h
    cases h
  | succ n ih =>
    intro σ1 z6 z8 h H locs ls hP hD hS hl
    rw [f_X3_overCorners_L18] at h
    refine lv_iload hx hb dX3_overCorners_18 (lv_at hl 6 rfl) ?_
    refine lv_iconst (v := 1) hx hb dX3_overCorners_20 (by decide) ?_
    refine lv_iload hx hb dX3_overCorners_21 (lv_at hl 4 rfl) ?_
    refine lv_ishl hx hb dX3_overCorners_23 ?_
    refine lv_icmp_ge (tgt := 79) hx hb dX3_overCorners_24 (by decide) (fun c2 => ?_) (fun c2 => ?_)
    · skip
      have h := f_t c2 h
      refine lv_lload hx hb dX3_overCorners_79 (lv_at hl 5 rfl) ?_
      obtain rfl := Option.some.inj h
      exact W.lret (v := z6) hx hb hr (q_end hK hP hD hS) hS.2.2 dX3_overCorners_81
    · skip
      have h := f_f c2 h
      refine lv_iconst (v := 0) hx hb dX3_overCorners_27 (by decide) ?_
      refine lv_istore (lv' := [(9, .int (0 : Int32)), (0, .ref (G.2.1 7)), (1, .ref (G.2.1 r1)), (2, .int y2), (3, .long y3), (5, .int y5), (6, .long z6), (8, .int z8)]) hx hb dX3_overCorners_28 hl (by decide) rfl (fun ls hl => ?_)
      refine W_X3_overCorners_L30 l D G Z Y σ0 F r1 hr1 x2 x3 y2 y3 y5 z6 z8 res C0 hA _ ?_ F σ1 (0 : Int32) h _ _ _ hP hD hS (lv_sub hl [1, 2, 3, 4, 5, 6, 7, 0] rfl)
      · intro σ1 h H locs ls hP hD hS hl
        refine lv_lload hx hb dX3_overCorners_59 (lv_at hl 5 rfl) ?_
        refine lv_aload_n hx hb dX3_overCorners_61 rfl (lv_at hl 0 rfl) ?_
        refine lv_aload_n hx hb dX3_overCorners_62 rfl (lv_at hl 1 rfl) ?_
        refine lv_lload_n hx hb dX3_overCorners_63 rfl (lv_at hl 3 rfl) ?_
        obtain ⟨q5, hq5, h⟩ := f_b h
        refine cl_V (w := (hW G Z Y σ1)) (w' := (hW G Z Y q5.2)) (rv := some (.long q5.1)) (bytes := cX3_worthOf) (maxL := 15) (ret := (some .long)) (C := RX3) (As := [.ref (G.2.1 r1), .long y3]) (rest := [.long z6]) (stk := [.long q5.1, .long z6]) ⟨hx, hb, hml, hown, hts⟩ hK hE hA hP hD hS (c_X3_worthOf l D G Z Y σ1 F r1 hr1 y3 q5 hq5) (cwV 2 hts (gwV wd_586 wd_587 wd_588 wd_5 wd_589) rfl rfl rfl hd_X3_worthOf ⟨Nat.le_of_ble_eq_true rfl, Nat.le_of_ble_eq_true rfl⟩) (hg_7 G Z Y σ1) rfl rfl rfl hl.1 rfl (Nat.le_of_ble_eq_true rfl) dX3_overCorners_64 ⟨Nat.zero_le _, Nat.zero_le _⟩ rfl (fun H locs hP hD hS => ?_)
        refine lv_lload_n hx hb dX3_overCorners_67 rfl (lv_at hl 3 rfl) ?_
        obtain ⟨q6, hq6, h⟩ := f_b h
        refine cl_S (w := (hW G Z Y q5.2)) (w' := (hW G Z Y q5.2)) (rv := some (.long q6)) (bytes := cX3_plus) (maxL := 8) (ret := (some .long)) (As := [.long z6, .long q5.1, .long y3]) (rest := []) (stk := [.long q6]) ⟨hx, hb, hml, hown, hts⟩ hK hE hA hP hD hS (c_X3_plus l D G (hW G Z Y q5.2) z6 q5.1 y3 q6 hq6) (mkS hts wd_597 wd_598 wd_5 wd_599 rfl rfl hd_X3_plus ⟨Nat.le_of_ble_eq_true rfl, Nat.le_of_ble_eq_true rfl⟩) rfl hl.1 rfl (Nat.le_of_ble_eq_true rfl) dX3_overCorners_68 ⟨Nat.zero_le _, Nat.zero_le _⟩ rfl (fun H locs hP hD hS => ?_)
        refine lv_lstore (lv' := [(6, .long q6), (0, .ref (G.2.1 7)), (1, .ref (G.2.1 r1)), (2, .int y2), (3, .long y3), (5, .int y5), (8, .int z8)]) hx hb dX3_overCorners_71 hl (by decide) rfl (fun ls hl => ?_)
        refine lv_iinc (v := (z8 + 1)) (lv' := [(8, .int (z8 + 1)), (6, .long q6), (0, .ref (G.2.1 7)), (1, .ref (G.2.1 r1)), (2, .int y2), (3, .long y3), (5, .int y5)]) hx hb dX3_overCorners_73 hl (k := 6) rfl rfl (by decide) rfl (fun ls hl => ?_)
        refine lv_goto (tgt := 18) hx hb dX3_overCorners_76 (by decide) ?_
        exact ih q5.2 q6 (z8 + 1) h _ _ _ hP hD hS (lv_sub hl [2, 3, 4, 5, 6, 1, 0] rfl)
set_option maxRecDepth 100000 in
set_option maxHeartbeats 8000000 in
theorem c_X3_overCorners (l : Launch) (D : va_G) (G : hG) (Z : hZ) (Y : va_W) (σ0 : hSt) (F : Nat) (r1 : Nat) (hr1 : isSa Z r1 = true) (x2 : Int32) (x3 : Int64) (res : (Int64 × hSt)) (h : f_X3_overCorners F Z σ0 r1 x2 x3 = some res) : CT l yX3_overCorners cX3_overCorners 10 (some .long) rm_X3_overCorners D G 0 0 [.ref (G.2.1 7), .ref (G.2.1 r1), .int x2, .long x3] (hW G Z Y σ0) (hW G Z Y res.2) (some (.long res.1)) := by
  unfold f_X3_overCorners at h
  refine CT.mk (cc := cX3_overCorners) (maxL := 10) (ret := (some .long)) (own := RX3) (plainFor_of_name (by decide)) rfl (Nat.le_of_ble_eq_true rfl) ?_
  intro p e s m args below meth c A ls C0 hnm hA hP hD hl
  obtain ⟨hx, hb, hr, hml, hown, hts, hlocks, hK, hE⟩ := id C0
  have hS : va_S A s.heap s.heap [] := va_S.rf
  have hl : lv_has ls 10 [(0, .ref (G.2.1 7)), (1, .ref (G.2.1 r1)), (2, .int x2), (3, .long x3)] := hl
  refine lv_iconst (v := 0) hx hb dX3_overCorners_0 (by decide) ?_
  refine lv_aload_n hx hb dX3_overCorners_1 rfl (lv_at hl 1 rfl) ?_
  obtain ⟨qq1, hq1⟩ := hg_Sa G Z Y σ0 hr1
  refine va_getN (D := D) (ci := 5) (v := .int (Z.2.2.1 r1 2)) (C := RX4) (T := TX4) (N := 5) hx hb hts inU_X4 hown hK hP _ hq1 rfl 2 (by decide) (nF_use 14 hE rfl) (fun _ h9 => h9) rfl dX3_overCorners_2 ?_
  refine lv_iload_n hx hb dX3_overCorners_5 rfl (lv_at hl 2 rfl) ?_
  refine lv_isub hx hb dX3_overCorners_6 ?_
  refine va_mmax hx hb (hml.trans hl.1.symm) hown (hts _ wd_581) (hts _ wd_328) (hts _ wd_12) (hts _ wd_329) (Nat.le_of_ble_eq_true rfl) (Nat.le_of_ble_eq_true rfl) (Nat.zero_le _) (Nat.zero_le _) dX3_overCorners_7 ?_
  refine lv_istore (lv' := [(5, .int (if (0 : Int32) < ((Z.2.2.1 r1 2) - x2) then ((Z.2.2.1 r1 2) - x2) else (0 : Int32))), (0, .ref (G.2.1 7)), (1, .ref (G.2.1 r1)), (2, .int x2), (3, .long x3)]) hx hb dX3_overCorners_10 hl (by decide) rfl (fun ls hl => ?_)
  refine lv_lconst (v := 0) hx hb dX3_overCorners_12 (by decide) ?_
  refine lv_lstore (lv' := [(6, .long (0 : Int64)), (5, .int (if (0 : Int32) < ((Z.2.2.1 r1 2) - x2) then ((Z.2.2.1 r1 2) - x2) else (0 : Int32))), (0, .ref (G.2.1 7)), (1, .ref (G.2.1 r1)), (2, .int x2), (3, .long x3)]) hx hb dX3_overCorners_13 hl (by decide) rfl (fun ls hl => ?_)
  refine lv_iconst (v := 0) hx hb dX3_overCorners_15 (by decide) ?_
  refine lv_istore (lv' := [(8, .int (0 : Int32)), (6, .long (0 : Int64)), (5, .int (if (0 : Int32) < ((Z.2.2.1 r1 2) - x2) then ((Z.2.2.1 r1 2) - x2) else (0 : Int32))), (0, .ref (G.2.1 7)), (1, .ref (G.2.1 r1)), (2, .int x2), (3, .long x3)]) hx hb dX3_overCorners_16 hl (by decide) rfl (fun ls hl => ?_)
  refine W_X3_overCorners_L18 l D G Z Y σ0 F r1 hr1 x2 x3 x2 x3 (if (0 : Int32) < ((Z.2.2.1 r1 2) - x2) then ((Z.2.2.1 r1 2) - x2) else (0 : Int32)) res C0 hA F σ0 (0 : Int64) (0 : Int32) h _ _ _ hP hD hS (lv_sub hl [3, 4, 5, 6, 2, 1, 0] rfl)
def rmG_X3g (d : Nat) : Room := { frames := 2 + d, cells := 0, slots := 0, locals := 61 + d * 31 }
set_option maxRecDepth 100000 in
set_option maxHeartbeats 8000000 in
theorem o_X3_gameWorth (l : Launch) (D : va_G) (G : hG) (Z : hZ) (Y : va_W) (F : Nat) (d : Nat) (u_X3_gameWorth : (hSt → Nat → Int32 → Int64 → Int32 → Option (Int64 × hSt))) (hu_X3_gameWorth : ∀ (σ0 : hSt) (r1 : Nat) (hr1 : isSa Z r1 = true) (x2 : Int32) (x3 : Int64) (x5 : Int32) (res : (Int64 × hSt)), u_X3_gameWorth σ0 r1 x2 x3 x5 = some res → CT l yX3_gameWorth cX3_gameWorth 12 (some .long) (rmG_X3g d) D G 0 0 [.ref (G.2.1 7), .ref (G.2.1 r1), .int x2, .long x3, .int x5] (hW G Z Y σ0) (hW G Z Y res.2) (some (.long res.1))) (σ0 : hSt) (r1 : Nat) (hr1 : isSa Z r1 = true) (x2 : Int32) (x3 : Int64) (x5 : Int32) (res : (Int64 × hSt)) (h : b_X3_gameWorth F Z u_X3_gameWorth σ0 r1 x2 x3 x5 = some res) : CT l yX3_gameWorth cX3_gameWorth 12 (some .long) (rmG_X3g (d + 1)) D G 0 0 [.ref (G.2.1 7), .ref (G.2.1 r1), .int x2, .long x3, .int x5] (hW G Z Y σ0) (hW G Z Y res.2) (some (.long res.1)) := by
  unfold b_X3_gameWorth at h
  refine CT.mk (cc := cX3_gameWorth) (maxL := 12) (ret := (some .long)) (own := RX3) (plainFor_of_name (by decide)) rfl (Nat.le_of_ble_eq_true rfl) ?_
  intro p e s m args below meth c A ls C0 hnm hA hP hD hl
  obtain ⟨hx, hb, hr, hml, hown, hts, hlocks, hK, hE⟩ := id C0
  have hS : va_S A s.heap s.heap [] := va_S.rf
  have hl : lv_has ls 12 [(0, .ref (G.2.1 7)), (1, .ref (G.2.1 r1)), (2, .int x2), (3, .long x3), (5, .int x5)] := hl
  refine lv_iload hx hb dX3_gameWorth_0 (lv_at hl 4 rfl) ?_
  refine lv_aload_n hx hb dX3_gameWorth_2 rfl (lv_at hl 1 rfl) ?_
  obtain ⟨qq1, hq1⟩ := hg_Sa G Z Y σ0 hr1
  refine va_getN (D := D) (ci := 5) (v := .int (Z.2.2.1 r1 2)) (C := RX4) (T := TX4) (N := 5) hx hb hts inU_X4 hown hK hP _ hq1 rfl 2 (by decide) (nF_use 14 hE rfl) (fun _ h9 => h9) rfl dX3_gameWorth_3 ?_
  refine lv_icmp_ge (tgt := 16) hx hb dX3_gameWorth_6 (by decide) (fun c2 => ?_) (fun c2 => ?_)
  · skip
    have h := f_t c2 h
    refine lv_aload_n hx hb dX3_gameWorth_16 rfl (lv_at hl 0 rfl) ?_
    refine lv_aload_n hx hb dX3_gameWorth_17 rfl (lv_at hl 1 rfl) ?_
    refine lv_lload_n hx hb dX3_gameWorth_18 rfl (lv_at hl 3 rfl) ?_
    obtain ⟨q3, hq3, h⟩ := f_b h
    refine cl_V (w := (hW G Z Y σ0)) (w' := (hW G Z Y q3.2)) (rv := some (.long q3.1)) (bytes := cX3_worthOf) (maxL := 15) (ret := (some .long)) (C := RX3) (As := [.ref (G.2.1 r1), .long x3]) (rest := []) (stk := [.long q3.1]) ⟨hx, hb, hml, hown, hts⟩ hK hE hA hP hD hS (c_X3_worthOf l D G Z Y σ0 F r1 hr1 x3 q3 hq3) (cwV 2 hts (gwV wd_586 wd_587 wd_588 wd_5 wd_589) rfl rfl rfl hd_X3_worthOf ⟨by show 1 + 1 ≤ 2 + (d + 1); omega, by show 8 + (15 + 11) + 27 ≤ 61 + (d + 1) * 31; omega⟩) (hg_7 G Z Y σ0) rfl rfl rfl hl.1 rfl (Nat.le_of_ble_eq_true rfl) dX3_gameWorth_19 ⟨Nat.zero_le _, Nat.zero_le _⟩ rfl (fun H locs hP hD hS => ?_)
    obtain rfl := Option.some.inj h
    exact W.lret (v := q3.1) hx hb hr (q_end hK hP hD hS) hS.2.2 dX3_gameWorth_22
  · skip
    have h := f_f c2 h
    refine lv_iload hx hb dX3_gameWorth_9 (lv_at hl 4 rfl) ?_
    refine lv_bipush (v := 6) hx hb dX3_gameWorth_11 (by decide) ?_
    refine lv_icmp_lt (tgt := 23) hx hb dX3_gameWorth_13 (by decide) (fun c4 => ?_) (fun c4 => ?_)
    · skip
      have h := f_t c4 h
      refine lv_aload_n hx hb dX3_gameWorth_23 rfl (lv_at hl 0 rfl) ?_
      refine lv_iload hx hb dX3_gameWorth_24 (lv_at hl 4 rfl) ?_
      refine lv_lconst (v := 0) hx hb dX3_gameWorth_26 (by decide) ?_
      obtain ⟨q5, hq5, h⟩ := f_b h
      refine cl_V (w := (hW G Z Y σ0)) (w' := (hW G Z Y q5.2)) (rv := none) (bytes := cX3_put) (maxL := 4) (ret := none) (C := RX3) (As := [.int x5, .long (0 : Int64)]) (rest := []) (stk := []) ⟨hx, hb, hml, hown, hts⟩ hK hE hA hP hD hS (c_X3_put l D G Z Y σ0 x5 (0 : Int64) q5 hq5) (cwV 2 hts (gwV wd_582 wd_583 wd_584 wd_5 wd_585) rfl rfl rfl hd_X3_put ⟨by show 0 + 1 ≤ 2 + (d + 1); omega, by show 8 + (4 + 11) + 0 ≤ 61 + (d + 1) * 31; omega⟩) (hg_7 G Z Y σ0) rfl rfl rfl hl.1 rfl (Nat.le_of_ble_eq_true rfl) dX3_gameWorth_27 ⟨Nat.zero_le _, Nat.zero_le _⟩ rfl (fun H locs hP hD hS => ?_)
      refine lv_aload_n hx hb dX3_gameWorth_30 rfl (lv_at hl 0 rfl) ?_
      refine lv_aload_n hx hb dX3_gameWorth_31 rfl (lv_at hl 1 rfl) ?_
      refine lv_iload_n hx hb dX3_gameWorth_32 rfl (lv_at hl 2 rfl) ?_
      refine lv_lload_n hx hb dX3_gameWorth_33 rfl (lv_at hl 3 rfl) ?_
      refine lv_iload hx hb dX3_gameWorth_34 (lv_at hl 4 rfl) ?_
      refine lv_iconst (v := 1) hx hb dX3_gameWorth_36 (by decide) ?_
      refine lv_iadd hx hb dX3_gameWorth_37 ?_
      obtain ⟨q6, hq6, h⟩ := f_b h
      refine cl_V (w := (hW G Z Y q5.2)) (w' := (hW G Z Y q6.2)) (rv := some (.long q6.1)) (bytes := cX3_gameWorth) (maxL := 12) (ret := (some .long)) (C := RX3) (As := [.ref (G.2.1 r1), .int x2, .long x3, .int (x5 + (1 : Int32))]) (rest := []) (stk := [.long q6.1]) ⟨hx, hb, hml, hown, hts⟩ hK hE hA hP hD hS (hu_X3_gameWorth q5.2 r1 hr1 x2 x3 (x5 + (1 : Int32)) q6 hq6) (cwV 4 hts (gwV wd_1038 wd_1036 wp_40 wd_5 wd_1037) rfl rfl rfl hd_X3_gameWorth ⟨by show 2 + d + 1 ≤ 2 + (d + 1); omega, by show 8 + (12 + 11) + (61 + d * 31) ≤ 61 + (d + 1) * 31; omega⟩) (hg_7 G Z Y q5.2) rfl rfl rfl hl.1 rfl (Nat.le_of_ble_eq_true rfl) dX3_gameWorth_38 ⟨Nat.zero_le _, Nat.zero_le _⟩ rfl (fun H locs hP hD hS => ?_)
      refine lv_lstore (lv' := [(6, .long q6.1), (0, .ref (G.2.1 7)), (1, .ref (G.2.1 r1)), (2, .int x2), (3, .long x3), (5, .int x5)]) hx hb dX3_gameWorth_41 hl (by decide) rfl (fun ls hl => ?_)
      refine lv_aload_n hx hb dX3_gameWorth_43 rfl (lv_at hl 1 rfl) ?_
      refine lv_iload hx hb dX3_gameWorth_44 (lv_at hl 5 rfl) ?_
      refine lv_lconst (v := 1) hx hb dX3_gameWorth_46 (by decide) ?_
      obtain ⟨q7, hq7, h⟩ := f_b h
      refine cl_V (w := (hW G Z Y q6.2)) (w' := (hW G Z Y q7.2)) (rv := none) (bytes := cX3_put) (maxL := 4) (ret := none) (C := RX3) (As := [.int x5, .long (1 : Int64)]) (rest := []) (stk := []) ⟨hx, hb, hml, hown, hts⟩ hK hE hA hP hD hS (c_X3_put l D G Z Y q6.2 x5 (1 : Int64) q7 hq7) (cwV 2 hts (gwV wd_582 wd_583 wd_584 wd_5 wd_585) rfl rfl rfl hd_X3_put ⟨by show 0 + 1 ≤ 2 + (d + 1); omega, by show 8 + (4 + 11) + 0 ≤ 61 + (d + 1) * 31; omega⟩) (hg_7 G Z Y q6.2) rfl rfl rfl hl.1 rfl (Nat.le_of_ble_eq_true rfl) dX3_gameWorth_47 ⟨Nat.zero_le _, Nat.zero_le _⟩ rfl (fun H locs hP hD hS => ?_)
      refine lv_aload_n hx hb dX3_gameWorth_50 rfl (lv_at hl 1 rfl) ?_
      refine lv_aload_n hx hb dX3_gameWorth_51 rfl (lv_at hl 2 rfl) ?_
      refine lv_iload_n hx hb dX3_gameWorth_52 rfl (lv_at hl 3 rfl) ?_
      refine lv_lload_n hx hb dX3_gameWorth_53 rfl (lv_at hl 4 rfl) ?_
      refine lv_iload hx hb dX3_gameWorth_54 (lv_at hl 5 rfl) ?_
      refine lv_iconst (v := 1) hx hb dX3_gameWorth_56 (by decide) ?_
      refine lv_iadd hx hb dX3_gameWorth_57 ?_
      obtain ⟨q8, hq8, h⟩ := f_b h
      refine cl_V (w := (hW G Z Y q7.2)) (w' := (hW G Z Y q8.2)) (rv := some (.long q8.1)) (bytes := cX3_gameWorth) (maxL := 12) (ret := (some .long)) (C := RX3) (As := [.ref (G.2.1 r1), .int x2, .long x3, .int (x5 + (1 : Int32))]) (rest := []) (stk := [.long q8.1]) ⟨hx, hb, hml, hown, hts⟩ hK hE hA hP hD hS (hu_X3_gameWorth q7.2 r1 hr1 x2 x3 (x5 + (1 : Int32)) q8 hq8) (cwV 4 hts (gwV wd_1038 wd_1036 wp_40 wd_5 wd_1037) rfl rfl rfl hd_X3_gameWorth ⟨by show 2 + d + 1 ≤ 2 + (d + 1); omega, by show 8 + (12 + 11) + (61 + d * 31) ≤ 61 + (d + 1) * 31; omega⟩) (hg_7 G Z Y q7.2) rfl rfl rfl hl.1 rfl (Nat.le_of_ble_eq_true rfl) dX3_gameWorth_58 ⟨Nat.zero_le _, Nat.zero_le _⟩ rfl (fun H locs hP hD hS => ?_)
      refine lv_lstore (lv' := [(8, .long q8.1), (6, .long q6.1), (0, .ref (G.2.1 7)), (1, .ref (G.2.1 r1)), (2, .int x2), (3, .long x3), (5, .int x5)]) hx hb dX3_gameWorth_61 hl (by decide) rfl (fun ls hl => ?_)
      refine lv_lload hx hb dX3_gameWorth_63 (lv_at hl 1 rfl) ?_
      refine lv_lload hx hb dX3_gameWorth_65 (lv_at hl 0 rfl) ?_
      refine lv_lload_n hx hb dX3_gameWorth_67 rfl (lv_at hl 5 rfl) ?_
      obtain ⟨q9, hq9, h⟩ := f_b h
      refine cl_S (w := (hW G Z Y q8.2)) (w' := (hW G Z Y q8.2)) (rv := some (.long q9)) (bytes := cX3_times) (maxL := 6) (ret := (some .long)) (As := [.long q6.1, .long q8.1, .long x3]) (rest := []) (stk := [.long q9]) ⟨hx, hb, hml, hown, hts⟩ hK hE hA hP hD hS (c_X3_times l D G (hW G Z Y q8.2) q6.1 q8.1 x3 q9 hq9) (mkS hts wd_593 wd_594 wd_5 wd_595 rfl rfl hd_X3_times ⟨by show 0 + 1 ≤ 2 + (d + 1); omega, by show 8 + (6 + 11) + 0 ≤ 61 + (d + 1) * 31; omega⟩) rfl hl.1 rfl (Nat.le_of_ble_eq_true rfl) dX3_gameWorth_68 ⟨Nat.zero_le _, Nat.zero_le _⟩ rfl (fun H locs hP hD hS => ?_)
      refine lv_lstore (lv' := [(10, .long q9), (8, .long q8.1), (6, .long q6.1), (0, .ref (G.2.1 7)), (1, .ref (G.2.1 r1)), (2, .int x2), (3, .long x3), (5, .int x5)]) hx hb dX3_gameWorth_71 hl (by decide) rfl (fun ls hl => ?_)
      refine lv_iload_n hx hb dX3_gameWorth_73 rfl (lv_at hl 5 rfl) ?_
      refine lv_iload hx hb dX3_gameWorth_74 (lv_at hl 7 rfl) ?_
      refine lv_ishr hx hb dX3_gameWorth_76 ?_
      refine lv_iconst (v := 1) hx hb dX3_gameWorth_77 (by decide) ?_
      refine lv_iand hx hb dX3_gameWorth_78 ?_
      refine lv_iconst (v := 1) hx hb dX3_gameWorth_79 (by decide) ?_
      refine lv_icmp_ne (tgt := 88) hx hb dX3_gameWorth_80 (by decide) (fun c10 => ?_) (fun c10 => ?_)
      · skip
        have h := f_f c10 h
        refine lv_lload hx hb dX3_gameWorth_88 (lv_at hl 2 rfl) ?_
        refine lv_lload hx hb dX3_gameWorth_90 (lv_at hl 1 rfl) ?_
        refine lv_lload_n hx hb dX3_gameWorth_92 rfl (lv_at hl 6 rfl) ?_
        obtain ⟨q11, hq11, h⟩ := f_b h
        refine cl_S (w := (hW G Z Y q8.2)) (w' := (hW G Z Y q8.2)) (rv := some (.long q11)) (bytes := cX3_plus) (maxL := 8) (ret := (some .long)) (As := [.long q6.1, .long q8.1, .long x3]) (rest := []) (stk := [.long q11]) ⟨hx, hb, hml, hown, hts⟩ hK hE hA hP hD hS (c_X3_plus l D G (hW G Z Y q8.2) q6.1 q8.1 x3 q11 hq11) (mkS hts wd_597 wd_598 wd_5 wd_599 rfl rfl hd_X3_plus ⟨by show 0 + 1 ≤ 2 + (d + 1); omega, by show 8 + (8 + 11) + 0 ≤ 61 + (d + 1) * 31; omega⟩) rfl hl.1 rfl (Nat.le_of_ble_eq_true rfl) dX3_gameWorth_93 ⟨Nat.zero_le _, Nat.zero_le _⟩ rfl (fun H locs hP hD hS => ?_)
        refine lv_lload hx hb dX3_gameWorth_96 (lv_at hl 0 rfl) ?_
        refine lv_lload_n hx hb dX3_gameWorth_98 rfl (lv_at hl 6 rfl) ?_
        obtain ⟨q12, hq12, h⟩ := f_b h
        refine cl_S (w := (hW G Z Y q8.2)) (w' := (hW G Z Y q8.2)) (rv := some (.long q12)) (bytes := cX3_minus) (maxL := 6) (ret := (some .long)) (As := [.long q11, .long q9, .long x3]) (rest := []) (stk := [.long q12]) ⟨hx, hb, hml, hown, hts⟩ hK hE hA hP hD hS (c_X3_minus l D G (hW G Z Y q8.2) q11 q9 x3 q12 hq12) (mkS hts wd_590 wd_591 wd_5 wd_592 rfl rfl hd_X3_minus ⟨by show 0 + 1 ≤ 2 + (d + 1); omega, by show 8 + (6 + 11) + 0 ≤ 61 + (d + 1) * 31; omega⟩) rfl hl.1 rfl (Nat.le_of_ble_eq_true rfl) dX3_gameWorth_99 ⟨Nat.zero_le _, Nat.zero_le _⟩ rfl (fun H locs hP hD hS => ?_)
        obtain rfl := Option.some.inj h
        exact W.lret (v := q12) hx hb hr (q_end hK hP hD hS) hS.2.2 dX3_gameWorth_102
      · skip
        have h := f_t c10 h
        refine lv_lload hx hb dX3_gameWorth_83 (lv_at hl 0 rfl) ?_
        refine lv_goto (tgt := 102) hx hb dX3_gameWorth_85 (by decide) ?_
        obtain rfl := Option.some.inj h
        exact W.lret (v := q9) hx hb hr (q_end hK hP hD hS) hS.2.2 dX3_gameWorth_102
    · skip
      have h := f_f c4 h
      refine lv_aload_n hx hb dX3_gameWorth_16 rfl (lv_at hl 0 rfl) ?_
      refine lv_aload_n hx hb dX3_gameWorth_17 rfl (lv_at hl 1 rfl) ?_
      refine lv_lload_n hx hb dX3_gameWorth_18 rfl (lv_at hl 3 rfl) ?_
      obtain ⟨q13, hq13, h⟩ := f_b h
      refine cl_V (w := (hW G Z Y σ0)) (w' := (hW G Z Y q13.2)) (rv := some (.long q13.1)) (bytes := cX3_worthOf) (maxL := 15) (ret := (some .long)) (C := RX3) (As := [.ref (G.2.1 r1), .long x3]) (rest := []) (stk := [.long q13.1]) ⟨hx, hb, hml, hown, hts⟩ hK hE hA hP hD hS (c_X3_worthOf l D G Z Y σ0 F r1 hr1 x3 q13 hq13) (cwV 2 hts (gwV wd_586 wd_587 wd_588 wd_5 wd_589) rfl rfl rfl hd_X3_worthOf ⟨by show 1 + 1 ≤ 2 + (d + 1); omega, by show 8 + (15 + 11) + 27 ≤ 61 + (d + 1) * 31; omega⟩) (hg_7 G Z Y σ0) rfl rfl rfl hl.1 rfl (Nat.le_of_ble_eq_true rfl) dX3_gameWorth_19 ⟨Nat.zero_le _, Nat.zero_le _⟩ rfl (fun H locs hP hD hS => ?_)
      obtain rfl := Option.some.inj h
      exact W.lret (v := q13.1) hx hb hr (q_end hK hP hD hS) hS.2.2 dX3_gameWorth_22
set_option maxRecDepth 100000 in
set_option maxHeartbeats 8000000 in
theorem c_G_X3g (l : Launch) (D : va_G) (G : hG) (Z : hZ) (Y : va_W) (F : Nat) : ∀ d : Nat, (∀ (σ0 : hSt) (r1 : Nat) (hr1 : isSa Z r1 = true) (x2 : Int32) (x3 : Int64) (x5 : Int32) (res : (Int64 × hSt)), (G_X3g F Z d) σ0 r1 x2 x3 x5 = some res → CT l yX3_gameWorth cX3_gameWorth 12 (some .long) (rmG_X3g d) D G 0 0 [.ref (G.2.1 7), .ref (G.2.1 r1), .int x2, .long x3, .int x5] (hW G Z Y σ0) (hW G Z Y res.2) (some (.long res.1))) := by
  intro d
  induction d with
  | zero =>
    exact fun σ0 r1 hr1 x2 x3 x5 res h => by
        have h1 : (none : Option (Int64 × hSt)) = some res := h
        cases h1
  | succ d ih =>
    have i_X3_gameWorth := ih
    exact fun σ0 r1 hr1 x2 x3 x5 res h => o_X3_gameWorth l D G Z Y F d _ i_X3_gameWorth σ0 r1 hr1 x2 x3 x5 res h
abbrev rm_X3_gameWorth : Room := rmG_X3g 8
theorem c_X3_gameWorth (l : Launch) (D : va_G) (G : hG) (Z : hZ) (Y : va_W) (σ0 : hSt) (F : Nat) (r1 : Nat) (hr1 : isSa Z r1 = true) (x2 : Int32) (x3 : Int64) (x5 : Int32) (res : (Int64 × hSt)) (h : f_X3_gameWorth F Z σ0 r1 x2 x3 x5 = some res) : CT l yX3_gameWorth cX3_gameWorth 12 (some .long) rm_X3_gameWorth D G 0 0 [.ref (G.2.1 7), .ref (G.2.1 r1), .int x2, .long x3, .int x5] (hW G Z Y σ0) (hW G Z Y res.2) (some (.long res.1)) := (c_G_X3g l D G Z Y F 8) σ0 r1 hr1 x2 x3 x5 res h
abbrev rm_X3_fillInverses : Room := { frames := 2, cells := 0, slots := 0, locals := 48 }
set_option maxRecDepth 100000 in
set_option maxHeartbeats 8000000 in
theorem W_X3_fillInverses_L3 {p : Program} {e : Env} {s : State} {m : MethodId} {args : Array Value} {below : List Frame} {meth : Method} {c : Code} {A : Nat → Prop} (l : Launch) (D : va_G) (G : hG) (Z : hZ) (Y : va_W) (σ0 : hSt) (F : Nat) (x1 : Int32) (x2 : Int64) (y1 : Int32) (y2 : Int64) (res : (Unit × hSt)) (C0 : Cx p s m args meth c cX3_fillInverses none RX3 6 D G A) (hA : ∀ q : Nat, s.heap.size ≤ q → A q) : ∀ (n : Nat) (σ1 : hSt) (z4 : Int32), f_X3_fillInverses_L3 y1 y2 n σ1 z4 = some res → ∀ (H : Heap) (locs : List Loc) (ls : Array Slot), va_P D vwCl (hW G Z Y σ1) H → va_D A (hW G Z Y σ1) → va_S A s.heap H locs → lv_has ls 6 [(0, .ref (G.2.1 7)), (1, .int y1), (2, .long y2), (4, .int z4)] → W p l e rm_X3_fillInverses s m args below meth c H locs 0 0 (MQ below (Qg none D (tysG G) (hW G Z Y res.2) A) args s 0 0 A) (F0 m 3 ls []) := by
  obtain ⟨hx, hb, hr, hml, hown, hts, hlocks, hK, hE⟩ := id C0
  intro n
  induction n with
  | zero =>
    intro σ1 z4 h
    cases h
  | succ n ih =>
    intro σ1 z4 h H locs ls hP hD hS hl
    rw [f_X3_fillInverses_L3] at h
    refine lv_iload hx hb dX3_fillInverses_3 (lv_at hl 3 rfl) ?_
    refine lv_iload_n hx hb dX3_fillInverses_5 rfl (lv_at hl 1 rfl) ?_
    refine lv_icmp_ge (tgt := 77) hx hb dX3_fillInverses_6 (by decide) (fun c1 => ?_) (fun c1 => ?_)
    · skip
      have h := f_t c1 h
      obtain rfl := Option.some.inj h
      exact W.vret hx hb hr (q_end hK hP hD hS) hS.2.2 dX3_fillInverses_77
    · skip
      have h := f_f c1 h
      refine lv_iload hx hb dX3_fillInverses_9 (lv_at hl 3 rfl) ?_
      refine lv_aload_n hx hb dX3_fillInverses_11 rfl (lv_at hl 0 rfl) ?_
      refine va_get (D := D) (ci := 4) (v := .ref (G.2.1 11)) (C := RX3) (T := TX3) (N := 4) hx hb hts inU_X3 hown hK hP _ (hg_7 G Z Y σ1) rfl 3 (by decide) (hts _ wd_111) (fun _ h9 => h9) rfl dX3_fillInverses_12 ?_
      refine va_alen (ty := .long) (v := (101 : Int32)) hx hb hK hP _ 1 (hg_11 G Z Y σ1) rfl rfl dX3_fillInverses_15 ?_
      refine lv_icmp_ge (tgt := 77) hx hb dX3_fillInverses_16 (by decide) (fun c2 => ?_) (fun c2 => ?_)
      · skip
        have h := f_t c2 h
        obtain rfl := Option.some.inj h
        exact W.vret hx hb hr (q_end hK hP hD hS) hS.2.2 dX3_fillInverses_77
      · skip
        have h := f_f c2 h
        refine lv_lload_n hx hb dX3_fillInverses_19 rfl (lv_at hl 2 rfl) ?_
        refine lv_iload hx hb dX3_fillInverses_20 (lv_at hl 3 rfl) ?_
        refine lv_i2l (v := (z4 : Int32).toInt64) hx hb dX3_fillInverses_22 rfl ?_
        obtain ⟨q3, hq3, h⟩ := f_b h
        refine cl_S (w := (hW G Z Y σ1)) (w' := (hW G Z Y σ1)) (rv := some (.long q3)) (bytes := cX3_rest) (maxL := 4) (ret := (some .long)) (As := [.long y2, .long (z4 : Int32).toInt64]) (rest := []) (stk := [.long q3]) ⟨hx, hb, hml, hown, hts⟩ hK hE hA hP hD hS (c_X3_rest l D G (hW G Z Y σ1) y2 ((z4 : Int32).toInt64) q3 hq3) (mkS hts wd_707 wd_708 wd_5 wd_709 rfl rfl hd_X3_rest ⟨Nat.le_of_ble_eq_true rfl, Nat.le_of_ble_eq_true rfl⟩) rfl hl.1 rfl (Nat.le_of_ble_eq_true rfl) dX3_fillInverses_23 ⟨Nat.zero_le _, Nat.zero_le _⟩ rfl (fun H locs hP hD hS => ?_)
        refine lv_l2i (v := (q3 : Int64).toInt32) hx hb dX3_fillInverses_26 rfl ?_
        refine lv_istore (lv' := [(5, .int (q3 : Int64).toInt32), (0, .ref (G.2.1 7)), (1, .int y1), (2, .long y2), (4, .int z4)]) hx hb dX3_fillInverses_27 hl (by decide) rfl (fun ls hl => ?_)
        refine lv_aload_n hx hb dX3_fillInverses_29 rfl (lv_at hl 1 rfl) ?_
        refine va_get (D := D) (ci := 4) (v := .ref (G.2.1 11)) (C := RX3) (T := TX3) (N := 4) hx hb hts inU_X3 hown hK hP _ (hg_7 G Z Y σ1) rfl 3 (by decide) (hts _ wd_111) (fun _ h9 => h9) rfl dX3_fillInverses_30 ?_
        refine lv_iload hx hb dX3_fillInverses_33 (lv_at hl 4 rfl) ?_
        refine lv_iload hx hb dX3_fillInverses_35 (lv_at hl 4 rfl) ?_
        refine lv_iconst (v := 1) hx hb dX3_fillInverses_37 (by decide) ?_
        refine lv_icmp_eq (tgt := 48) hx hb dX3_fillInverses_38 (by decide) (fun c4 => ?_) (fun c4 => ?_)
        · skip
          have h := f_t c4 h
          refine lv_lconst (v := 1) hx hb dX3_fillInverses_48 (by decide) ?_
          refine lv_goto (tgt := 70) hx hb dX3_fillInverses_49 (by decide) ?_
          obtain ⟨c5, h⟩ := f_n h
          refine va_last hx hb hK hP hD hS _ 1 (hg_11 G Z Y σ1) rfl c5 dX3_fillInverses_70 (fun H locs hP hD hS => ?_)
          have hP := wrP (hp_11 G Z Y σ1 _ _) hP
          have hD := wrD (hp_11 G Z Y σ1 _ _) hD
          refine lv_iinc (v := (z4 + 1)) (lv' := [(4, .int (z4 + 1)), (5, .int (q3 : Int64).toInt32), (0, .ref (G.2.1 7)), (1, .int y1), (2, .long y2)]) hx hb dX3_fillInverses_71 hl (k := 4) rfl rfl (by decide) rfl (fun ls hl => ?_)
          refine lv_goto (tgt := 3) hx hb dX3_fillInverses_74 (by decide) ?_
          exact ih (sJ σ1 11 ((z4 : Int32).toNatClampNeg) (1 : Int64)) (z4 + 1) h _ _ _ hP hD hS (lv_sub hl [2, 3, 4, 0] rfl)
        · skip
          have h := f_f c4 h
          refine lv_iload hx hb dX3_fillInverses_41 (lv_at hl 0 rfl) ?_
          refine lv_iload hx hb dX3_fillInverses_43 (lv_at hl 4 rfl) ?_
          refine lv_icmp_lt (tgt := 52) hx hb dX3_fillInverses_45 (by decide) (fun c6 => ?_) (fun c6 => ?_)
          · skip
            have h := f_t c6 h
            refine lv_lload_n hx hb dX3_fillInverses_52 rfl (lv_at hl 3 rfl) ?_
            refine lv_lload_n hx hb dX3_fillInverses_53 rfl (lv_at hl 3 rfl) ?_
            refine lv_iload hx hb dX3_fillInverses_54 (lv_at hl 4 rfl) ?_
            refine lv_i2l (v := (z4 : Int32).toInt64) hx hb dX3_fillInverses_56 rfl ?_
            obtain ⟨c7, h⟩ := f_n h
            refine lv_ldiv hx hb dX3_fillInverses_57 c7 ?_
            refine lv_lsub hx hb dX3_fillInverses_58 ?_
            refine lv_aload_n hx hb dX3_fillInverses_59 rfl (lv_at hl 1 rfl) ?_
            refine va_get (D := D) (ci := 4) (v := .ref (G.2.1 11)) (C := RX3) (T := TX3) (N := 4) hx hb hts inU_X3 hown hK hP _ (hg_7 G Z Y σ1) rfl 3 (by decide) (hts _ wd_111) (fun _ h9 => h9) rfl dX3_fillInverses_60 ?_
            refine lv_iload hx hb dX3_fillInverses_63 (lv_at hl 0 rfl) ?_
            obtain ⟨c8, h⟩ := f_n h
            refine va_laldE (v := (σ1.2.1 11 (((q3 : Int64).toInt32 : Int32).toNatClampNeg))) hx hb hK hP _ 1 (hg_11 G Z Y σ1) rfl c8 dX3_fillInverses_65 rfl ?_
            refine lv_lload_n hx hb dX3_fillInverses_66 rfl (lv_at hl 3 rfl) ?_
            obtain ⟨q9, hq9, h⟩ := f_b h
            refine cl_S (w := (hW G Z Y σ1)) (w' := (hW G Z Y σ1)) (rv := some (.long q9)) (bytes := cX3_times) (maxL := 6) (ret := (some .long)) (As := [.long (y2 - (y2 / (z4 : Int32).toInt64)), .long (σ1.2.1 11 (((q3 : Int64).toInt32 : Int32).toNatClampNeg)), .long y2]) (rest := [.int z4, .ref (G.2.1 11)]) (stk := [.long q9, .int z4, .ref (G.2.1 11)]) ⟨hx, hb, hml, hown, hts⟩ hK hE hA hP hD hS (c_X3_times l D G (hW G Z Y σ1) (y2 - (y2 / (z4 : Int32).toInt64)) (σ1.2.1 11 (((q3 : Int64).toInt32 : Int32).toNatClampNeg)) y2 q9 hq9) (mkS hts wd_593 wd_594 wd_5 wd_595 rfl rfl hd_X3_times ⟨Nat.le_of_ble_eq_true rfl, Nat.le_of_ble_eq_true rfl⟩) rfl hl.1 rfl (Nat.le_of_ble_eq_true rfl) dX3_fillInverses_67 ⟨Nat.zero_le _, Nat.zero_le _⟩ rfl (fun H locs hP hD hS => ?_)
            obtain ⟨c10, h⟩ := f_n h
            refine va_last hx hb hK hP hD hS _ 1 (hg_11 G Z Y σ1) rfl c10 dX3_fillInverses_70 (fun H locs hP hD hS => ?_)
            have hP := wrP (hp_11 G Z Y σ1 _ _) hP
            have hD := wrD (hp_11 G Z Y σ1 _ _) hD
            refine lv_iinc (v := (z4 + 1)) (lv' := [(4, .int (z4 + 1)), (5, .int (q3 : Int64).toInt32), (0, .ref (G.2.1 7)), (1, .int y1), (2, .long y2)]) hx hb dX3_fillInverses_71 hl (k := 4) rfl rfl (by decide) rfl (fun ls hl => ?_)
            refine lv_goto (tgt := 3) hx hb dX3_fillInverses_74 (by decide) ?_
            exact ih (sJ σ1 11 ((z4 : Int32).toNatClampNeg) q9) (z4 + 1) h _ _ _ hP hD hS (lv_sub hl [2, 3, 4, 0] rfl)
          · skip
            have h := f_f c6 h
            refine lv_lconst (v := 1) hx hb dX3_fillInverses_48 (by decide) ?_
            refine lv_goto (tgt := 70) hx hb dX3_fillInverses_49 (by decide) ?_
            obtain ⟨c11, h⟩ := f_n h
            refine va_last hx hb hK hP hD hS _ 1 (hg_11 G Z Y σ1) rfl c11 dX3_fillInverses_70 (fun H locs hP hD hS => ?_)
            have hP := wrP (hp_11 G Z Y σ1 _ _) hP
            have hD := wrD (hp_11 G Z Y σ1 _ _) hD
            refine lv_iinc (v := (z4 + 1)) (lv' := [(4, .int (z4 + 1)), (5, .int (q3 : Int64).toInt32), (0, .ref (G.2.1 7)), (1, .int y1), (2, .long y2)]) hx hb dX3_fillInverses_71 hl (k := 4) rfl rfl (by decide) rfl (fun ls hl => ?_)
            refine lv_goto (tgt := 3) hx hb dX3_fillInverses_74 (by decide) ?_
            exact ih (sJ σ1 11 ((z4 : Int32).toNatClampNeg) (1 : Int64)) (z4 + 1) h _ _ _ hP hD hS (lv_sub hl [2, 3, 4, 0] rfl)
set_option maxRecDepth 100000 in
set_option maxHeartbeats 8000000 in
theorem c_X3_fillInverses (l : Launch) (D : va_G) (G : hG) (Z : hZ) (Y : va_W) (σ0 : hSt) (F : Nat) (x1 : Int32) (x2 : Int64) (res : (Unit × hSt)) (h : f_X3_fillInverses F Z σ0 x1 x2 = some res) : CT l yX3_fillInverses cX3_fillInverses 6 none rm_X3_fillInverses D G 0 0 [.ref (G.2.1 7), .int x1, .long x2] (hW G Z Y σ0) (hW G Z Y res.2) none := by
  unfold f_X3_fillInverses at h
  refine CT.mk (cc := cX3_fillInverses) (maxL := 6) (ret := none) (own := RX3) (plainFor_of_name (by decide)) rfl (Nat.le_of_ble_eq_true rfl) ?_
  intro p e s m args below meth c A ls C0 hnm hA hP hD hl
  obtain ⟨hx, hb, hr, hml, hown, hts, hlocks, hK, hE⟩ := id C0
  have hS : va_S A s.heap s.heap [] := va_S.rf
  have hl : lv_has ls 6 [(0, .ref (G.2.1 7)), (1, .int x1), (2, .long x2)] := hl
  refine lv_iconst (v := 1) hx hb dX3_fillInverses_0 (by decide) ?_
  refine lv_istore (lv' := [(4, .int (1 : Int32)), (0, .ref (G.2.1 7)), (1, .int x1), (2, .long x2)]) hx hb dX3_fillInverses_1 hl (by decide) rfl (fun ls hl => ?_)
  refine W_X3_fillInverses_L3 l D G Z Y σ0 F x1 x2 x1 x2 res C0 hA F σ0 (1 : Int32) h _ _ _ hP hD hS (lv_sub hl [1, 2, 3, 0] rfl)
abbrev rm_X3_curveAt : Room := { frames := 3, cells := 0, slots := 0, locals := 73 }
set_option maxRecDepth 100000 in
set_option maxHeartbeats 8000000 in
theorem W_X3_curveAt_L41 {p : Program} {e : Env} {s : State} {m : MethodId} {args : Array Value} {below : List Frame} {meth : Method} {c : Code} {A : Nat → Prop} (l : Launch) (D : va_G) (G : hG) (Z : hZ) (Y : va_W) (σ0 : hSt) (F : Nat) (r1 : Nat) (hr1 : isJ r1 = true) (x2 : Int32) (x3 : Int64) (x5 : Int64) (y3 : Int64) (y5 : Int64) (y7 : Int32) (res : (Int64 × hSt)) (C0 : Cx p s m args meth c cX3_curveAt (some .long) RX3 14 D G A) (hA : ∀ q : Nat, s.heap.size ≤ q → A q) (k65 : hSt → Option (Int64 × hSt)) (hk65 : ∀ (σ1 : hSt), k65 σ1 = some res → ∀ (H : Heap) (locs : List Loc) (ls : Array Slot), va_P D vwCl (hW G Z Y σ1) H → va_D A (hW G Z Y σ1) → va_S A s.heap H locs → lv_has ls 14 [(0, .ref (G.2.1 7)), (3, .long y3), (5, .long y5), (7, .int y7)] → W p l e rm_X3_curveAt s m args below meth c H locs 0 0 (MQ below (Qg (some (.long res.1)) D (tysG G) (hW G Z Y res.2) A) args s 0 0 A) (F0 m 65 ls [])) : ∀ (n : Nat) (σ1 : hSt) (z8 : Int32), f_X3_curveAt_L41 r1 y3 y5 y7 k65 n σ1 z8 = some res → ∀ (H : Heap) (locs : List Loc) (ls : Array Slot), va_P D vwCl (hW G Z Y σ1) H → va_D A (hW G Z Y σ1) → va_S A s.heap H locs → lv_has ls 14 [(0, .ref (G.2.1 7)), (1, .ref (G.2.1 r1)), (3, .long y3), (5, .long y5), (7, .int y7), (8, .int z8)] → W p l e rm_X3_curveAt s m args below meth c H locs 0 0 (MQ below (Qg (some (.long res.1)) D (tysG G) (hW G Z Y res.2) A) args s 0 0 A) (F0 m 41 ls []) := by
  obtain ⟨hx, hb, hr, hml, hown, hts, hlocks, hK, hE⟩ := id C0
  intro n
  induction n with
  | zero =>
    intro σ1 z8 h
    cases h
  | succ n ih =>
    intro σ1 z8 h H locs ls hP hD hS hl
    rw [f_X3_curveAt_L41] at h
    refine lv_iload hx hb dX3_curveAt_41 (lv_at hl 5 rfl) ?_
    refine lv_iload hx hb dX3_curveAt_43 (lv_at hl 4 rfl) ?_
    refine lv_icmp_ge (tgt := 65) hx hb dX3_curveAt_45 (by decide) (fun c2 => ?_) (fun c2 => ?_)
    · skip
      have h := f_t c2 h
      exact hk65 σ1 h _ _ _ hP hD hS (lv_sub hl [0, 2, 3, 4] rfl)
    · skip
      have h := f_f c2 h
      refine lv_aload_n hx hb dX3_curveAt_48 rfl (lv_at hl 0 rfl) ?_
      refine va_get (D := D) (ci := 4) (v := .ref (G.2.1 10)) (C := RX3) (T := TX3) (N := 4) hx hb hts inU_X3 hown hK hP _ (hg_7 G Z Y σ1) rfl 2 (by decide) (hts _ wd_110) (fun _ h9 => h9) rfl dX3_curveAt_49 ?_
      refine lv_iload hx hb dX3_curveAt_52 (lv_at hl 5 rfl) ?_
      refine lv_aload_n hx hb dX3_curveAt_54 rfl (lv_at hl 1 rfl) ?_
      refine lv_iload hx hb dX3_curveAt_55 (lv_at hl 5 rfl) ?_
      obtain ⟨c3, h⟩ := f_n h
      refine va_laldE (v := (σ1.2.1 r1 ((z8 : Int32).toNatClampNeg))) hx hb hK hP _ 1 (hg_J G Z Y σ1 hr1) rfl c3 dX3_curveAt_57 rfl ?_
      obtain ⟨c4, h⟩ := f_n h
      refine va_last hx hb hK hP hD hS _ 1 (hg_10 G Z Y σ1) rfl c4 dX3_curveAt_58 (fun H locs hP hD hS => ?_)
      have hP := wrP (hp_10 G Z Y σ1 _ _) hP
      have hD := wrD (hp_10 G Z Y σ1 _ _) hD
      refine lv_iinc (v := (z8 + 1)) (lv' := [(8, .int (z8 + 1)), (0, .ref (G.2.1 7)), (1, .ref (G.2.1 r1)), (3, .long y3), (5, .long y5), (7, .int y7)]) hx hb dX3_curveAt_59 hl (k := 5) rfl rfl (by decide) rfl (fun ls hl => ?_)
      refine lv_goto (tgt := 41) hx hb dX3_curveAt_62 (by decide) ?_
      exact ih (sJ σ1 10 ((z8 : Int32).toNatClampNeg) (σ1.2.1 r1 ((z8 : Int32).toNatClampNeg))) (z8 + 1) h _ _ _ hP hD hS (lv_sub hl [1, 2, 3, 4, 5, 0] rfl)
set_option maxRecDepth 100000 in
set_option maxHeartbeats 8000000 in
theorem W_X3_curveAt_L111 {p : Program} {e : Env} {s : State} {m : MethodId} {args : Array Value} {below : List Frame} {meth : Method} {c : Code} {A : Nat → Prop} (l : Launch) (D : va_G) (G : hG) (Z : hZ) (Y : va_W) (σ0 : hSt) (F : Nat) (r1 : Nat) (hr1 : isJ r1 = true) (x2 : Int32) (x3 : Int64) (x5 : Int64) (y3 : Int64) (y5 : Int64) (y7 : Int32) (y8 : Int64) (y10 : Int64) (y12 : Int32) (res : (Int64 × hSt)) (C0 : Cx p s m args meth c cX3_curveAt (some .long) RX3 14 D G A) (hA : ∀ q : Nat, s.heap.size ≤ q → A q) (k156 : hSt → Option (Int64 × hSt)) (hk156 : ∀ (σ1 : hSt), k156 σ1 = some res → ∀ (H : Heap) (locs : List Loc) (ls : Array Slot), va_P D vwCl (hW G Z Y σ1) H → va_D A (hW G Z Y σ1) → va_S A s.heap H locs → lv_has ls 14 [(0, .ref (G.2.1 7)), (3, .long y3), (5, .long y5), (7, .int y7), (8, .long y8), (10, .long y10), (12, .int y12)] → W p l e rm_X3_curveAt s m args below meth c H locs 0 0 (MQ below (Qg (some (.long res.1)) D (tysG G) (hW G Z Y res.2) A) args s 0 0 A) (F0 m 156 ls [])) : ∀ (n : Nat) (σ1 : hSt) (z13 : Int32), f_X3_curveAt_L111 y3 y5 y7 y8 y10 y12 k156 n σ1 z13 = some res → ∀ (H : Heap) (locs : List Loc) (ls : Array Slot), va_P D vwCl (hW G Z Y σ1) H → va_D A (hW G Z Y σ1) → va_S A s.heap H locs → lv_has ls 14 [(0, .ref (G.2.1 7)), (3, .long y3), (5, .long y5), (7, .int y7), (8, .long y8), (10, .long y10), (12, .int y12), (13, .int z13)] → W p l e rm_X3_curveAt s m args below meth c H locs 0 0 (MQ below (Qg (some (.long res.1)) D (tysG G) (hW G Z Y res.2) A) args s 0 0 A) (F0 m 111 ls []) := by
  obtain ⟨hx, hb, hr, hml, hown, hts, hlocks, hK, hE⟩ := id C0
  intro n
  induction n with
  | zero =>
    intro σ1 z13 h
    cases h
  | succ n ih =>
    intro σ1 z13 h H locs ls hP hD hS hl
    rw [f_X3_curveAt_L111] at h
    refine lv_iload hx hb dX3_curveAt_111 (lv_at hl 7 rfl) ?_
    refine lv_iconst (v := 1) hx hb dX3_curveAt_113 (by decide) ?_
    refine lv_iadd hx hb dX3_curveAt_114 ?_
    refine lv_iload hx hb dX3_curveAt_115 (lv_at hl 3 rfl) ?_
    refine lv_iload hx hb dX3_curveAt_117 (lv_at hl 6 rfl) ?_
    refine lv_isub hx hb dX3_curveAt_119 ?_
    refine lv_icmp_ge (tgt := 156) hx hb dX3_curveAt_120 (by decide) (fun c10 => ?_) (fun c10 => ?_)
    · skip
      have h := f_t c10 h
      exact hk156 σ1 h _ _ _ hP hD hS (lv_sub hl [0, 1, 2, 3, 4, 5, 6] rfl)
    · skip
      have h := f_f c10 h
      refine lv_aload_n hx hb dX3_curveAt_123 rfl (lv_at hl 0 rfl) ?_
      refine va_get (D := D) (ci := 4) (v := .ref (G.2.1 10)) (C := RX3) (T := TX3) (N := 4) hx hb hts inU_X3 hown hK hP _ (hg_7 G Z Y σ1) rfl 2 (by decide) (hts _ wd_110) (fun _ h9 => h9) rfl dX3_curveAt_124 ?_
      refine lv_iload hx hb dX3_curveAt_127 (lv_at hl 7 rfl) ?_
      refine lv_aload_n hx hb dX3_curveAt_129 rfl (lv_at hl 0 rfl) ?_
      refine va_get (D := D) (ci := 4) (v := .ref (G.2.1 10)) (C := RX3) (T := TX3) (N := 4) hx hb hts inU_X3 hown hK hP _ (hg_7 G Z Y σ1) rfl 2 (by decide) (hts _ wd_110) (fun _ h9 => h9) rfl dX3_curveAt_130 ?_
      refine lv_iload hx hb dX3_curveAt_133 (lv_at hl 7 rfl) ?_
      refine lv_iconst (v := 1) hx hb dX3_curveAt_135 (by decide) ?_
      refine lv_iadd hx hb dX3_curveAt_136 ?_
      obtain ⟨c11, h⟩ := f_n h
      refine va_laldE (v := (σ1.2.1 10 (((z13 + (1 : Int32)) : Int32).toNatClampNeg))) hx hb hK hP _ 1 (hg_10 G Z Y σ1) rfl c11 dX3_curveAt_137 rfl ?_
      refine lv_aload_n hx hb dX3_curveAt_138 rfl (lv_at hl 0 rfl) ?_
      refine va_get (D := D) (ci := 4) (v := .ref (G.2.1 10)) (C := RX3) (T := TX3) (N := 4) hx hb hts inU_X3 hown hK hP _ (hg_7 G Z Y σ1) rfl 2 (by decide) (hts _ wd_110) (fun _ h9 => h9) rfl dX3_curveAt_139 ?_
      refine lv_iload hx hb dX3_curveAt_142 (lv_at hl 7 rfl) ?_
      obtain ⟨c12, h⟩ := f_n h
      refine va_laldE (v := (σ1.2.1 10 ((z13 : Int32).toNatClampNeg))) hx hb hK hP _ 1 (hg_10 G Z Y σ1) rfl c12 dX3_curveAt_144 rfl ?_
      refine lv_lload_n hx hb dX3_curveAt_145 rfl (lv_at hl 1 rfl) ?_
      obtain ⟨q13, hq13, h⟩ := f_b h
      refine cl_S (w := (hW G Z Y σ1)) (w' := (hW G Z Y σ1)) (rv := some (.long q13)) (bytes := cX3_minus) (maxL := 6) (ret := (some .long)) (As := [.long (σ1.2.1 10 (((z13 + (1 : Int32)) : Int32).toNatClampNeg)), .long (σ1.2.1 10 ((z13 : Int32).toNatClampNeg)), .long y3]) (rest := [.int z13, .ref (G.2.1 10)]) (stk := [.long q13, .int z13, .ref (G.2.1 10)]) ⟨hx, hb, hml, hown, hts⟩ hK hE hA hP hD hS (c_X3_minus l D G (hW G Z Y σ1) (σ1.2.1 10 (((z13 + (1 : Int32)) : Int32).toNatClampNeg)) (σ1.2.1 10 ((z13 : Int32).toNatClampNeg)) y3 q13 hq13) (mkS hts wd_590 wd_591 wd_5 wd_592 rfl rfl hd_X3_minus ⟨Nat.le_of_ble_eq_true rfl, Nat.le_of_ble_eq_true rfl⟩) rfl hl.1 rfl (Nat.le_of_ble_eq_true rfl) dX3_curveAt_146 ⟨Nat.zero_le _, Nat.zero_le _⟩ rfl (fun H locs hP hD hS => ?_)
      obtain ⟨c14, h⟩ := f_n h
      refine va_last hx hb hK hP hD hS _ 1 (hg_10 G Z Y σ1) rfl c14 dX3_curveAt_149 (fun H locs hP hD hS => ?_)
      have hP := wrP (hp_10 G Z Y σ1 _ _) hP
      have hD := wrD (hp_10 G Z Y σ1 _ _) hD
      refine lv_iinc (v := (z13 + 1)) (lv' := [(13, .int (z13 + 1)), (0, .ref (G.2.1 7)), (3, .long y3), (5, .long y5), (7, .int y7), (8, .long y8), (10, .long y10), (12, .int y12)]) hx hb dX3_curveAt_150 hl (k := 7) rfl rfl (by decide) rfl (fun ls hl => ?_)
      refine lv_goto (tgt := 111) hx hb dX3_curveAt_153 (by decide) ?_
      exact ih (sJ σ1 10 ((z13 : Int32).toNatClampNeg) q13) (z13 + 1) h _ _ _ hP hD hS (lv_sub hl [1, 2, 3, 4, 5, 6, 7, 0] rfl)
set_option maxRecDepth 100000 in
set_option maxHeartbeats 8000000 in
theorem W_X3_curveAt_L81 {p : Program} {e : Env} {s : State} {m : MethodId} {args : Array Value} {below : List Frame} {meth : Method} {c : Code} {A : Nat → Prop} (l : Launch) (D : va_G) (G : hG) (Z : hZ) (Y : va_W) (σ0 : hSt) (F : Nat) (r1 : Nat) (hr1 : isJ r1 = true) (x2 : Int32) (x3 : Int64) (x5 : Int64) (y3 : Int64) (y5 : Int64) (y7 : Int32) (res : (Int64 × hSt)) (C0 : Cx p s m args meth c cX3_curveAt (some .long) RX3 14 D G A) (hA : ∀ q : Nat, s.heap.size ≤ q → A q) : ∀ (n : Nat) (σ1 : hSt) (z8 : Int64) (z10 : Int64) (z12 : Int32), f_X3_curveAt_L81 F y3 y5 y7 n σ1 z8 z10 z12 = some res → ∀ (H : Heap) (locs : List Loc) (ls : Array Slot), va_P D vwCl (hW G Z Y σ1) H → va_D A (hW G Z Y σ1) → va_S A s.heap H locs → lv_has ls 14 [(0, .ref (G.2.1 7)), (3, .long y3), (5, .long y5), (7, .int y7), (8, .long z8), (10, .long z10), (12, .int z12)] → W p l e rm_X3_curveAt s m args below meth c H locs 0 0 (MQ below (Qg (some (.long res.1)) D (tysG G) (hW G Z Y res.2) A) args s 0 0 A) (F0 m 81 ls []) := by
  obtain ⟨hx, hb, hr, hml, hown, hts, hlocks, hK, hE⟩ := id C0
  intro n
  induction n with
  | zero =>
    intro σ1 z8 z10 z12 h
    cases h
  | succ n ih =>
    intro σ1 z8 z10 z12 h H locs ls hP hD hS hl
    rw [f_X3_curveAt_L81] at h
    refine lv_iload hx hb dX3_curveAt_81 (lv_at hl 6 rfl) ?_
    refine lv_iload hx hb dX3_curveAt_83 (lv_at hl 3 rfl) ?_
    refine lv_icmp_ge (tgt := 206) hx hb dX3_curveAt_85 (by decide) (fun c6 => ?_) (fun c6 => ?_)
    · skip
      have h := f_t c6 h
      refine lv_lload hx hb dX3_curveAt_206 (lv_at hl 4 rfl) ?_
      obtain rfl := Option.some.inj h
      exact W.lret (v := z8) hx hb hr (q_end hK hP hD hS) hS.2.2 dX3_curveAt_208
    · skip
      have h := f_f c6 h
      refine lv_lload hx hb dX3_curveAt_88 (lv_at hl 4 rfl) ?_
      refine lv_lload hx hb dX3_curveAt_90 (lv_at hl 5 rfl) ?_
      refine lv_aload_n hx hb dX3_curveAt_92 rfl (lv_at hl 0 rfl) ?_
      refine va_get (D := D) (ci := 4) (v := .ref (G.2.1 10)) (C := RX3) (T := TX3) (N := 4) hx hb hts inU_X3 hown hK hP _ (hg_7 G Z Y σ1) rfl 2 (by decide) (hts _ wd_110) (fun _ h9 => h9) rfl dX3_curveAt_93 ?_
      refine lv_iconst (v := 0) hx hb dX3_curveAt_96 (by decide) ?_
      obtain ⟨c7, h⟩ := f_n h
      refine va_laldE (v := (σ1.2.1 10 (((0 : Int32) : Int32).toNatClampNeg))) hx hb hK hP _ 1 (hg_10 G Z Y σ1) rfl c7 dX3_curveAt_97 rfl ?_
      refine lv_lload_n hx hb dX3_curveAt_98 rfl (lv_at hl 1 rfl) ?_
      obtain ⟨q8, hq8, h⟩ := f_b h
      refine cl_S (w := (hW G Z Y σ1)) (w' := (hW G Z Y σ1)) (rv := some (.long q8)) (bytes := cX3_times) (maxL := 6) (ret := (some .long)) (As := [.long z10, .long (σ1.2.1 10 (((0 : Int32) : Int32).toNatClampNeg)), .long y3]) (rest := [.long z8]) (stk := [.long q8, .long z8]) ⟨hx, hb, hml, hown, hts⟩ hK hE hA hP hD hS (c_X3_times l D G (hW G Z Y σ1) z10 (σ1.2.1 10 (((0 : Int32) : Int32).toNatClampNeg)) y3 q8 hq8) (mkS hts wd_593 wd_594 wd_5 wd_595 rfl rfl hd_X3_times ⟨Nat.le_of_ble_eq_true rfl, Nat.le_of_ble_eq_true rfl⟩) rfl hl.1 rfl (Nat.le_of_ble_eq_true rfl) dX3_curveAt_99 ⟨Nat.zero_le _, Nat.zero_le _⟩ rfl (fun H locs hP hD hS => ?_)
      refine lv_lload_n hx hb dX3_curveAt_102 rfl (lv_at hl 1 rfl) ?_
      obtain ⟨q9, hq9, h⟩ := f_b h
      refine cl_S (w := (hW G Z Y σ1)) (w' := (hW G Z Y σ1)) (rv := some (.long q9)) (bytes := cX3_plus) (maxL := 8) (ret := (some .long)) (As := [.long z8, .long q8, .long y3]) (rest := []) (stk := [.long q9]) ⟨hx, hb, hml, hown, hts⟩ hK hE hA hP hD hS (c_X3_plus l D G (hW G Z Y σ1) z8 q8 y3 q9 hq9) (mkS hts wd_597 wd_598 wd_5 wd_599 rfl rfl hd_X3_plus ⟨Nat.le_of_ble_eq_true rfl, Nat.le_of_ble_eq_true rfl⟩) rfl hl.1 rfl (Nat.le_of_ble_eq_true rfl) dX3_curveAt_103 ⟨Nat.zero_le _, Nat.zero_le _⟩ rfl (fun H locs hP hD hS => ?_)
      refine lv_lstore (lv' := [(8, .long q9), (0, .ref (G.2.1 7)), (3, .long y3), (5, .long y5), (7, .int y7), (10, .long z10), (12, .int z12)]) hx hb dX3_curveAt_106 hl (by decide) rfl (fun ls hl => ?_)
      refine lv_iconst (v := 0) hx hb dX3_curveAt_108 (by decide) ?_
      refine lv_istore (lv' := [(13, .int (0 : Int32)), (8, .long q9), (0, .ref (G.2.1 7)), (3, .long y3), (5, .long y5), (7, .int y7), (10, .long z10), (12, .int z12)]) hx hb dX3_curveAt_109 hl (by decide) rfl (fun ls hl => ?_)
      refine W_X3_curveAt_L111 l D G Z Y σ0 F r1 hr1 x2 x3 x5 y3 y5 y7 q9 z10 z12 res C0 hA _ ?_ F σ1 (0 : Int32) h _ _ _ hP hD hS (lv_sub hl [2, 3, 4, 5, 1, 6, 7, 0] rfl)
      · intro σ1 h H locs ls hP hD hS hl
        refine lv_iload hx hb dX3_curveAt_156 (lv_at hl 6 rfl) ?_
        refine lv_iconst (v := 1) hx hb dX3_curveAt_158 (by decide) ?_
        refine lv_iadd hx hb dX3_curveAt_159 ?_
        refine lv_iload hx hb dX3_curveAt_160 (lv_at hl 3 rfl) ?_
        refine lv_icmp_ge (tgt := 200) hx hb dX3_curveAt_162 (by decide) (fun c15 => ?_) (fun c15 => ?_)
        · skip
          have h := f_t c15 h
          refine lv_iinc (v := (z12 + 1)) (lv' := [(12, .int (z12 + 1)), (0, .ref (G.2.1 7)), (3, .long y3), (5, .long y5), (7, .int y7), (8, .long q9), (10, .long z10)]) hx hb dX3_curveAt_200 hl (k := 6) rfl rfl (by decide) rfl (fun ls hl => ?_)
          refine lv_goto (tgt := 81) hx hb dX3_curveAt_203 (by decide) ?_
          exact ih σ1 q9 z10 (z12 + 1) h _ _ _ hP hD hS (lv_sub hl [1, 2, 3, 4, 5, 6, 0] rfl)
        · skip
          have h := f_f c15 h
          refine lv_lload hx hb dX3_curveAt_165 (lv_at hl 5 rfl) ?_
          refine lv_lload hx hb dX3_curveAt_167 (lv_at hl 2 rfl) ?_
          refine lv_iload hx hb dX3_curveAt_169 (lv_at hl 6 rfl) ?_
          refine lv_i2l (v := (z12 : Int32).toInt64) hx hb dX3_curveAt_171 rfl ?_
          refine lv_lsub hx hb dX3_curveAt_172 ?_
          refine lv_lload_n hx hb dX3_curveAt_173 rfl (lv_at hl 1 rfl) ?_
          obtain ⟨q16, hq16, h⟩ := f_b h
          refine cl_S (w := (hW G Z Y σ1)) (w' := (hW G Z Y σ1)) (rv := some (.long q16)) (bytes := cX3_rest) (maxL := 4) (ret := (some .long)) (As := [.long (y5 - (z12 : Int32).toInt64), .long y3]) (rest := [.long z10]) (stk := [.long q16, .long z10]) ⟨hx, hb, hml, hown, hts⟩ hK hE hA hP hD hS (c_X3_rest l D G (hW G Z Y σ1) (y5 - (z12 : Int32).toInt64) y3 q16 hq16) (mkS hts wd_707 wd_708 wd_5 wd_709 rfl rfl hd_X3_rest ⟨Nat.le_of_ble_eq_true rfl, Nat.le_of_ble_eq_true rfl⟩) rfl hl.1 rfl (Nat.le_of_ble_eq_true rfl) dX3_curveAt_174 ⟨Nat.zero_le _, Nat.zero_le _⟩ rfl (fun H locs hP hD hS => ?_)
          refine lv_lload_n hx hb dX3_curveAt_177 rfl (lv_at hl 1 rfl) ?_
          obtain ⟨q17, hq17, h⟩ := f_b h
          refine cl_S (w := (hW G Z Y σ1)) (w' := (hW G Z Y σ1)) (rv := some (.long q17)) (bytes := cX3_times) (maxL := 6) (ret := (some .long)) (As := [.long z10, .long q16, .long y3]) (rest := []) (stk := [.long q17]) ⟨hx, hb, hml, hown, hts⟩ hK hE hA hP hD hS (c_X3_times l D G (hW G Z Y σ1) z10 q16 y3 q17 hq17) (mkS hts wd_593 wd_594 wd_5 wd_595 rfl rfl hd_X3_times ⟨Nat.le_of_ble_eq_true rfl, Nat.le_of_ble_eq_true rfl⟩) rfl hl.1 rfl (Nat.le_of_ble_eq_true rfl) dX3_curveAt_178 ⟨Nat.zero_le _, Nat.zero_le _⟩ rfl (fun H locs hP hD hS => ?_)
          refine lv_lstore (lv' := [(10, .long q17), (0, .ref (G.2.1 7)), (3, .long y3), (5, .long y5), (7, .int y7), (8, .long q9), (12, .int z12)]) hx hb dX3_curveAt_181 hl (by decide) rfl (fun ls hl => ?_)
          refine lv_lload hx hb dX3_curveAt_183 (lv_at hl 0 rfl) ?_
          refine lv_aload_n hx hb dX3_curveAt_185 rfl (lv_at hl 1 rfl) ?_
          refine va_get (D := D) (ci := 4) (v := .ref (G.2.1 11)) (C := RX3) (T := TX3) (N := 4) hx hb hts inU_X3 hown hK hP _ (hg_7 G Z Y σ1) rfl 3 (by decide) (hts _ wd_111) (fun _ h9 => h9) rfl dX3_curveAt_186 ?_
          refine lv_iload hx hb dX3_curveAt_189 (lv_at hl 6 rfl) ?_
          refine lv_iconst (v := 1) hx hb dX3_curveAt_191 (by decide) ?_
          refine lv_iadd hx hb dX3_curveAt_192 ?_
          obtain ⟨c18, h⟩ := f_n h
          refine va_laldE (v := (σ1.2.1 11 (((z12 + (1 : Int32)) : Int32).toNatClampNeg))) hx hb hK hP _ 1 (hg_11 G Z Y σ1) rfl c18 dX3_curveAt_193 rfl ?_
          refine lv_lload_n hx hb dX3_curveAt_194 rfl (lv_at hl 2 rfl) ?_
          obtain ⟨q19, hq19, h⟩ := f_b h
          refine cl_S (w := (hW G Z Y σ1)) (w' := (hW G Z Y σ1)) (rv := some (.long q19)) (bytes := cX3_times) (maxL := 6) (ret := (some .long)) (As := [.long q17, .long (σ1.2.1 11 (((z12 + (1 : Int32)) : Int32).toNatClampNeg)), .long y3]) (rest := []) (stk := [.long q19]) ⟨hx, hb, hml, hown, hts⟩ hK hE hA hP hD hS (c_X3_times l D G (hW G Z Y σ1) q17 (σ1.2.1 11 (((z12 + (1 : Int32)) : Int32).toNatClampNeg)) y3 q19 hq19) (mkS hts wd_593 wd_594 wd_5 wd_595 rfl rfl hd_X3_times ⟨Nat.le_of_ble_eq_true rfl, Nat.le_of_ble_eq_true rfl⟩) rfl hl.1 rfl (Nat.le_of_ble_eq_true rfl) dX3_curveAt_195 ⟨Nat.zero_le _, Nat.zero_le _⟩ rfl (fun H locs hP hD hS => ?_)
          refine lv_lstore (lv' := [(10, .long q19), (0, .ref (G.2.1 7)), (3, .long y3), (5, .long y5), (7, .int y7), (8, .long q9), (12, .int z12)]) hx hb dX3_curveAt_198 hl (by decide) rfl (fun ls hl => ?_)
          refine lv_iinc (v := (z12 + 1)) (lv' := [(12, .int (z12 + 1)), (10, .long q19), (0, .ref (G.2.1 7)), (3, .long y3), (5, .long y5), (7, .int y7), (8, .long q9)]) hx hb dX3_curveAt_200 hl (k := 6) rfl rfl (by decide) rfl (fun ls hl => ?_)
          refine lv_goto (tgt := 81) hx hb dX3_curveAt_203 (by decide) ?_
          exact ih σ1 q9 q19 (z12 + 1) h _ _ _ hP hD hS (lv_sub hl [2, 3, 4, 5, 6, 1, 0] rfl)
set_option maxRecDepth 100000 in
set_option maxHeartbeats 8000000 in
theorem c_X3_curveAt (l : Launch) (D : va_G) (G : hG) (Z : hZ) (Y : va_W) (σ0 : hSt) (F : Nat) (r1 : Nat) (hr1 : isJ r1 = true) (x2 : Int32) (x3 : Int64) (x5 : Int64) (res : (Int64 × hSt)) (h : f_X3_curveAt F Z σ0 r1 x2 x3 x5 = some res) : CT l yX3_curveAt cX3_curveAt 14 (some .long) rm_X3_curveAt D G 0 0 [.ref (G.2.1 7), .ref (G.2.1 r1), .int x2, .long x3, .long x5] (hW G Z Y σ0) (hW G Z Y res.2) (some (.long res.1)) := by
  unfold f_X3_curveAt at h
  refine CT.mk (cc := cX3_curveAt) (maxL := 14) (ret := (some .long)) (own := RX3) (plainFor_of_name (by decide)) rfl (Nat.le_of_ble_eq_true rfl) ?_
  intro p e s m args below meth c A ls C0 hnm hA hP hD hl
  obtain ⟨hx, hb, hr, hml, hown, hts, hlocks, hK, hE⟩ := id C0
  have hS : va_S A s.heap s.heap [] := va_S.rf
  have hl : lv_has ls 14 [(0, .ref (G.2.1 7)), (1, .ref (G.2.1 r1)), (2, .int x2), (3, .long x3), (5, .long x5)] := hl
  refine lv_iload_n hx hb dX3_curveAt_0 rfl (lv_at hl 2 rfl) ?_
  refine lv_aload_n hx hb dX3_curveAt_1 rfl (lv_at hl 1 rfl) ?_
  refine va_alen (ty := .long) (v := (Int32.ofNat (jlen r1))) hx hb hK hP _ 1 (hg_J G Z Y σ0 hr1) rfl rfl dX3_curveAt_2 ?_
  refine lv_aload_n hx hb dX3_curveAt_3 rfl (lv_at hl 0 rfl) ?_
  refine va_get (D := D) (ci := 4) (v := .ref (G.2.1 10)) (C := RX3) (T := TX3) (N := 4) hx hb hts inU_X3 hown hK hP _ (hg_7 G Z Y σ0) rfl 2 (by decide) (hts _ wd_110) (fun _ h9 => h9) rfl dX3_curveAt_4 ?_
  refine va_alen (ty := .long) (v := (101 : Int32)) hx hb hK hP _ 1 (hg_10 G Z Y σ0) rfl rfl dX3_curveAt_7 ?_
  refine va_mmin hx hb (hml.trans hl.1.symm) hown (hts _ wd_734) (hts _ wd_400) (hts _ wd_12) (hts _ wd_401) (Nat.le_of_ble_eq_true rfl) (Nat.le_of_ble_eq_true rfl) (Nat.zero_le _) (Nat.zero_le _) dX3_curveAt_8 ?_
  refine va_mmin hx hb (hml.trans hl.1.symm) hown (hts _ wd_734) (hts _ wd_400) (hts _ wd_12) (hts _ wd_401) (Nat.le_of_ble_eq_true rfl) (Nat.le_of_ble_eq_true rfl) (Nat.zero_le _) (Nat.zero_le _) dX3_curveAt_11 ?_
  refine lv_istore (lv' := [(7, .int (if (if (101 : Int32) < (Int32.ofNat (jlen r1)) then (101 : Int32) else (Int32.ofNat (jlen r1))) < x2 then (if (101 : Int32) < (Int32.ofNat (jlen r1)) then (101 : Int32) else (Int32.ofNat (jlen r1))) else x2)), (0, .ref (G.2.1 7)), (1, .ref (G.2.1 r1)), (2, .int x2), (3, .long x3), (5, .long x5)]) hx hb dX3_curveAt_14 hl (by decide) rfl (fun ls hl => ?_)
  refine lv_lload hx hb dX3_curveAt_16 (lv_at hl 5 rfl) ?_
  refine lv_lconst (v := 0) hx hb dX3_curveAt_18 (by decide) ?_
  refine W.lcmp hx hb dX3_curveAt_19 ?_
  refine lv_if_lt (tgt := 38) hx hb dX3_curveAt_20 (by decide) (fun c1 => ?_) (fun c1 => ?_)
  · skip
    have c1 := (lg_cmp_lt _ _).mp c1
    have h := f_t c1 h
    refine lv_iconst (v := 0) hx hb dX3_curveAt_38 (by decide) ?_
    refine lv_istore (lv' := [(8, .int (0 : Int32)), (7, .int (if (if (101 : Int32) < (Int32.ofNat (jlen r1)) then (101 : Int32) else (Int32.ofNat (jlen r1))) < x2 then (if (101 : Int32) < (Int32.ofNat (jlen r1)) then (101 : Int32) else (Int32.ofNat (jlen r1))) else x2)), (0, .ref (G.2.1 7)), (1, .ref (G.2.1 r1)), (2, .int x2), (3, .long x3), (5, .long x5)]) hx hb dX3_curveAt_39 hl (by decide) rfl (fun ls hl => ?_)
    refine W_X3_curveAt_L41 l D G Z Y σ0 F r1 hr1 x2 x3 x5 x3 x5 (if (if (101 : Int32) < (Int32.ofNat (jlen r1)) then (101 : Int32) else (Int32.ofNat (jlen r1))) < x2 then (if (101 : Int32) < (Int32.ofNat (jlen r1)) then (101 : Int32) else (Int32.ofNat (jlen r1))) else x2) res C0 hA _ ?_ F σ0 (0 : Int32) h _ _ _ hP hD hS (lv_sub hl [2, 3, 5, 6, 1, 0] rfl)
    · intro σ1 h H locs ls hP hD hS hl
      refine lv_aload_n hx hb dX3_curveAt_65 rfl (lv_at hl 0 rfl) ?_
      refine lv_iload hx hb dX3_curveAt_66 (lv_at hl 3 rfl) ?_
      refine lv_lload_n hx hb dX3_curveAt_68 rfl (lv_at hl 1 rfl) ?_
      obtain ⟨q5, hq5, h⟩ := f_b h
      refine cl_V (w := (hW G Z Y σ1)) (w' := (hW G Z Y q5.2)) (rv := none) (bytes := cX3_fillInverses) (maxL := 6) (ret := none) (C := RX3) (As := [.int (if (if (101 : Int32) < (Int32.ofNat (jlen r1)) then (101 : Int32) else (Int32.ofNat (jlen r1))) < x2 then (if (101 : Int32) < (Int32.ofNat (jlen r1)) then (101 : Int32) else (Int32.ofNat (jlen r1))) else x2), .long x3]) (rest := []) (stk := []) ⟨hx, hb, hml, hown, hts⟩ hK hE hA hP hD hS (c_X3_fillInverses l D G Z Y σ1 F (if (if (101 : Int32) < (Int32.ofNat (jlen r1)) then (101 : Int32) else (Int32.ofNat (jlen r1))) < x2 then (if (101 : Int32) < (Int32.ofNat (jlen r1)) then (101 : Int32) else (Int32.ofNat (jlen r1))) else x2) x3 q5 hq5) (cwV 2 hts (gwV wd_735 wd_737 wp_21 wd_5 wd_738) rfl rfl rfl hd_X3_fillInverses ⟨Nat.le_of_ble_eq_true rfl, Nat.le_of_ble_eq_true rfl⟩) (hg_7 G Z Y σ1) rfl rfl rfl hl.1 rfl (Nat.le_of_ble_eq_true rfl) dX3_curveAt_69 ⟨Nat.zero_le _, Nat.zero_le _⟩ rfl (fun H locs hP hD hS => ?_)
      refine lv_lconst (v := 0) hx hb dX3_curveAt_72 (by decide) ?_
      refine lv_lstore (lv' := [(8, .long (0 : Int64)), (0, .ref (G.2.1 7)), (3, .long x3), (5, .long x5), (7, .int (if (if (101 : Int32) < (Int32.ofNat (jlen r1)) then (101 : Int32) else (Int32.ofNat (jlen r1))) < x2 then (if (101 : Int32) < (Int32.ofNat (jlen r1)) then (101 : Int32) else (Int32.ofNat (jlen r1))) else x2))]) hx hb dX3_curveAt_73 hl (by decide) rfl (fun ls hl => ?_)
      refine lv_lconst (v := 1) hx hb dX3_curveAt_75 (by decide) ?_
      refine lv_lstore (lv' := [(10, .long (1 : Int64)), (8, .long (0 : Int64)), (0, .ref (G.2.1 7)), (3, .long x3), (5, .long x5), (7, .int (if (if (101 : Int32) < (Int32.ofNat (jlen r1)) then (101 : Int32) else (Int32.ofNat (jlen r1))) < x2 then (if (101 : Int32) < (Int32.ofNat (jlen r1)) then (101 : Int32) else (Int32.ofNat (jlen r1))) else x2))]) hx hb dX3_curveAt_76 hl (by decide) rfl (fun ls hl => ?_)
      refine lv_iconst (v := 0) hx hb dX3_curveAt_78 (by decide) ?_
      refine lv_istore (lv' := [(12, .int (0 : Int32)), (10, .long (1 : Int64)), (8, .long (0 : Int64)), (0, .ref (G.2.1 7)), (3, .long x3), (5, .long x5), (7, .int (if (if (101 : Int32) < (Int32.ofNat (jlen r1)) then (101 : Int32) else (Int32.ofNat (jlen r1))) < x2 then (if (101 : Int32) < (Int32.ofNat (jlen r1)) then (101 : Int32) else (Int32.ofNat (jlen r1))) else x2))]) hx hb dX3_curveAt_79 hl (by decide) rfl (fun ls hl => ?_)
      refine W_X3_curveAt_L81 l D G Z Y σ0 F r1 hr1 x2 x3 x5 x3 x5 (if (if (101 : Int32) < (Int32.ofNat (jlen r1)) then (101 : Int32) else (Int32.ofNat (jlen r1))) < x2 then (if (101 : Int32) < (Int32.ofNat (jlen r1)) then (101 : Int32) else (Int32.ofNat (jlen r1))) else x2) res C0 hA F q5.2 (0 : Int64) (1 : Int64) (0 : Int32) h _ _ _ hP hD hS (lv_sub hl [3, 4, 5, 6, 2, 1, 0] rfl)
  · skip
    have c1 := mt (lg_cmp_lt _ _).mpr c1
    have h := f_f c1 h
    refine lv_lload hx hb dX3_curveAt_23 (lv_at hl 5 rfl) ?_
    refine lv_iload hx hb dX3_curveAt_25 (lv_at hl 0 rfl) ?_
    refine lv_i2l (v := ((if (if (101 : Int32) < (Int32.ofNat (jlen r1)) then (101 : Int32) else (Int32.ofNat (jlen r1))) < x2 then (if (101 : Int32) < (Int32.ofNat (jlen r1)) then (101 : Int32) else (Int32.ofNat (jlen r1))) else x2) : Int32).toInt64) hx hb dX3_curveAt_27 rfl ?_
    refine W.lcmp hx hb dX3_curveAt_28 ?_
    refine lv_if_ge (tgt := 38) hx hb dX3_curveAt_29 (by decide) (fun c20 => ?_) (fun c20 => ?_)
    · skip
      have c20 := (lg_cmp_ge _ _).mp c20
      have h := f_t c20 h
      refine lv_iconst (v := 0) hx hb dX3_curveAt_38 (by decide) ?_
      refine lv_istore (lv' := [(8, .int (0 : Int32)), (7, .int (if (if (101 : Int32) < (Int32.ofNat (jlen r1)) then (101 : Int32) else (Int32.ofNat (jlen r1))) < x2 then (if (101 : Int32) < (Int32.ofNat (jlen r1)) then (101 : Int32) else (Int32.ofNat (jlen r1))) else x2)), (0, .ref (G.2.1 7)), (1, .ref (G.2.1 r1)), (2, .int x2), (3, .long x3), (5, .long x5)]) hx hb dX3_curveAt_39 hl (by decide) rfl (fun ls hl => ?_)
      refine W_X3_curveAt_L41 l D G Z Y σ0 F r1 hr1 x2 x3 x5 x3 x5 (if (if (101 : Int32) < (Int32.ofNat (jlen r1)) then (101 : Int32) else (Int32.ofNat (jlen r1))) < x2 then (if (101 : Int32) < (Int32.ofNat (jlen r1)) then (101 : Int32) else (Int32.ofNat (jlen r1))) else x2) res C0 hA _ ?_ F σ0 (0 : Int32) h _ _ _ hP hD hS (lv_sub hl [2, 3, 5, 6, 1, 0] rfl)
      · intro σ1 h H locs ls hP hD hS hl
        refine lv_aload_n hx hb dX3_curveAt_65 rfl (lv_at hl 0 rfl) ?_
        refine lv_iload hx hb dX3_curveAt_66 (lv_at hl 3 rfl) ?_
        refine lv_lload_n hx hb dX3_curveAt_68 rfl (lv_at hl 1 rfl) ?_
        obtain ⟨q21, hq21, h⟩ := f_b h
        refine cl_V (w := (hW G Z Y σ1)) (w' := (hW G Z Y q21.2)) (rv := none) (bytes := cX3_fillInverses) (maxL := 6) (ret := none) (C := RX3) (As := [.int (if (if (101 : Int32) < (Int32.ofNat (jlen r1)) then (101 : Int32) else (Int32.ofNat (jlen r1))) < x2 then (if (101 : Int32) < (Int32.ofNat (jlen r1)) then (101 : Int32) else (Int32.ofNat (jlen r1))) else x2), .long x3]) (rest := []) (stk := []) ⟨hx, hb, hml, hown, hts⟩ hK hE hA hP hD hS (c_X3_fillInverses l D G Z Y σ1 F (if (if (101 : Int32) < (Int32.ofNat (jlen r1)) then (101 : Int32) else (Int32.ofNat (jlen r1))) < x2 then (if (101 : Int32) < (Int32.ofNat (jlen r1)) then (101 : Int32) else (Int32.ofNat (jlen r1))) else x2) x3 q21 hq21) (cwV 2 hts (gwV wd_735 wd_737 wp_21 wd_5 wd_738) rfl rfl rfl hd_X3_fillInverses ⟨Nat.le_of_ble_eq_true rfl, Nat.le_of_ble_eq_true rfl⟩) (hg_7 G Z Y σ1) rfl rfl rfl hl.1 rfl (Nat.le_of_ble_eq_true rfl) dX3_curveAt_69 ⟨Nat.zero_le _, Nat.zero_le _⟩ rfl (fun H locs hP hD hS => ?_)
        refine lv_lconst (v := 0) hx hb dX3_curveAt_72 (by decide) ?_
        refine lv_lstore (lv' := [(8, .long (0 : Int64)), (0, .ref (G.2.1 7)), (3, .long x3), (5, .long x5), (7, .int (if (if (101 : Int32) < (Int32.ofNat (jlen r1)) then (101 : Int32) else (Int32.ofNat (jlen r1))) < x2 then (if (101 : Int32) < (Int32.ofNat (jlen r1)) then (101 : Int32) else (Int32.ofNat (jlen r1))) else x2))]) hx hb dX3_curveAt_73 hl (by decide) rfl (fun ls hl => ?_)
        refine lv_lconst (v := 1) hx hb dX3_curveAt_75 (by decide) ?_
        refine lv_lstore (lv' := [(10, .long (1 : Int64)), (8, .long (0 : Int64)), (0, .ref (G.2.1 7)), (3, .long x3), (5, .long x5), (7, .int (if (if (101 : Int32) < (Int32.ofNat (jlen r1)) then (101 : Int32) else (Int32.ofNat (jlen r1))) < x2 then (if (101 : Int32) < (Int32.ofNat (jlen r1)) then (101 : Int32) else (Int32.ofNat (jlen r1))) else x2))]) hx hb dX3_curveAt_76 hl (by decide) rfl (fun ls hl => ?_)
        refine lv_iconst (v := 0) hx hb dX3_curveAt_78 (by decide) ?_
        refine lv_istore (lv' := [(12, .int (0 : Int32)), (10, .long (1 : Int64)), (8, .long (0 : Int64)), (0, .ref (G.2.1 7)), (3, .long x3), (5, .long x5), (7, .int (if (if (101 : Int32) < (Int32.ofNat (jlen r1)) then (101 : Int32) else (Int32.ofNat (jlen r1))) < x2 then (if (101 : Int32) < (Int32.ofNat (jlen r1)) then (101 : Int32) else (Int32.ofNat (jlen r1))) else x2))]) hx hb dX3_curveAt_79 hl (by decide) rfl (fun ls hl => ?_)
        refine W_X3_curveAt_L81 l D G Z Y σ0 F r1 hr1 x2 x3 x5 x3 x5 (if (if (101 : Int32) < (Int32.ofNat (jlen r1)) then (101 : Int32) else (Int32.ofNat (jlen r1))) < x2 then (if (101 : Int32) < (Int32.ofNat (jlen r1)) then (101 : Int32) else (Int32.ofNat (jlen r1))) else x2) res C0 hA F q21.2 (0 : Int64) (1 : Int64) (0 : Int32) h _ _ _ hP hD hS (lv_sub hl [3, 4, 5, 6, 2, 1, 0] rfl)
    · skip
      have c20 := mt (lg_cmp_ge _ _).mpr c20
      have h := f_f c20 h
      refine lv_aload_n hx hb dX3_curveAt_32 rfl (lv_at hl 2 rfl) ?_
      refine lv_lload hx hb dX3_curveAt_33 (lv_at hl 5 rfl) ?_
      refine lv_l2i (v := (x5 : Int64).toInt32) hx hb dX3_curveAt_35 rfl ?_
      obtain ⟨c22, h⟩ := f_n h
      refine va_laldE (v := (σ0.2.1 r1 (((x5 : Int64).toInt32 : Int32).toNatClampNeg))) hx hb hK hP _ 1 (hg_J G Z Y σ0 hr1) rfl c22 dX3_curveAt_36 rfl ?_
      obtain rfl := Option.some.inj h
      exact W.lret (v := (σ0.2.1 r1 (((x5 : Int64).toInt32 : Int32).toNatClampNeg))) hx hb hr (q_end hK hP hD hS) hS.2.2 dX3_curveAt_37
abbrev rm_X3_letterWorth : Room := { frames := 0, cells := 0, slots := 0, locals := 0 }
set_option maxRecDepth 100000 in
set_option maxHeartbeats 8000000 in
theorem c_X3_letterWorth (l : Launch) (D : va_G) (G : hG) (Z : hZ) (Y : va_W) (σ0 : hSt) (x0 : Int32) (r1 : Nat) (hr1 : isJ r1 = true) (res : Int64) (h : f_X3_letterWorth Z σ0 x0 r1 = some res) : CT l yX3_letterWorth cX3_letterWorth 2 (some .long) rm_X3_letterWorth D G 0 0 [.int x0, .ref (G.2.1 r1)] (hW G Z Y σ0) (hW G Z Y σ0) (some (.long res)) := by
  unfold f_X3_letterWorth at h
  refine CT.mk (cc := cX3_letterWorth) (maxL := 2) (ret := (some .long)) (own := RX3) (plainFor_of_name (by decide)) rfl (Nat.le_of_ble_eq_true rfl) ?_
  intro p e s m args below meth c A ls C0 hnm hA hP hD hl
  obtain ⟨hx, hb, hr, hml, hown, hts, hlocks, hK, hE⟩ := id C0
  have hS : va_S A s.heap s.heap [] := va_S.rf
  have hl : lv_has ls 2 [(0, .int x0), (1, .ref (G.2.1 r1))] := hl
  refine lv_iload_n hx hb dX3_letterWorth_0 rfl (lv_at hl 0 rfl) ?_
  refine lv_if_lt (tgt := 10) hx hb dX3_letterWorth_1 (by decide) (fun c1 => ?_) (fun c1 => ?_)
  · skip
    have h := f_t c1 h
    refine lv_lconst (v := 0) hx hb dX3_letterWorth_10 (by decide) ?_
    refine lv_goto (tgt := 17) hx hb dX3_letterWorth_11 (by decide) ?_
    obtain rfl := Option.some.inj h
    exact W.lret (v := (0 : Int64)) hx hb hr (q_end hK hP hD hS) hS.2.2 dX3_letterWorth_17
  · skip
    have h := f_f c1 h
    refine lv_iload_n hx hb dX3_letterWorth_4 rfl (lv_at hl 0 rfl) ?_
    refine lv_aload_n hx hb dX3_letterWorth_5 rfl (lv_at hl 1 rfl) ?_
    refine va_alen (ty := .long) (v := (Int32.ofNat (jlen r1))) hx hb hK hP _ 1 (hg_J G Z Y σ0 hr1) rfl rfl dX3_letterWorth_6 ?_
    refine lv_icmp_lt (tgt := 14) hx hb dX3_letterWorth_7 (by decide) (fun c2 => ?_) (fun c2 => ?_)
    · skip
      have h := f_t c2 h
      refine lv_aload_n hx hb dX3_letterWorth_14 rfl (lv_at hl 1 rfl) ?_
      refine lv_iload_n hx hb dX3_letterWorth_15 rfl (lv_at hl 0 rfl) ?_
      obtain ⟨c3, h⟩ := f_n h
      refine va_laldE (v := (σ0.2.1 r1 ((x0 : Int32).toNatClampNeg))) hx hb hK hP _ 1 (hg_J G Z Y σ0 hr1) rfl c3 dX3_letterWorth_16 rfl ?_
      obtain rfl := Option.some.inj h
      exact W.lret (v := (σ0.2.1 r1 ((x0 : Int32).toNatClampNeg))) hx hb hr (q_end hK hP hD hS) hS.2.2 dX3_letterWorth_17
    · skip
      have h := f_f c2 h
      refine lv_lconst (v := 0) hx hb dX3_letterWorth_10 (by decide) ?_
      refine lv_goto (tgt := 17) hx hb dX3_letterWorth_11 (by decide) ?_
      obtain rfl := Option.some.inj h
      exact W.lret (v := (0 : Int64)) hx hb hr (q_end hK hP hD hS) hS.2.2 dX3_letterWorth_17
abbrev rm_X3_worked : Room := { frames := 1, cells := 0, slots := 0, locals := 30 }
set_option maxRecDepth 100000 in
set_option maxHeartbeats 8000000 in
theorem c_X3_worked (l : Launch) (D : va_G) (G : hG) (w : va_W) (x0 : Int32) (x1 : Int64) (x3 : Int64) (res : Int64) (h : f_X3_worked x0 x1 x3 = some res) : CT l yX3_worked cX3_worked 5 (some .long) rm_X3_worked D G 0 0 [.int x0, .long x1, .long x3] w w (some (.long res)) := by
  unfold f_X3_worked at h
  refine CT.mk (cc := cX3_worked) (maxL := 5) (ret := (some .long)) (own := RX3) (plainFor_of_name (by decide)) rfl (Nat.le_of_ble_eq_true rfl) ?_
  intro p e s m args below meth c A ls C0 hnm hA hP hD hl
  obtain ⟨hx, hb, hr, hml, hown, hts, hlocks, hK, hE⟩ := id C0
  have hS : va_S A s.heap s.heap [] := va_S.rf
  have hl : lv_has ls 5 [(0, .int x0), (1, .long x1), (3, .long x3)] := hl
  refine lv_iload_n hx hb dX3_worked_0 rfl (lv_at hl 0 rfl) ?_
  by_cases c1 : x0 = 38
  · have h := f_t c1 h
    refine lv_tableIn (off := 213) (tgt := 214) hx hb dX3_worked_1 (by rw [c1]; decide) (by rw [c1]; decide) (by rw [c1]; rfl) (by decide) ?_
    refine lv_lload_n hx hb dX3_worked_214 rfl (lv_at hl 1 rfl) ?_
    refine lv_lload_n hx hb dX3_worked_215 rfl (lv_at hl 2 rfl) ?_
    refine lv_land hx hb dX3_worked_216 ?_
    obtain rfl := Option.some.inj h
    exact W.lret (v := (x1 &&& x3)) hx hb hr (q_end hK hP hD hS) hS.2.2 dX3_worked_217
  have h := f_f c1 h
  by_cases c2 : x0 = 39
  · have h := f_t c2 h
    refine lv_tableIn (off := 217) (tgt := 218) hx hb dX3_worked_1 (by rw [c2]; decide) (by rw [c2]; decide) (by rw [c2]; rfl) (by decide) ?_
    refine lv_lload_n hx hb dX3_worked_218 rfl (lv_at hl 1 rfl) ?_
    refine lv_lload_n hx hb dX3_worked_219 rfl (lv_at hl 2 rfl) ?_
    refine lv_lor hx hb dX3_worked_220 ?_
    obtain rfl := Option.some.inj h
    exact W.lret (v := (x1 ||| x3)) hx hb hr (q_end hK hP hD hS) hS.2.2 dX3_worked_221
  have h := f_f c2 h
  by_cases c3 : x0 = 40
  · have h := f_t c3 h
    refine lv_tableIn (off := 217) (tgt := 218) hx hb dX3_worked_1 (by rw [c3]; decide) (by rw [c3]; decide) (by rw [c3]; rfl) (by decide) ?_
    refine lv_lload_n hx hb dX3_worked_218 rfl (lv_at hl 1 rfl) ?_
    refine lv_lload_n hx hb dX3_worked_219 rfl (lv_at hl 2 rfl) ?_
    refine lv_lor hx hb dX3_worked_220 ?_
    obtain rfl := Option.some.inj h
    exact W.lret (v := (x1 ||| x3)) hx hb hr (q_end hK hP hD hS) hS.2.2 dX3_worked_221
  have h := f_f c3 h
  by_cases c4 : x0 = 41
  · have h := f_t c4 h
    refine lv_tableIn (off := 217) (tgt := 218) hx hb dX3_worked_1 (by rw [c4]; decide) (by rw [c4]; decide) (by rw [c4]; rfl) (by decide) ?_
    refine lv_lload_n hx hb dX3_worked_218 rfl (lv_at hl 1 rfl) ?_
    refine lv_lload_n hx hb dX3_worked_219 rfl (lv_at hl 2 rfl) ?_
    refine lv_lor hx hb dX3_worked_220 ?_
    obtain rfl := Option.some.inj h
    exact W.lret (v := (x1 ||| x3)) hx hb hr (q_end hK hP hD hS) hS.2.2 dX3_worked_221
  have h := f_f c4 h
  by_cases c5 : x0 = 42
  · have h := f_t c5 h
    refine lv_tableIn (off := 147) (tgt := 148) hx hb dX3_worked_1 (by rw [c5]; decide) (by rw [c5]; decide) (by rw [c5]; rfl) (by decide) ?_
    refine lv_ldc2 (v := (-2000000000)) hx hb hown (hts _ wd_845) dX3_worked_148 ?_
    refine lv_ldc2 (v := 2000000000) hx hb hown (hts _ wd_846) dX3_worked_151 ?_
    refine lv_lload_n hx hb dX3_worked_154 rfl (lv_at hl 1 rfl) ?_
    refine lv_lload_n hx hb dX3_worked_155 rfl (lv_at hl 2 rfl) ?_
    refine lv_lmul hx hb dX3_worked_156 ?_
    refine va_mmin_long hx hb (hml.trans hl.1.symm) hown (hts _ wd_847) (hts _ wd_848) (hts _ wd_12) (hts _ wd_849) (Nat.le_of_ble_eq_true rfl) (Nat.le_of_ble_eq_true rfl) (Nat.zero_le _) (Nat.zero_le _) dX3_worked_157 ?_
    refine va_mmax_long hx hb (hml.trans hl.1.symm) hown (hts _ wd_850) (hts _ wd_851) (hts _ wd_12) (hts _ wd_852) (Nat.le_of_ble_eq_true rfl) (Nat.le_of_ble_eq_true rfl) (Nat.zero_le _) (Nat.zero_le _) dX3_worked_160 ?_
    obtain rfl := Option.some.inj h
    exact W.lret (v := (if (if (x1 * x3) < (2000000000 : Int64) then (x1 * x3) else (2000000000 : Int64)) < (-2000000000 : Int64) then (-2000000000 : Int64) else (if (x1 * x3) < (2000000000 : Int64) then (x1 * x3) else (2000000000 : Int64)))) hx hb hr (q_end hK hP hD hS) hS.2.2 dX3_worked_163
  have h := f_f c5 h
  by_cases c6 : x0 = 43
  · have h := f_t c6 h
    refine lv_tableIn (off := 115) (tgt := 116) hx hb dX3_worked_1 (by rw [c6]; decide) (by rw [c6]; decide) (by rw [c6]; rfl) (by decide) ?_
    refine lv_ldc2 (v := (-2000000000)) hx hb hown (hts _ wd_845) dX3_worked_116 ?_
    refine lv_ldc2 (v := 2000000000) hx hb hown (hts _ wd_846) dX3_worked_119 ?_
    refine lv_lload_n hx hb dX3_worked_122 rfl (lv_at hl 1 rfl) ?_
    refine lv_lload_n hx hb dX3_worked_123 rfl (lv_at hl 2 rfl) ?_
    refine lv_ladd hx hb dX3_worked_124 ?_
    refine va_mmin_long hx hb (hml.trans hl.1.symm) hown (hts _ wd_847) (hts _ wd_848) (hts _ wd_12) (hts _ wd_849) (Nat.le_of_ble_eq_true rfl) (Nat.le_of_ble_eq_true rfl) (Nat.zero_le _) (Nat.zero_le _) dX3_worked_125 ?_
    refine va_mmax_long hx hb (hml.trans hl.1.symm) hown (hts _ wd_850) (hts _ wd_851) (hts _ wd_12) (hts _ wd_852) (Nat.le_of_ble_eq_true rfl) (Nat.le_of_ble_eq_true rfl) (Nat.zero_le _) (Nat.zero_le _) dX3_worked_128 ?_
    obtain rfl := Option.some.inj h
    exact W.lret (v := (if (if (x1 + x3) < (2000000000 : Int64) then (x1 + x3) else (2000000000 : Int64)) < (-2000000000 : Int64) then (-2000000000 : Int64) else (if (x1 + x3) < (2000000000 : Int64) then (x1 + x3) else (2000000000 : Int64)))) hx hb hr (q_end hK hP hD hS) hS.2.2 dX3_worked_131
  have h := f_f c6 h
  by_cases c7 : x0 = 44
  · have h := f_t c7 h
    refine lv_tableIn (off := 217) (tgt := 218) hx hb dX3_worked_1 (by rw [c7]; decide) (by rw [c7]; decide) (by rw [c7]; rfl) (by decide) ?_
    refine lv_lload_n hx hb dX3_worked_218 rfl (lv_at hl 1 rfl) ?_
    refine lv_lload_n hx hb dX3_worked_219 rfl (lv_at hl 2 rfl) ?_
    refine lv_lor hx hb dX3_worked_220 ?_
    obtain rfl := Option.some.inj h
    exact W.lret (v := (x1 ||| x3)) hx hb hr (q_end hK hP hD hS) hS.2.2 dX3_worked_221
  have h := f_f c7 h
  by_cases c8 : x0 = 45
  · have h := f_t c8 h
    refine lv_tableIn (off := 131) (tgt := 132) hx hb dX3_worked_1 (by rw [c8]; decide) (by rw [c8]; decide) (by rw [c8]; rfl) (by decide) ?_
    refine lv_ldc2 (v := (-2000000000)) hx hb hown (hts _ wd_845) dX3_worked_132 ?_
    refine lv_ldc2 (v := 2000000000) hx hb hown (hts _ wd_846) dX3_worked_135 ?_
    refine lv_lload_n hx hb dX3_worked_138 rfl (lv_at hl 1 rfl) ?_
    refine lv_lload_n hx hb dX3_worked_139 rfl (lv_at hl 2 rfl) ?_
    refine lv_lsub hx hb dX3_worked_140 ?_
    refine va_mmin_long hx hb (hml.trans hl.1.symm) hown (hts _ wd_847) (hts _ wd_848) (hts _ wd_12) (hts _ wd_849) (Nat.le_of_ble_eq_true rfl) (Nat.le_of_ble_eq_true rfl) (Nat.zero_le _) (Nat.zero_le _) dX3_worked_141 ?_
    refine va_mmax_long hx hb (hml.trans hl.1.symm) hown (hts _ wd_850) (hts _ wd_851) (hts _ wd_12) (hts _ wd_852) (Nat.le_of_ble_eq_true rfl) (Nat.le_of_ble_eq_true rfl) (Nat.zero_le _) (Nat.zero_le _) dX3_worked_144 ?_
    obtain rfl := Option.some.inj h
    exact W.lret (v := (if (if (x1 - x3) < (2000000000 : Int64) then (x1 - x3) else (2000000000 : Int64)) < (-2000000000 : Int64) then (-2000000000 : Int64) else (if (x1 - x3) < (2000000000 : Int64) then (x1 - x3) else (2000000000 : Int64)))) hx hb hr (q_end hK hP hD hS) hS.2.2 dX3_worked_147
  have h := f_f c8 h
  by_cases c9 : x0 = 46
  · have h := f_t c9 h
    refine lv_tableIn (off := 217) (tgt := 218) hx hb dX3_worked_1 (by rw [c9]; decide) (by rw [c9]; decide) (by rw [c9]; rfl) (by decide) ?_
    refine lv_lload_n hx hb dX3_worked_218 rfl (lv_at hl 1 rfl) ?_
    refine lv_lload_n hx hb dX3_worked_219 rfl (lv_at hl 2 rfl) ?_
    refine lv_lor hx hb dX3_worked_220 ?_
    obtain rfl := Option.some.inj h
    exact W.lret (v := (x1 ||| x3)) hx hb hr (q_end hK hP hD hS) hS.2.2 dX3_worked_221
  have h := f_f c9 h
  by_cases c10 : x0 = 47
  · have h := f_t c10 h
    refine lv_tableIn (off := 163) (tgt := 164) hx hb dX3_worked_1 (by rw [c10]; decide) (by rw [c10]; decide) (by rw [c10]; rfl) (by decide) ?_
    refine lv_lload_n hx hb dX3_worked_164 rfl (lv_at hl 2 rfl) ?_
    refine lv_lconst (v := 0) hx hb dX3_worked_165 (by decide) ?_
    refine W.lcmp hx hb dX3_worked_166 ?_
    refine lv_if_ne (tgt := 174) hx hb dX3_worked_167 (by decide) (fun c11 => ?_) (fun c11 => ?_)
    · skip
      have c11 := mt (lg_cmp_eq _ _).mpr c11
      have h := f_f c11 h
      refine lv_lload_n hx hb dX3_worked_174 rfl (lv_at hl 1 rfl) ?_
      refine lv_lload_n hx hb dX3_worked_175 rfl (lv_at hl 2 rfl) ?_
      obtain ⟨c12, h⟩ := f_n h
      refine lv_ldiv hx hb dX3_worked_176 c12 ?_
      obtain rfl := Option.some.inj h
      exact W.lret (v := (x1 / x3)) hx hb hr (q_end hK hP hD hS) hS.2.2 dX3_worked_177
    · skip
      have c11 := (lg_cmp_eq _ _).mp c11
      have h := f_t c11 h
      refine lv_lconst (v := 0) hx hb dX3_worked_170 (by decide) ?_
      refine lv_goto (tgt := 177) hx hb dX3_worked_171 (by decide) ?_
      obtain rfl := Option.some.inj h
      exact W.lret (v := (0 : Int64)) hx hb hr (q_end hK hP hD hS) hS.2.2 dX3_worked_177
  have h := f_f c10 h
  by_cases c13 : x0 = 48
  · have h := f_t c13 h
    refine lv_tableIn (off := 217) (tgt := 218) hx hb dX3_worked_1 (by rw [c13]; decide) (by rw [c13]; decide) (by rw [c13]; rfl) (by decide) ?_
    refine lv_lload_n hx hb dX3_worked_218 rfl (lv_at hl 1 rfl) ?_
    refine lv_lload_n hx hb dX3_worked_219 rfl (lv_at hl 2 rfl) ?_
    refine lv_lor hx hb dX3_worked_220 ?_
    obtain rfl := Option.some.inj h
    exact W.lret (v := (x1 ||| x3)) hx hb hr (q_end hK hP hD hS) hS.2.2 dX3_worked_221
  have h := f_f c13 h
  by_cases c14 : x0 = 49
  · have h := f_t c14 h
    refine lv_tableIn (off := 217) (tgt := 218) hx hb dX3_worked_1 (by rw [c14]; decide) (by rw [c14]; decide) (by rw [c14]; rfl) (by decide) ?_
    refine lv_lload_n hx hb dX3_worked_218 rfl (lv_at hl 1 rfl) ?_
    refine lv_lload_n hx hb dX3_worked_219 rfl (lv_at hl 2 rfl) ?_
    refine lv_lor hx hb dX3_worked_220 ?_
    obtain rfl := Option.some.inj h
    exact W.lret (v := (x1 ||| x3)) hx hb hr (q_end hK hP hD hS) hS.2.2 dX3_worked_221
  have h := f_f c14 h
  by_cases c15 : x0 = 50
  · have h := f_t c15 h
    refine lv_tableIn (off := 217) (tgt := 218) hx hb dX3_worked_1 (by rw [c15]; decide) (by rw [c15]; decide) (by rw [c15]; rfl) (by decide) ?_
    refine lv_lload_n hx hb dX3_worked_218 rfl (lv_at hl 1 rfl) ?_
    refine lv_lload_n hx hb dX3_worked_219 rfl (lv_at hl 2 rfl) ?_
    refine lv_lor hx hb dX3_worked_220 ?_
    obtain rfl := Option.some.inj h
    exact W.lret (v := (x1 ||| x3)) hx hb hr (q_end hK hP hD hS) hS.2.2 dX3_worked_221
  have h := f_f c15 h
  by_cases c16 : x0 = 51
  · have h := f_t c16 h
    refine lv_tableIn (off := 217) (tgt := 218) hx hb dX3_worked_1 (by rw [c16]; decide) (by rw [c16]; decide) (by rw [c16]; rfl) (by decide) ?_
    refine lv_lload_n hx hb dX3_worked_218 rfl (lv_at hl 1 rfl) ?_
    refine lv_lload_n hx hb dX3_worked_219 rfl (lv_at hl 2 rfl) ?_
    refine lv_lor hx hb dX3_worked_220 ?_
    obtain rfl := Option.some.inj h
    exact W.lret (v := (x1 ||| x3)) hx hb hr (q_end hK hP hD hS) hS.2.2 dX3_worked_221
  have h := f_f c16 h
  by_cases c17 : x0 = 52
  · have h := f_t c17 h
    refine lv_tableIn (off := 217) (tgt := 218) hx hb dX3_worked_1 (by rw [c17]; decide) (by rw [c17]; decide) (by rw [c17]; rfl) (by decide) ?_
    refine lv_lload_n hx hb dX3_worked_218 rfl (lv_at hl 1 rfl) ?_
    refine lv_lload_n hx hb dX3_worked_219 rfl (lv_at hl 2 rfl) ?_
    refine lv_lor hx hb dX3_worked_220 ?_
    obtain rfl := Option.some.inj h
    exact W.lret (v := (x1 ||| x3)) hx hb hr (q_end hK hP hD hS) hS.2.2 dX3_worked_221
  have h := f_f c17 h
  by_cases c18 : x0 = 53
  · have h := f_t c18 h
    refine lv_tableIn (off := 217) (tgt := 218) hx hb dX3_worked_1 (by rw [c18]; decide) (by rw [c18]; decide) (by rw [c18]; rfl) (by decide) ?_
    refine lv_lload_n hx hb dX3_worked_218 rfl (lv_at hl 1 rfl) ?_
    refine lv_lload_n hx hb dX3_worked_219 rfl (lv_at hl 2 rfl) ?_
    refine lv_lor hx hb dX3_worked_220 ?_
    obtain rfl := Option.some.inj h
    exact W.lret (v := (x1 ||| x3)) hx hb hr (q_end hK hP hD hS) hS.2.2 dX3_worked_221
  have h := f_f c18 h
  by_cases c19 : x0 = 54
  · have h := f_t c19 h
    refine lv_tableIn (off := 217) (tgt := 218) hx hb dX3_worked_1 (by rw [c19]; decide) (by rw [c19]; decide) (by rw [c19]; rfl) (by decide) ?_
    refine lv_lload_n hx hb dX3_worked_218 rfl (lv_at hl 1 rfl) ?_
    refine lv_lload_n hx hb dX3_worked_219 rfl (lv_at hl 2 rfl) ?_
    refine lv_lor hx hb dX3_worked_220 ?_
    obtain rfl := Option.some.inj h
    exact W.lret (v := (x1 ||| x3)) hx hb hr (q_end hK hP hD hS) hS.2.2 dX3_worked_221
  have h := f_f c19 h
  by_cases c20 : x0 = 55
  · have h := f_t c20 h
    refine lv_tableIn (off := 217) (tgt := 218) hx hb dX3_worked_1 (by rw [c20]; decide) (by rw [c20]; decide) (by rw [c20]; rfl) (by decide) ?_
    refine lv_lload_n hx hb dX3_worked_218 rfl (lv_at hl 1 rfl) ?_
    refine lv_lload_n hx hb dX3_worked_219 rfl (lv_at hl 2 rfl) ?_
    refine lv_lor hx hb dX3_worked_220 ?_
    obtain rfl := Option.some.inj h
    exact W.lret (v := (x1 ||| x3)) hx hb hr (q_end hK hP hD hS) hS.2.2 dX3_worked_221
  have h := f_f c20 h
  by_cases c21 : x0 = 56
  · have h := f_t c21 h
    refine lv_tableIn (off := 217) (tgt := 218) hx hb dX3_worked_1 (by rw [c21]; decide) (by rw [c21]; decide) (by rw [c21]; rfl) (by decide) ?_
    refine lv_lload_n hx hb dX3_worked_218 rfl (lv_at hl 1 rfl) ?_
    refine lv_lload_n hx hb dX3_worked_219 rfl (lv_at hl 2 rfl) ?_
    refine lv_lor hx hb dX3_worked_220 ?_
    obtain rfl := Option.some.inj h
    exact W.lret (v := (x1 ||| x3)) hx hb hr (q_end hK hP hD hS) hS.2.2 dX3_worked_221
  have h := f_f c21 h
  by_cases c22 : x0 = 57
  · have h := f_t c22 h
    refine lv_tableIn (off := 217) (tgt := 218) hx hb dX3_worked_1 (by rw [c22]; decide) (by rw [c22]; decide) (by rw [c22]; rfl) (by decide) ?_
    refine lv_lload_n hx hb dX3_worked_218 rfl (lv_at hl 1 rfl) ?_
    refine lv_lload_n hx hb dX3_worked_219 rfl (lv_at hl 2 rfl) ?_
    refine lv_lor hx hb dX3_worked_220 ?_
    obtain rfl := Option.some.inj h
    exact W.lret (v := (x1 ||| x3)) hx hb hr (q_end hK hP hD hS) hS.2.2 dX3_worked_221
  have h := f_f c22 h
  by_cases c23 : x0 = 58
  · have h := f_t c23 h
    refine lv_tableIn (off := 217) (tgt := 218) hx hb dX3_worked_1 (by rw [c23]; decide) (by rw [c23]; decide) (by rw [c23]; rfl) (by decide) ?_
    refine lv_lload_n hx hb dX3_worked_218 rfl (lv_at hl 1 rfl) ?_
    refine lv_lload_n hx hb dX3_worked_219 rfl (lv_at hl 2 rfl) ?_
    refine lv_lor hx hb dX3_worked_220 ?_
    obtain rfl := Option.some.inj h
    exact W.lret (v := (x1 ||| x3)) hx hb hr (q_end hK hP hD hS) hS.2.2 dX3_worked_221
  have h := f_f c23 h
  by_cases c24 : x0 = 59
  · have h := f_t c24 h
    refine lv_tableIn (off := 217) (tgt := 218) hx hb dX3_worked_1 (by rw [c24]; decide) (by rw [c24]; decide) (by rw [c24]; rfl) (by decide) ?_
    refine lv_lload_n hx hb dX3_worked_218 rfl (lv_at hl 1 rfl) ?_
    refine lv_lload_n hx hb dX3_worked_219 rfl (lv_at hl 2 rfl) ?_
    refine lv_lor hx hb dX3_worked_220 ?_
    obtain rfl := Option.some.inj h
    exact W.lret (v := (x1 ||| x3)) hx hb hr (q_end hK hP hD hS) hS.2.2 dX3_worked_221
  have h := f_f c24 h
  by_cases c25 : x0 = 60
  · have h := f_t c25 h
    refine lv_tableIn (off := 189) (tgt := 190) hx hb dX3_worked_1 (by rw [c25]; decide) (by rw [c25]; decide) (by rw [c25]; rfl) (by decide) ?_
    refine lv_lload_n hx hb dX3_worked_190 rfl (lv_at hl 1 rfl) ?_
    refine lv_lload_n hx hb dX3_worked_191 rfl (lv_at hl 2 rfl) ?_
    refine W.lcmp hx hb dX3_worked_192 ?_
    refine lv_if_ge (tgt := 200) hx hb dX3_worked_193 (by decide) (fun c26 => ?_) (fun c26 => ?_)
    · skip
      have c26 := (lg_cmp_ge _ _).mp c26
      have h := f_t c26 h
      refine lv_lconst (v := 0) hx hb dX3_worked_200 (by decide) ?_
      obtain rfl := Option.some.inj h
      exact W.lret (v := (0 : Int64)) hx hb hr (q_end hK hP hD hS) hS.2.2 dX3_worked_201
    · skip
      have c26 := mt (lg_cmp_ge _ _).mpr c26
      have h := f_f c26 h
      refine lv_lconst (v := 1) hx hb dX3_worked_196 (by decide) ?_
      refine lv_goto (tgt := 201) hx hb dX3_worked_197 (by decide) ?_
      obtain rfl := Option.some.inj h
      exact W.lret (v := (1 : Int64)) hx hb hr (q_end hK hP hD hS) hS.2.2 dX3_worked_201
  have h := f_f c25 h
  by_cases c27 : x0 = 61
  · have h := f_t c27 h
    refine lv_tableIn (off := 177) (tgt := 178) hx hb dX3_worked_1 (by rw [c27]; decide) (by rw [c27]; decide) (by rw [c27]; rfl) (by decide) ?_
    refine lv_lload_n hx hb dX3_worked_178 rfl (lv_at hl 1 rfl) ?_
    refine lv_lload_n hx hb dX3_worked_179 rfl (lv_at hl 2 rfl) ?_
    refine W.lcmp hx hb dX3_worked_180 ?_
    refine lv_if_ne (tgt := 188) hx hb dX3_worked_181 (by decide) (fun c28 => ?_) (fun c28 => ?_)
    · skip
      have c28 := mt (lg_cmp_eq _ _).mpr c28
      have h := f_f c28 h
      refine lv_lconst (v := 0) hx hb dX3_worked_188 (by decide) ?_
      obtain rfl := Option.some.inj h
      exact W.lret (v := (0 : Int64)) hx hb hr (q_end hK hP hD hS) hS.2.2 dX3_worked_189
    · skip
      have c28 := (lg_cmp_eq _ _).mp c28
      have h := f_t c28 h
      refine lv_lconst (v := 1) hx hb dX3_worked_184 (by decide) ?_
      refine lv_goto (tgt := 189) hx hb dX3_worked_185 (by decide) ?_
      obtain rfl := Option.some.inj h
      exact W.lret (v := (1 : Int64)) hx hb hr (q_end hK hP hD hS) hS.2.2 dX3_worked_189
  have h := f_f c27 h
  by_cases c29 : x0 = 62
  · have h := f_t c29 h
    refine lv_tableIn (off := 201) (tgt := 202) hx hb dX3_worked_1 (by rw [c29]; decide) (by rw [c29]; decide) (by rw [c29]; rfl) (by decide) ?_
    refine lv_lload_n hx hb dX3_worked_202 rfl (lv_at hl 1 rfl) ?_
    refine lv_lload_n hx hb dX3_worked_203 rfl (lv_at hl 2 rfl) ?_
    refine W.lcmp hx hb dX3_worked_204 ?_
    refine lv_if_le (tgt := 212) hx hb dX3_worked_205 (by decide) (fun c30 => ?_) (fun c30 => ?_)
    · skip
      have c30 := (lg_cmp_le _ _).mp c30
      have h := f_t c30 h
      refine lv_lconst (v := 0) hx hb dX3_worked_212 (by decide) ?_
      obtain rfl := Option.some.inj h
      exact W.lret (v := (0 : Int64)) hx hb hr (q_end hK hP hD hS) hS.2.2 dX3_worked_213
    · skip
      have c30 := mt (lg_cmp_le _ _).mpr c30
      have h := f_f c30 h
      refine lv_lconst (v := 1) hx hb dX3_worked_208 (by decide) ?_
      refine lv_goto (tgt := 213) hx hb dX3_worked_209 (by decide) ?_
      obtain rfl := Option.some.inj h
      exact W.lret (v := (1 : Int64)) hx hb hr (q_end hK hP hD hS) hS.2.2 dX3_worked_213
  have h := f_f c29 h
  have hne0 := i32ne (z := 38) (by decide) c1
  have hne1 := i32ne (z := 39) (by decide) c2
  have hne2 := i32ne (z := 40) (by decide) c3
  have hne3 := i32ne (z := 41) (by decide) c4
  have hne4 := i32ne (z := 42) (by decide) c5
  have hne5 := i32ne (z := 43) (by decide) c6
  have hne6 := i32ne (z := 44) (by decide) c7
  have hne7 := i32ne (z := 45) (by decide) c8
  have hne8 := i32ne (z := 46) (by decide) c9
  have hne9 := i32ne (z := 47) (by decide) c10
  have hne10 := i32ne (z := 48) (by decide) c13
  have hne11 := i32ne (z := 49) (by decide) c14
  have hne12 := i32ne (z := 50) (by decide) c15
  have hne13 := i32ne (z := 51) (by decide) c16
  have hne14 := i32ne (z := 52) (by decide) c17
  have hne15 := i32ne (z := 53) (by decide) c18
  have hne16 := i32ne (z := 54) (by decide) c19
  have hne17 := i32ne (z := 55) (by decide) c20
  have hne18 := i32ne (z := 56) (by decide) c21
  have hne19 := i32ne (z := 57) (by decide) c22
  have hne20 := i32ne (z := 58) (by decide) c23
  have hne21 := i32ne (z := 59) (by decide) c24
  have hne22 := i32ne (z := 60) (by decide) c25
  have hne23 := i32ne (z := 61) (by decide) c27
  have hne24 := i32ne (z := 62) (by decide) c29
  refine lv_tableOut (tgt := 218) hx hb dX3_worked_1 (by omega) (by decide) ?_
  refine lv_lload_n hx hb dX3_worked_218 rfl (lv_at hl 1 rfl) ?_
  refine lv_lload_n hx hb dX3_worked_219 rfl (lv_at hl 2 rfl) ?_
  refine lv_lor hx hb dX3_worked_220 ?_
  obtain rfl := Option.some.inj h
  exact W.lret (v := (x1 ||| x3)) hx hb hr (q_end hK hP hD hS) hS.2.2 dX3_worked_221
abbrev rm_X3_reckoned : Room := { frames := 2, cells := 0, slots := 0, locals := 54 }
set_option maxRecDepth 100000 in
set_option maxHeartbeats 8000000 in
theorem W_X3_reckoned_L10 {p : Program} {e : Env} {s : State} {m : MethodId} {args : Array Value} {below : List Frame} {meth : Method} {c : Code} {A : Nat → Prop} (l : Launch) (D : va_G) (G : hG) (Z : hZ) (Y : va_W) (σ0 : hSt) (F : Nat) (r1 : Nat) (hr1 : isAr Z r1 = true) (x2 : Int32) (x3 : Int32) (r4 : Nat) (hr4 : isJ r4 = true) (y2 : Int32) (y3 : Int32) (res : (Int64 × hSt)) (C0 : Cx p s m args meth c cX3_reckoned (some .long) RX3 8 D G A) (hA : ∀ q : Nat, s.heap.size ≤ q → A q) (k172 : hSt → Int32 → Option (Int64 × hSt)) (hk172 : ∀ (σ1 : hSt) (z5 : Int32), k172 σ1 z5 = some res → ∀ (H : Heap) (locs : List Loc) (ls : Array Slot), va_P D vwCl (hW G Z Y σ1) H → va_D A (hW G Z Y σ1) → va_S A s.heap H locs → lv_has ls 8 [(0, .ref (G.2.1 7)), (5, .int z5)] → W p l e rm_X3_reckoned s m args below meth c H locs 0 0 (MQ below (Qg (some (.long res.1)) D (tysG G) (hW G Z Y res.2) A) args s 0 0 A) (F0 m 172 ls [])) : ∀ (n : Nat) (σ1 : hSt) (z5 : Int32) (z6 : Int32), f_X3_reckoned_L10 Z r1 r4 y2 y3 k172 n σ1 z5 z6 = some res → ∀ (H : Heap) (locs : List Loc) (ls : Array Slot), va_P D vwCl (hW G Z Y σ1) H → va_D A (hW G Z Y σ1) → va_S A s.heap H locs → lv_has ls 8 [(0, .ref (G.2.1 7)), (1, .ref (G.2.1 r1)), (2, .int y2), (3, .int y3), (4, .ref (G.2.1 r4)), (5, .int z5), (6, .int z6)] → W p l e rm_X3_reckoned s m args below meth c H locs 0 0 (MQ below (Qg (some (.long res.1)) D (tysG G) (hW G Z Y res.2) A) args s 0 0 A) (F0 m 10 ls []) := by
  obtain ⟨hx, hb, hr, hml, hown, hts, hlocks, hK, hE⟩ := id C0
  intro n
  induction n with
  | zero =>
    intro σ1 z5 z6 h
    cases h
  | succ n ih =>
    intro σ1 z5 z6 h H locs ls hP hD hS hl
    rw [f_X3_reckoned_L10] at h
    refine lv_iload hx hb dX3_reckoned_10 (lv_at hl 6 rfl) ?_
    refine lv_iload_n hx hb dX3_reckoned_12 rfl (lv_at hl 2 rfl) ?_
    refine lv_iload_n hx hb dX3_reckoned_13 rfl (lv_at hl 3 rfl) ?_
    refine lv_iadd hx hb dX3_reckoned_14 ?_
    refine lv_icmp_ge (tgt := 172) hx hb dX3_reckoned_15 (by decide) (fun c1 => ?_) (fun c1 => ?_)
    · skip
      have h := f_t c1 h
      exact hk172 σ1 z5 h _ _ _ hP hD hS (lv_sub hl [0, 5] rfl)
    · skip
      have h := f_f c1 h
      refine lv_iload hx hb dX3_reckoned_18 (lv_at hl 6 rfl) ?_
      refine lv_aload_n hx hb dX3_reckoned_20 rfl (lv_at hl 1 rfl) ?_
      obtain ⟨qq2, hq2⟩ := hg_Ar G Z Y σ1 hr1
      refine va_alen (ty := .int) (v := (Int32.ofNat (Z.2.1 r1))) hx hb hK hP _ 0 hq2 rfl rfl dX3_reckoned_21 ?_
      refine lv_icmp_ge (tgt := 172) hx hb dX3_reckoned_22 (by decide) (fun c3 => ?_) (fun c3 => ?_)
      · skip
        have h := f_t c3 h
        exact hk172 σ1 z5 h _ _ _ hP hD hS (lv_sub hl [0, 5] rfl)
      · skip
        have h := f_f c3 h
        refine lv_aload_n hx hb dX3_reckoned_25 rfl (lv_at hl 1 rfl) ?_
        refine lv_iload hx hb dX3_reckoned_26 (lv_at hl 6 rfl) ?_
        obtain ⟨qq4, hq4⟩ := hg_Ar G Z Y σ1 hr1
        obtain ⟨c5, h⟩ := f_n h
        refine va_ialdE (v := (Z.2.2.1 r1 (z6 : Int32).toNatClampNeg)) hx hb hK hP _ 0 hq4 rfl c5 dX3_reckoned_28 rfl ?_
        refine lv_istore (lv' := [(7, .int (Z.2.2.1 r1 (z6 : Int32).toNatClampNeg)), (0, .ref (G.2.1 7)), (1, .ref (G.2.1 r1)), (2, .int y2), (3, .int y3), (4, .ref (G.2.1 r4)), (5, .int z5), (6, .int z6)]) hx hb dX3_reckoned_29 hl (by decide) rfl (fun ls hl => ?_)
        refine lv_iload hx hb dX3_reckoned_31 (lv_at hl 0 rfl) ?_
        refine lv_sipush (v := 20000) hx hb dX3_reckoned_33 (by decide) ?_
        refine lv_icmp_ge (tgt := 87) hx hb dX3_reckoned_36 (by decide) (fun c6 => ?_) (fun c6 => ?_)
        · skip
          have h := f_t c6 h
          refine lv_iload hx hb dX3_reckoned_87 (lv_at hl 0 rfl) ?_
          refine lv_sipush (v := 20033) hx hb dX3_reckoned_89 (by decide) ?_
          refine lv_icmp_ne (tgt := 123) hx hb dX3_reckoned_92 (by decide) (fun c7 => ?_) (fun c7 => ?_)
          · skip
            have h := f_f c7 h
            refine lv_iload hx hb dX3_reckoned_123 (lv_at hl 6 rfl) ?_
            refine lv_iconst (v := 1) hx hb dX3_reckoned_125 (by decide) ?_
            refine lv_icmp_le (tgt := 166) hx hb dX3_reckoned_126 (by decide) (fun c8 => ?_) (fun c8 => ?_)
            · skip
              have h := f_t c8 h
              refine lv_iinc (v := (z6 + 1)) (lv' := [(6, .int (z6 + 1)), (7, .int (Z.2.2.1 r1 (z6 : Int32).toNatClampNeg)), (0, .ref (G.2.1 7)), (1, .ref (G.2.1 r1)), (2, .int y2), (3, .int y3), (4, .ref (G.2.1 r4)), (5, .int z5)]) hx hb dX3_reckoned_166 hl (k := 7) rfl rfl (by decide) rfl (fun ls hl => ?_)
              refine lv_goto (tgt := 10) hx hb dX3_reckoned_169 (by decide) ?_
              exact ih σ1 z5 (z6 + 1) h _ _ _ hP hD hS (lv_sub hl [2, 3, 4, 5, 6, 7, 0] rfl)
            · skip
              have h := f_f c8 h
              refine lv_iinc (v := (z5 + (-1 : Int32))) (lv' := [(5, .int (z5 + (-1 : Int32))), (7, .int (Z.2.2.1 r1 (z6 : Int32).toNatClampNeg)), (0, .ref (G.2.1 7)), (1, .ref (G.2.1 r1)), (2, .int y2), (3, .int y3), (4, .ref (G.2.1 r4)), (6, .int z6)]) hx hb dX3_reckoned_129 hl (k := 6) rfl rfl (by decide) rfl (fun ls hl => ?_)
              refine lv_aload_n hx hb dX3_reckoned_132 rfl (lv_at hl 2 rfl) ?_
              refine va_get (D := D) (ci := 4) (v := .ref (G.2.1 8)) (C := RX3) (T := TX3) (N := 4) hx hb hts inU_X3 hown hK hP _ (hg_7 G Z Y σ1) rfl 0 (by decide) (hts _ wd_107) (fun _ h9 => h9) rfl dX3_reckoned_133 ?_
              refine lv_iload hx hb dX3_reckoned_136 (lv_at hl 0 rfl) ?_
              refine lv_iconst (v := 1) hx hb dX3_reckoned_138 (by decide) ?_
              refine lv_isub hx hb dX3_reckoned_139 ?_
              refine lv_iload hx hb dX3_reckoned_140 (lv_at hl 1 rfl) ?_
              refine lv_sipush (v := 20000) hx hb dX3_reckoned_142 (by decide) ?_
              refine lv_isub hx hb dX3_reckoned_145 ?_
              refine lv_aload_n hx hb dX3_reckoned_146 rfl (lv_at hl 2 rfl) ?_
              refine va_get (D := D) (ci := 4) (v := .ref (G.2.1 8)) (C := RX3) (T := TX3) (N := 4) hx hb hts inU_X3 hown hK hP _ (hg_7 G Z Y σ1) rfl 0 (by decide) (hts _ wd_107) (fun _ h9 => h9) rfl dX3_reckoned_147 ?_
              refine lv_iload hx hb dX3_reckoned_150 (lv_at hl 0 rfl) ?_
              refine lv_iconst (v := 1) hx hb dX3_reckoned_152 (by decide) ?_
              refine lv_isub hx hb dX3_reckoned_153 ?_
              obtain ⟨c9, h⟩ := f_n h
              refine va_laldE (v := (σ1.2.1 8 ((((z5 + (-1 : Int32)) - (1 : Int32)) : Int32).toNatClampNeg))) hx hb hK hP _ 1 (hg_8 G Z Y σ1) rfl c9 dX3_reckoned_154 rfl ?_
              refine lv_aload_n hx hb dX3_reckoned_155 rfl (lv_at hl 2 rfl) ?_
              refine va_get (D := D) (ci := 4) (v := .ref (G.2.1 8)) (C := RX3) (T := TX3) (N := 4) hx hb hts inU_X3 hown hK hP _ (hg_7 G Z Y σ1) rfl 0 (by decide) (hts _ wd_107) (fun _ h9 => h9) rfl dX3_reckoned_156 ?_
              refine lv_iload hx hb dX3_reckoned_159 (lv_at hl 0 rfl) ?_
              obtain ⟨c10, h⟩ := f_n h
              refine va_laldE (v := (σ1.2.1 8 (((z5 + (-1 : Int32)) : Int32).toNatClampNeg))) hx hb hK hP _ 1 (hg_8 G Z Y σ1) rfl c10 dX3_reckoned_161 rfl ?_
              obtain ⟨q11, hq11, h⟩ := f_b h
              refine cl_S (w := (hW G Z Y σ1)) (w' := (hW G Z Y σ1)) (rv := some (.long q11)) (bytes := cX3_worked) (maxL := 5) (ret := (some .long)) (As := [.int ((Z.2.2.1 r1 (z6 : Int32).toNatClampNeg) - (20000 : Int32)), .long (σ1.2.1 8 ((((z5 + (-1 : Int32)) - (1 : Int32)) : Int32).toNatClampNeg)), .long (σ1.2.1 8 (((z5 + (-1 : Int32)) : Int32).toNatClampNeg))]) (rest := [.int ((z5 + (-1 : Int32)) - (1 : Int32)), .ref (G.2.1 8)]) (stk := [.long q11, .int ((z5 + (-1 : Int32)) - (1 : Int32)), .ref (G.2.1 8)]) ⟨hx, hb, hml, hown, hts⟩ hK hE hA hP hD hS (c_X3_worked l D G (hW G Z Y σ1) ((Z.2.2.1 r1 (z6 : Int32).toNatClampNeg) - (20000 : Int32)) (σ1.2.1 8 ((((z5 + (-1 : Int32)) - (1 : Int32)) : Int32).toNatClampNeg)) (σ1.2.1 8 (((z5 + (-1 : Int32)) : Int32).toNatClampNeg)) q11 hq11) (mkS hts wd_842 wd_843 wd_5 wd_844 rfl rfl hd_X3_worked ⟨Nat.le_of_ble_eq_true rfl, Nat.le_of_ble_eq_true rfl⟩) rfl hl.1 rfl (Nat.le_of_ble_eq_true rfl) dX3_reckoned_162 ⟨Nat.zero_le _, Nat.zero_le _⟩ rfl (fun H locs hP hD hS => ?_)
              obtain ⟨c12, h⟩ := f_n h
              refine va_last hx hb hK hP hD hS _ 1 (hg_8 G Z Y σ1) rfl c12 dX3_reckoned_165 (fun H locs hP hD hS => ?_)
              have hP := wrP (hp_8 G Z Y σ1 _ _) hP
              have hD := wrD (hp_8 G Z Y σ1 _ _) hD
              refine lv_iinc (v := (z6 + 1)) (lv' := [(6, .int (z6 + 1)), (5, .int (z5 + (-1 : Int32))), (7, .int (Z.2.2.1 r1 (z6 : Int32).toNatClampNeg)), (0, .ref (G.2.1 7)), (1, .ref (G.2.1 r1)), (2, .int y2), (3, .int y3), (4, .ref (G.2.1 r4))]) hx hb dX3_reckoned_166 hl (k := 7) rfl rfl (by decide) rfl (fun ls hl => ?_)
              refine lv_goto (tgt := 10) hx hb dX3_reckoned_169 (by decide) ?_
              exact ih (sJ σ1 8 ((((z5 + (-1 : Int32)) - (1 : Int32)) : Int32).toNatClampNeg) q11) (z5 + (-1 : Int32)) (z6 + 1) h _ _ _ hP hD hS (lv_sub hl [3, 4, 5, 6, 7, 1, 0] rfl)
          · skip
            have h := f_t c7 h
            refine lv_iload hx hb dX3_reckoned_95 (lv_at hl 6 rfl) ?_
            refine lv_if_le (tgt := 166) hx hb dX3_reckoned_97 (by decide) (fun c13 => ?_) (fun c13 => ?_)
            · skip
              have h := f_t c13 h
              refine lv_iinc (v := (z6 + 1)) (lv' := [(6, .int (z6 + 1)), (7, .int (Z.2.2.1 r1 (z6 : Int32).toNatClampNeg)), (0, .ref (G.2.1 7)), (1, .ref (G.2.1 r1)), (2, .int y2), (3, .int y3), (4, .ref (G.2.1 r4)), (5, .int z5)]) hx hb dX3_reckoned_166 hl (k := 7) rfl rfl (by decide) rfl (fun ls hl => ?_)
              refine lv_goto (tgt := 10) hx hb dX3_reckoned_169 (by decide) ?_
              exact ih σ1 z5 (z6 + 1) h _ _ _ hP hD hS (lv_sub hl [2, 3, 4, 5, 6, 7, 0] rfl)
            · skip
              have h := f_f c13 h
              refine lv_aload_n hx hb dX3_reckoned_100 rfl (lv_at hl 1 rfl) ?_
              refine va_get (D := D) (ci := 4) (v := .ref (G.2.1 8)) (C := RX3) (T := TX3) (N := 4) hx hb hts inU_X3 hown hK hP _ (hg_7 G Z Y σ1) rfl 0 (by decide) (hts _ wd_107) (fun _ h9 => h9) rfl dX3_reckoned_101 ?_
              refine lv_iload hx hb dX3_reckoned_104 (lv_at hl 6 rfl) ?_
              refine lv_iconst (v := 1) hx hb dX3_reckoned_106 (by decide) ?_
              refine lv_isub hx hb dX3_reckoned_107 ?_
              refine lv_lconst (v := 1) hx hb dX3_reckoned_108 (by decide) ?_
              refine lv_aload_n hx hb dX3_reckoned_109 rfl (lv_at hl 1 rfl) ?_
              refine va_get (D := D) (ci := 4) (v := .ref (G.2.1 8)) (C := RX3) (T := TX3) (N := 4) hx hb hts inU_X3 hown hK hP _ (hg_7 G Z Y σ1) rfl 0 (by decide) (hts _ wd_107) (fun _ h9 => h9) rfl dX3_reckoned_110 ?_
              refine lv_iload hx hb dX3_reckoned_113 (lv_at hl 6 rfl) ?_
              refine lv_iconst (v := 1) hx hb dX3_reckoned_115 (by decide) ?_
              refine lv_isub hx hb dX3_reckoned_116 ?_
              obtain ⟨c14, h⟩ := f_n h
              refine va_laldE (v := (σ1.2.1 8 (((z5 - (1 : Int32)) : Int32).toNatClampNeg))) hx hb hK hP _ 1 (hg_8 G Z Y σ1) rfl c14 dX3_reckoned_117 rfl ?_
              refine lv_lsub hx hb dX3_reckoned_118 ?_
              obtain ⟨c15, h⟩ := f_n h
              refine va_last hx hb hK hP hD hS _ 1 (hg_8 G Z Y σ1) rfl c15 dX3_reckoned_119 (fun H locs hP hD hS => ?_)
              have hP := wrP (hp_8 G Z Y σ1 _ _) hP
              have hD := wrD (hp_8 G Z Y σ1 _ _) hD
              refine lv_goto (tgt := 166) hx hb dX3_reckoned_120 (by decide) ?_
              refine lv_iinc (v := (z6 + 1)) (lv' := [(6, .int (z6 + 1)), (7, .int (Z.2.2.1 r1 (z6 : Int32).toNatClampNeg)), (0, .ref (G.2.1 7)), (1, .ref (G.2.1 r1)), (2, .int y2), (3, .int y3), (4, .ref (G.2.1 r4)), (5, .int z5)]) hx hb dX3_reckoned_166 hl (k := 7) rfl rfl (by decide) rfl (fun ls hl => ?_)
              refine lv_goto (tgt := 10) hx hb dX3_reckoned_169 (by decide) ?_
              exact ih (sJ σ1 8 (((z5 - (1 : Int32)) : Int32).toNatClampNeg) ((1 : Int64) - (σ1.2.1 8 (((z5 - (1 : Int32)) : Int32).toNatClampNeg)))) z5 (z6 + 1) h _ _ _ hP hD hS (lv_sub hl [2, 3, 4, 5, 6, 7, 0] rfl)
        · skip
          have h := f_f c6 h
          refine lv_iload hx hb dX3_reckoned_39 (lv_at hl 6 rfl) ?_
          refine lv_aload_n hx hb dX3_reckoned_41 rfl (lv_at hl 1 rfl) ?_
          refine va_get (D := D) (ci := 4) (v := .ref (G.2.1 8)) (C := RX3) (T := TX3) (N := 4) hx hb hts inU_X3 hown hK hP _ (hg_7 G Z Y σ1) rfl 0 (by decide) (hts _ wd_107) (fun _ h9 => h9) rfl dX3_reckoned_42 ?_
          refine va_alen (ty := .long) (v := (64 : Int32)) hx hb hK hP _ 1 (hg_8 G Z Y σ1) rfl rfl dX3_reckoned_45 ?_
          refine lv_icmp_ge (tgt := 166) hx hb dX3_reckoned_46 (by decide) (fun c16 => ?_) (fun c16 => ?_)
          · skip
            have h := f_t c16 h
            refine lv_iinc (v := (z6 + 1)) (lv' := [(6, .int (z6 + 1)), (7, .int (Z.2.2.1 r1 (z6 : Int32).toNatClampNeg)), (0, .ref (G.2.1 7)), (1, .ref (G.2.1 r1)), (2, .int y2), (3, .int y3), (4, .ref (G.2.1 r4)), (5, .int z5)]) hx hb dX3_reckoned_166 hl (k := 7) rfl rfl (by decide) rfl (fun ls hl => ?_)
            refine lv_goto (tgt := 10) hx hb dX3_reckoned_169 (by decide) ?_
            exact ih σ1 z5 (z6 + 1) h _ _ _ hP hD hS (lv_sub hl [2, 3, 4, 5, 6, 7, 0] rfl)
          · skip
            have h := f_f c16 h
            refine lv_aload_n hx hb dX3_reckoned_49 rfl (lv_at hl 1 rfl) ?_
            refine va_get (D := D) (ci := 4) (v := .ref (G.2.1 8)) (C := RX3) (T := TX3) (N := 4) hx hb hts inU_X3 hown hK hP _ (hg_7 G Z Y σ1) rfl 0 (by decide) (hts _ wd_107) (fun _ h9 => h9) rfl dX3_reckoned_50 ?_
            refine lv_iload hx hb dX3_reckoned_53 (lv_at hl 6 rfl) ?_
            refine lv_iload hx hb dX3_reckoned_55 (lv_at hl 0 rfl) ?_
            refine lv_sipush (v := 10000) hx hb dX3_reckoned_57 (by decide) ?_
            refine lv_icmp_ge (tgt := 69) hx hb dX3_reckoned_60 (by decide) (fun c17 => ?_) (fun c17 => ?_)
            · skip
              have h := f_t c17 h
              refine lv_iload hx hb dX3_reckoned_69 (lv_at hl 0 rfl) ?_
              refine lv_sipush (v := 10000) hx hb dX3_reckoned_71 (by decide) ?_
              refine lv_isub hx hb dX3_reckoned_74 ?_
              refine lv_aload hx hb dX3_reckoned_75 (lv_at hl 5 rfl) ?_
              obtain ⟨q18, hq18, h⟩ := f_b h
              refine cl_S (w := (hW G Z Y σ1)) (w' := (hW G Z Y σ1)) (rv := some (.long q18)) (bytes := cX3_letterWorth) (maxL := 2) (ret := (some .long)) (As := [.int ((Z.2.2.1 r1 (z6 : Int32).toNatClampNeg) - (10000 : Int32)), .ref (G.2.1 r4)]) (rest := [.int z5, .ref (G.2.1 8)]) (stk := [.long q18, .int z5, .ref (G.2.1 8)]) ⟨hx, hb, hml, hown, hts⟩ hK hE hA hP hD hS (c_X3_letterWorth l D G Z Y σ1 ((Z.2.2.1 r1 (z6 : Int32).toNatClampNeg) - (10000 : Int32)) r4 hr4 q18 hq18) (mkS hts wd_839 wd_840 wd_5 wd_841 rfl rfl hd_X3_letterWorth ⟨Nat.le_of_ble_eq_true rfl, Nat.le_of_ble_eq_true rfl⟩) rfl hl.1 rfl (Nat.le_of_ble_eq_true rfl) dX3_reckoned_77 ⟨Nat.zero_le _, Nat.zero_le _⟩ rfl (fun H locs hP hD hS => ?_)
              obtain ⟨c19, h⟩ := f_n h
              refine va_last hx hb hK hP hD hS _ 1 (hg_8 G Z Y σ1) rfl c19 dX3_reckoned_80 (fun H locs hP hD hS => ?_)
              have hP := wrP (hp_8 G Z Y σ1 _ _) hP
              have hD := wrD (hp_8 G Z Y σ1 _ _) hD
              refine lv_iinc (v := (z5 + 1)) (lv' := [(5, .int (z5 + 1)), (7, .int (Z.2.2.1 r1 (z6 : Int32).toNatClampNeg)), (0, .ref (G.2.1 7)), (1, .ref (G.2.1 r1)), (2, .int y2), (3, .int y3), (4, .ref (G.2.1 r4)), (6, .int z6)]) hx hb dX3_reckoned_81 hl (k := 6) rfl rfl (by decide) rfl (fun ls hl => ?_)
              refine lv_goto (tgt := 166) hx hb dX3_reckoned_84 (by decide) ?_
              refine lv_iinc (v := (z6 + 1)) (lv' := [(6, .int (z6 + 1)), (5, .int (z5 + 1)), (7, .int (Z.2.2.1 r1 (z6 : Int32).toNatClampNeg)), (0, .ref (G.2.1 7)), (1, .ref (G.2.1 r1)), (2, .int y2), (3, .int y3), (4, .ref (G.2.1 r4))]) hx hb dX3_reckoned_166 hl (k := 7) rfl rfl (by decide) rfl (fun ls hl => ?_)
              refine lv_goto (tgt := 10) hx hb dX3_reckoned_169 (by decide) ?_
              exact ih (sJ σ1 8 ((z5 : Int32).toNatClampNeg) q18) (z5 + 1) (z6 + 1) h _ _ _ hP hD hS (lv_sub hl [3, 4, 5, 6, 7, 1, 0] rfl)
            · skip
              have h := f_f c17 h
              refine lv_iload hx hb dX3_reckoned_63 (lv_at hl 0 rfl) ?_
              refine lv_i2l (v := ((Z.2.2.1 r1 (z6 : Int32).toNatClampNeg) : Int32).toInt64) hx hb dX3_reckoned_65 rfl ?_
              refine lv_goto (tgt := 80) hx hb dX3_reckoned_66 (by decide) ?_
              obtain ⟨c20, h⟩ := f_n h
              refine va_last hx hb hK hP hD hS _ 1 (hg_8 G Z Y σ1) rfl c20 dX3_reckoned_80 (fun H locs hP hD hS => ?_)
              have hP := wrP (hp_8 G Z Y σ1 _ _) hP
              have hD := wrD (hp_8 G Z Y σ1 _ _) hD
              refine lv_iinc (v := (z5 + 1)) (lv' := [(5, .int (z5 + 1)), (7, .int (Z.2.2.1 r1 (z6 : Int32).toNatClampNeg)), (0, .ref (G.2.1 7)), (1, .ref (G.2.1 r1)), (2, .int y2), (3, .int y3), (4, .ref (G.2.1 r4)), (6, .int z6)]) hx hb dX3_reckoned_81 hl (k := 6) rfl rfl (by decide) rfl (fun ls hl => ?_)
              refine lv_goto (tgt := 166) hx hb dX3_reckoned_84 (by decide) ?_
              refine lv_iinc (v := (z6 + 1)) (lv' := [(6, .int (z6 + 1)), (5, .int (z5 + 1)), (7, .int (Z.2.2.1 r1 (z6 : Int32).toNatClampNeg)), (0, .ref (G.2.1 7)), (1, .ref (G.2.1 r1)), (2, .int y2), (3, .int y3), (4, .ref (G.2.1 r4))]) hx hb dX3_reckoned_166 hl (k := 7) rfl rfl (by decide) rfl (fun ls hl => ?_)
              refine lv_goto (tgt := 10) hx hb dX3_reckoned_169 (by decide) ?_
              exact ih (sJ σ1 8 ((z5 : Int32).toNatClampNeg) (((Z.2.2.1 r1 (z6 : Int32).toNatClampNeg) : Int32).toInt64)) (z5 + 1) (z6 + 1) h _ _ _ hP hD hS (lv_sub hl [3, 4, 5, 6, 7, 1, 0] rfl)
set_option maxRecDepth 100000 in
set_option maxHeartbeats 8000000 in
theorem c_X3_reckoned (l : Launch) (D : va_G) (G : hG) (Z : hZ) (Y : va_W) (σ0 : hSt) (F : Nat) (r1 : Nat) (hr1 : isAr Z r1 = true) (x2 : Int32) (x3 : Int32) (r4 : Nat) (hr4 : isJ r4 = true) (res : (Int64 × hSt)) (h : f_X3_reckoned F Z σ0 r1 x2 x3 r4 = some res) : CT l yX3_reckoned cX3_reckoned 8 (some .long) rm_X3_reckoned D G 0 0 [.ref (G.2.1 7), .ref (G.2.1 r1), .int x2, .int x3, .ref (G.2.1 r4)] (hW G Z Y σ0) (hW G Z Y res.2) (some (.long res.1)) := by
  unfold f_X3_reckoned at h
  refine CT.mk (cc := cX3_reckoned) (maxL := 8) (ret := (some .long)) (own := RX3) (plainFor_of_name (by decide)) rfl (Nat.le_of_ble_eq_true rfl) ?_
  intro p e s m args below meth c A ls C0 hnm hA hP hD hl
  obtain ⟨hx, hb, hr, hml, hown, hts, hlocks, hK, hE⟩ := id C0
  have hS : va_S A s.heap s.heap [] := va_S.rf
  have hl : lv_has ls 8 [(0, .ref (G.2.1 7)), (1, .ref (G.2.1 r1)), (2, .int x2), (3, .int x3), (4, .ref (G.2.1 r4))] := hl
  refine lv_iconst (v := 0) hx hb dX3_reckoned_0 (by decide) ?_
  refine lv_istore (lv' := [(5, .int (0 : Int32)), (0, .ref (G.2.1 7)), (1, .ref (G.2.1 r1)), (2, .int x2), (3, .int x3), (4, .ref (G.2.1 r4))]) hx hb dX3_reckoned_1 hl (by decide) rfl (fun ls hl => ?_)
  refine lv_iconst (v := 0) hx hb dX3_reckoned_3 (by decide) ?_
  refine lv_iload_n hx hb dX3_reckoned_4 rfl (lv_at hl 3 rfl) ?_
  refine va_mmax hx hb (hml.trans hl.1.symm) hown (hts _ wd_581) (hts _ wd_328) (hts _ wd_12) (hts _ wd_329) (Nat.le_of_ble_eq_true rfl) (Nat.le_of_ble_eq_true rfl) (Nat.zero_le _) (Nat.zero_le _) dX3_reckoned_5 ?_
  refine lv_istore (lv' := [(6, .int (if (0 : Int32) < x2 then x2 else (0 : Int32))), (5, .int (0 : Int32)), (0, .ref (G.2.1 7)), (1, .ref (G.2.1 r1)), (2, .int x2), (3, .int x3), (4, .ref (G.2.1 r4))]) hx hb dX3_reckoned_8 hl (by decide) rfl (fun ls hl => ?_)
  refine W_X3_reckoned_L10 l D G Z Y σ0 F r1 hr1 x2 x3 r4 hr4 x2 x3 res C0 hA _ ?_ F σ0 (0 : Int32) (if (0 : Int32) < x2 then x2 else (0 : Int32)) h _ _ _ hP hD hS (lv_sub hl [2, 3, 4, 5, 6, 1, 0] rfl)
  · intro σ1 z5 h H locs ls hP hD hS hl
    refine lv_iload hx hb dX3_reckoned_172 (lv_at hl 1 rfl) ?_
    refine lv_if_le (tgt := 189) hx hb dX3_reckoned_174 (by decide) (fun c21 => ?_) (fun c21 => ?_)
    · skip
      have h := f_t c21 h
      refine lv_lconst (v := 0) hx hb dX3_reckoned_189 (by decide) ?_
      obtain rfl := Option.some.inj h
      exact W.lret (v := (0 : Int64)) hx hb hr (q_end hK hP hD hS) hS.2.2 dX3_reckoned_190
    · skip
      have h := f_f c21 h
      refine lv_aload_n hx hb dX3_reckoned_177 rfl (lv_at hl 0 rfl) ?_
      refine va_get (D := D) (ci := 4) (v := .ref (G.2.1 8)) (C := RX3) (T := TX3) (N := 4) hx hb hts inU_X3 hown hK hP _ (hg_7 G Z Y σ1) rfl 0 (by decide) (hts _ wd_107) (fun _ h9 => h9) rfl dX3_reckoned_178 ?_
      refine lv_iload hx hb dX3_reckoned_181 (lv_at hl 1 rfl) ?_
      refine lv_iconst (v := 1) hx hb dX3_reckoned_183 (by decide) ?_
      refine lv_isub hx hb dX3_reckoned_184 ?_
      obtain ⟨c22, h⟩ := f_n h
      refine va_laldE (v := (σ1.2.1 8 (((z5 - (1 : Int32)) : Int32).toNatClampNeg))) hx hb hK hP _ 1 (hg_8 G Z Y σ1) rfl c22 dX3_reckoned_185 rfl ?_
      refine lv_goto (tgt := 190) hx hb dX3_reckoned_186 (by decide) ?_
      obtain rfl := Option.some.inj h
      exact W.lret (v := (σ1.2.1 8 (((z5 - (1 : Int32)) : Int32).toNatClampNeg))) hx hb hr (q_end hK hP hD hS) hS.2.2 dX3_reckoned_190
abbrev rm_X3_labelWorth : Room := { frames := 3, cells := 0, slots := 0, locals := 81 }
set_option maxRecDepth 100000 in
set_option maxHeartbeats 8000000 in
theorem W_X3_labelWorth_L14 {p : Program} {e : Env} {s : State} {m : MethodId} {args : Array Value} {below : List Frame} {meth : Method} {c : Code} {A : Nat → Prop} (l : Launch) (D : va_G) (G : hG) (Z : hZ) (Y : va_W) (σ0 : hSt) (F : Nat) (r1 : Nat) (hr1 : isTe Z r1 = true) (x2 : Int32) (r3 : Nat) (hr3 : isJ r3 = true) (y2 : Int32) (res : (Int64 × hSt)) (C0 : Cx p s m args meth c cX3_labelWorth (some .long) RX3 10 D G A) (hA : ∀ q : Nat, s.heap.size ≤ q → A q) (k88 : hSt → Int32 → Int32 → Int32 → Option (Int64 × hSt)) (hk88 : ∀ (σ1 : hSt) (z7 : Int32) (z8 : Int32) (z9 : Int32), k88 σ1 z7 z8 z9 = some res → ∀ (H : Heap) (locs : List Loc) (ls : Array Slot), va_P D vwCl (hW G Z Y σ1) H → va_D A (hW G Z Y σ1) → va_S A s.heap H locs → lv_has ls 10 [(0, .ref (G.2.1 7)), (3, .ref (G.2.1 r3)), (4, .ref (G.2.1 (r1 + 2000))), (7, .int z7), (8, .int z8), (9, .int z9)] → W p l e rm_X3_labelWorth s m args below meth c H locs 0 0 (MQ below (Qg (some (.long res.1)) D (tysG G) (hW G Z Y res.2) A) args s 0 0 A) (F0 m 88 ls [])) : ∀ (n : Nat) (σ1 : hSt) (z5 : Int32) (z6 : Int32), f_X3_labelWorth_L14 F Z r1 r3 y2 k88 n σ1 z5 z6 = some res → ∀ (H : Heap) (locs : List Loc) (ls : Array Slot), va_P D vwCl (hW G Z Y σ1) H → va_D A (hW G Z Y σ1) → va_S A s.heap H locs → lv_has ls 10 [(0, .ref (G.2.1 7)), (2, .int y2), (3, .ref (G.2.1 r3)), (4, .ref (G.2.1 (r1 + 2000))), (5, .int z5), (6, .int z6)] → W p l e rm_X3_labelWorth s m args below meth c H locs 0 0 (MQ below (Qg (some (.long res.1)) D (tysG G) (hW G Z Y res.2) A) args s 0 0 A) (F0 m 14 ls []) := by
  obtain ⟨hx, hb, hr, hml, hown, hts, hlocks, hK, hE⟩ := id C0
  intro n
  induction n with
  | zero =>
    intro σ1 z5 z6 h
    cases h
  | succ n ih =>
    intro σ1 z5 z6 h H locs ls hP hD hS hl
    rw [f_X3_labelWorth_L14] at h
    refine lv_iload hx hb dX3_labelWorth_14 (lv_at hl 5 rfl) ?_
    refine lv_if_le (tgt := 119) hx hb dX3_labelWorth_16 (by decide) (fun c3 => ?_) (fun c3 => ?_)
    · skip
      have h := f_t c3 h
      refine lv_lconst (v := 0) hx hb dX3_labelWorth_119 (by decide) ?_
      obtain rfl := Option.some.inj h
      exact W.lret (v := (0 : Int64)) hx hb hr (q_end hK hP hD hS) hS.2.2 dX3_labelWorth_120
    · skip
      have h := f_f c3 h
      refine lv_iload hx hb dX3_labelWorth_19 (lv_at hl 4 rfl) ?_
      refine lv_if_lt (tgt := 119) hx hb dX3_labelWorth_21 (by decide) (fun c4 => ?_) (fun c4 => ?_)
      · skip
        have h := f_t c4 h
        refine lv_lconst (v := 0) hx hb dX3_labelWorth_119 (by decide) ?_
        obtain rfl := Option.some.inj h
        exact W.lret (v := (0 : Int64)) hx hb hr (q_end hK hP hD hS) hS.2.2 dX3_labelWorth_120
      · skip
        have h := f_f c4 h
        refine lv_iload hx hb dX3_labelWorth_24 (lv_at hl 4 rfl) ?_
        refine lv_iconst (v := 3) hx hb dX3_labelWorth_26 (by decide) ?_
        refine lv_iadd hx hb dX3_labelWorth_27 ?_
        refine lv_aload hx hb dX3_labelWorth_28 (lv_at hl 3 rfl) ?_
        obtain ⟨qq5, hq5⟩ := hg_Ar G Z Y σ1 (isTe_code hr1)
        refine va_alen (ty := .int) (v := (Int32.ofNat (Z.2.1 (r1 + 2000)))) hx hb hK hP _ 0 hq5 rfl rfl dX3_labelWorth_30 ?_
        refine lv_icmp_gt (tgt := 119) hx hb dX3_labelWorth_31 (by decide) (fun c6 => ?_) (fun c6 => ?_)
        · skip
          have h := f_t c6 h
          refine lv_lconst (v := 0) hx hb dX3_labelWorth_119 (by decide) ?_
          obtain rfl := Option.some.inj h
          exact W.lret (v := (0 : Int64)) hx hb hr (q_end hK hP hD hS) hS.2.2 dX3_labelWorth_120
        · skip
          have h := f_f c6 h
          refine lv_iload hx hb dX3_labelWorth_34 (lv_at hl 4 rfl) ?_
          refine lv_iconst (v := 3) hx hb dX3_labelWorth_36 (by decide) ?_
          refine lv_iadd hx hb dX3_labelWorth_37 ?_
          refine lv_istore (lv' := [(7, .int (z5 + (3 : Int32))), (0, .ref (G.2.1 7)), (2, .int y2), (3, .ref (G.2.1 r3)), (4, .ref (G.2.1 (r1 + 2000))), (5, .int z5), (6, .int z6)]) hx hb dX3_labelWorth_38 hl (by decide) rfl (fun ls hl => ?_)
          refine lv_aload hx hb dX3_labelWorth_40 (lv_at hl 4 rfl) ?_
          refine lv_iload hx hb dX3_labelWorth_42 (lv_at hl 5 rfl) ?_
          refine lv_iconst (v := 1) hx hb dX3_labelWorth_44 (by decide) ?_
          refine lv_iadd hx hb dX3_labelWorth_45 ?_
          obtain ⟨qq7, hq7⟩ := hg_Ar G Z Y σ1 (isTe_code hr1)
          obtain ⟨c8, h⟩ := f_n h
          refine va_ialdE (v := (Z.2.2.1 (r1 + 2000) ((z5 + (1 : Int32)) : Int32).toNatClampNeg)) hx hb hK hP _ 0 hq7 rfl c8 dX3_labelWorth_46 rfl ?_
          refine lv_istore (lv' := [(8, .int (Z.2.2.1 (r1 + 2000) ((z5 + (1 : Int32)) : Int32).toNatClampNeg)), (7, .int (z5 + (3 : Int32))), (0, .ref (G.2.1 7)), (2, .int y2), (3, .ref (G.2.1 r3)), (4, .ref (G.2.1 (r1 + 2000))), (5, .int z5), (6, .int z6)]) hx hb dX3_labelWorth_47 hl (by decide) rfl (fun ls hl => ?_)
          refine lv_aload hx hb dX3_labelWorth_49 (lv_at hl 5 rfl) ?_
          refine lv_iload hx hb dX3_labelWorth_51 (lv_at hl 6 rfl) ?_
          refine lv_iconst (v := 2) hx hb dX3_labelWorth_53 (by decide) ?_
          refine lv_iadd hx hb dX3_labelWorth_54 ?_
          obtain ⟨qq9, hq9⟩ := hg_Ar G Z Y σ1 (isTe_code hr1)
          obtain ⟨c10, h⟩ := f_n h
          refine va_ialdE (v := (Z.2.2.1 (r1 + 2000) ((z5 + (2 : Int32)) : Int32).toNatClampNeg)) hx hb hK hP _ 0 hq9 rfl c10 dX3_labelWorth_55 rfl ?_
          refine lv_istore (lv' := [(9, .int (Z.2.2.1 (r1 + 2000) ((z5 + (2 : Int32)) : Int32).toNatClampNeg)), (8, .int (Z.2.2.1 (r1 + 2000) ((z5 + (1 : Int32)) : Int32).toNatClampNeg)), (7, .int (z5 + (3 : Int32))), (0, .ref (G.2.1 7)), (2, .int y2), (3, .ref (G.2.1 r3)), (4, .ref (G.2.1 (r1 + 2000))), (5, .int z5), (6, .int z6)]) hx hb dX3_labelWorth_56 hl (by decide) rfl (fun ls hl => ?_)
          refine lv_aload hx hb dX3_labelWorth_58 (lv_at hl 6 rfl) ?_
          refine lv_iload hx hb dX3_labelWorth_60 (lv_at hl 7 rfl) ?_
          obtain ⟨qq11, hq11⟩ := hg_Ar G Z Y σ1 (isTe_code hr1)
          obtain ⟨c12, h⟩ := f_n h
          refine va_ialdE (v := (Z.2.2.1 (r1 + 2000) (z5 : Int32).toNatClampNeg)) hx hb hK hP _ 0 hq11 rfl c12 dX3_labelWorth_62 rfl ?_
          refine lv_iload_n hx hb dX3_labelWorth_63 rfl (lv_at hl 4 rfl) ?_
          refine lv_icmp_ne (tgt := 103) hx hb dX3_labelWorth_64 (by decide) (fun c13 => ?_) (fun c13 => ?_)
          · skip
            have h := f_f c13 h
            refine lv_iload hx hb dX3_labelWorth_103 (lv_at hl 2 rfl) ?_
            refine lv_iload hx hb dX3_labelWorth_105 (lv_at hl 1 rfl) ?_
            refine lv_iadd hx hb dX3_labelWorth_107 ?_
            refine lv_iload hx hb dX3_labelWorth_108 (lv_at hl 0 rfl) ?_
            refine lv_iadd hx hb dX3_labelWorth_110 ?_
            refine lv_istore (lv' := [(5, .int (((z5 + (3 : Int32)) + (Z.2.2.1 (r1 + 2000) ((z5 + (1 : Int32)) : Int32).toNatClampNeg)) + (Z.2.2.1 (r1 + 2000) ((z5 + (2 : Int32)) : Int32).toNatClampNeg))), (9, .int (Z.2.2.1 (r1 + 2000) ((z5 + (2 : Int32)) : Int32).toNatClampNeg)), (8, .int (Z.2.2.1 (r1 + 2000) ((z5 + (1 : Int32)) : Int32).toNatClampNeg)), (7, .int (z5 + (3 : Int32))), (0, .ref (G.2.1 7)), (2, .int y2), (3, .ref (G.2.1 r3)), (4, .ref (G.2.1 (r1 + 2000))), (6, .int z6)]) hx hb dX3_labelWorth_111 hl (by decide) rfl (fun ls hl => ?_)
            refine lv_iinc (v := (z6 + (-1 : Int32))) (lv' := [(6, .int (z6 + (-1 : Int32))), (5, .int (((z5 + (3 : Int32)) + (Z.2.2.1 (r1 + 2000) ((z5 + (1 : Int32)) : Int32).toNatClampNeg)) + (Z.2.2.1 (r1 + 2000) ((z5 + (2 : Int32)) : Int32).toNatClampNeg))), (9, .int (Z.2.2.1 (r1 + 2000) ((z5 + (2 : Int32)) : Int32).toNatClampNeg)), (8, .int (Z.2.2.1 (r1 + 2000) ((z5 + (1 : Int32)) : Int32).toNatClampNeg)), (7, .int (z5 + (3 : Int32))), (0, .ref (G.2.1 7)), (2, .int y2), (3, .ref (G.2.1 r3)), (4, .ref (G.2.1 (r1 + 2000)))]) hx hb dX3_labelWorth_113 hl (k := 8) rfl rfl (by decide) rfl (fun ls hl => ?_)
            refine lv_goto (tgt := 14) hx hb dX3_labelWorth_116 (by decide) ?_
            exact ih σ1 (((z5 + (3 : Int32)) + (Z.2.2.1 (r1 + 2000) ((z5 + (1 : Int32)) : Int32).toNatClampNeg)) + (Z.2.2.1 (r1 + 2000) ((z5 + (2 : Int32)) : Int32).toNatClampNeg)) (z6 + (-1 : Int32)) h _ _ _ hP hD hS (lv_sub hl [5, 6, 7, 8, 1, 0] rfl)
          · skip
            have h := f_t c13 h
            refine lv_iload hx hb dX3_labelWorth_67 (lv_at hl 1 rfl) ?_
            refine lv_if_eq (tgt := 88) hx hb dX3_labelWorth_69 (by decide) (fun c14 => ?_) (fun c14 => ?_)
            · skip
              have h := f_t c14 h
              exact hk88 σ1 (z5 + (3 : Int32)) (Z.2.2.1 (r1 + 2000) ((z5 + (1 : Int32)) : Int32).toNatClampNeg) (Z.2.2.1 (r1 + 2000) ((z5 + (2 : Int32)) : Int32).toNatClampNeg) h _ _ _ hP hD hS (lv_sub hl [3, 5, 6, 2, 1, 0] rfl)
            · skip
              have h := f_f c14 h
              refine lv_aload_n hx hb dX3_labelWorth_72 rfl (lv_at hl 3 rfl) ?_
              refine lv_aload hx hb dX3_labelWorth_73 (lv_at hl 6 rfl) ?_
              refine lv_iload hx hb dX3_labelWorth_75 (lv_at hl 2 rfl) ?_
              refine lv_iload hx hb dX3_labelWorth_77 (lv_at hl 1 rfl) ?_
              refine lv_aload_n hx hb dX3_labelWorth_79 rfl (lv_at hl 5 rfl) ?_
              obtain ⟨q15, hq15, h⟩ := f_b h
              refine cl_V (w := (hW G Z Y σ1)) (w' := (hW G Z Y q15.2)) (rv := some (.long q15.1)) (bytes := cX3_reckoned) (maxL := 8) (ret := (some .long)) (C := RX3) (As := [.ref (G.2.1 (r1 + 2000)), .int (z5 + (3 : Int32)), .int (Z.2.2.1 (r1 + 2000) ((z5 + (1 : Int32)) : Int32).toNatClampNeg), .ref (G.2.1 r3)]) (rest := []) (stk := [.long q15.1]) ⟨hx, hb, hml, hown, hts⟩ hK hE hA hP hD hS (c_X3_reckoned l D G Z Y σ1 F (r1 + 2000) (isTe_code hr1) (z5 + (3 : Int32)) (Z.2.2.1 (r1 + 2000) ((z5 + (1 : Int32)) : Int32).toNatClampNeg) r3 hr3 q15 hq15) (cwV 4 hts (gwV wd_835 wd_837 wp_25 wd_5 wd_838) rfl rfl rfl hd_X3_reckoned ⟨Nat.le_of_ble_eq_true rfl, Nat.le_of_ble_eq_true rfl⟩) (hg_7 G Z Y σ1) rfl rfl rfl hl.1 rfl (Nat.le_of_ble_eq_true rfl) dX3_labelWorth_80 ⟨Nat.zero_le _, Nat.zero_le _⟩ rfl (fun H locs hP hD hS => ?_)
              refine lv_lconst (v := 0) hx hb dX3_labelWorth_83 (by decide) ?_
              refine W.lcmp hx hb dX3_labelWorth_84 ?_
              refine lv_if_eq (tgt := 103) hx hb dX3_labelWorth_85 (by decide) (fun c16 => ?_) (fun c16 => ?_)
              · skip
                have c16 := (lg_cmp_eq _ _).mp c16
                have h := f_t c16 h
                refine lv_iload hx hb dX3_labelWorth_103 (lv_at hl 2 rfl) ?_
                refine lv_iload hx hb dX3_labelWorth_105 (lv_at hl 1 rfl) ?_
                refine lv_iadd hx hb dX3_labelWorth_107 ?_
                refine lv_iload hx hb dX3_labelWorth_108 (lv_at hl 0 rfl) ?_
                refine lv_iadd hx hb dX3_labelWorth_110 ?_
                refine lv_istore (lv' := [(5, .int (((z5 + (3 : Int32)) + (Z.2.2.1 (r1 + 2000) ((z5 + (1 : Int32)) : Int32).toNatClampNeg)) + (Z.2.2.1 (r1 + 2000) ((z5 + (2 : Int32)) : Int32).toNatClampNeg))), (9, .int (Z.2.2.1 (r1 + 2000) ((z5 + (2 : Int32)) : Int32).toNatClampNeg)), (8, .int (Z.2.2.1 (r1 + 2000) ((z5 + (1 : Int32)) : Int32).toNatClampNeg)), (7, .int (z5 + (3 : Int32))), (0, .ref (G.2.1 7)), (2, .int y2), (3, .ref (G.2.1 r3)), (4, .ref (G.2.1 (r1 + 2000))), (6, .int z6)]) hx hb dX3_labelWorth_111 hl (by decide) rfl (fun ls hl => ?_)
                refine lv_iinc (v := (z6 + (-1 : Int32))) (lv' := [(6, .int (z6 + (-1 : Int32))), (5, .int (((z5 + (3 : Int32)) + (Z.2.2.1 (r1 + 2000) ((z5 + (1 : Int32)) : Int32).toNatClampNeg)) + (Z.2.2.1 (r1 + 2000) ((z5 + (2 : Int32)) : Int32).toNatClampNeg))), (9, .int (Z.2.2.1 (r1 + 2000) ((z5 + (2 : Int32)) : Int32).toNatClampNeg)), (8, .int (Z.2.2.1 (r1 + 2000) ((z5 + (1 : Int32)) : Int32).toNatClampNeg)), (7, .int (z5 + (3 : Int32))), (0, .ref (G.2.1 7)), (2, .int y2), (3, .ref (G.2.1 r3)), (4, .ref (G.2.1 (r1 + 2000)))]) hx hb dX3_labelWorth_113 hl (k := 8) rfl rfl (by decide) rfl (fun ls hl => ?_)
                refine lv_goto (tgt := 14) hx hb dX3_labelWorth_116 (by decide) ?_
                exact ih q15.2 (((z5 + (3 : Int32)) + (Z.2.2.1 (r1 + 2000) ((z5 + (1 : Int32)) : Int32).toNatClampNeg)) + (Z.2.2.1 (r1 + 2000) ((z5 + (2 : Int32)) : Int32).toNatClampNeg)) (z6 + (-1 : Int32)) h _ _ _ hP hD hS (lv_sub hl [5, 6, 7, 8, 1, 0] rfl)
              · skip
                have c16 := mt (lg_cmp_eq _ _).mpr c16
                have h := f_f c16 h
                exact hk88 q15.2 (z5 + (3 : Int32)) (Z.2.2.1 (r1 + 2000) ((z5 + (1 : Int32)) : Int32).toNatClampNeg) (Z.2.2.1 (r1 + 2000) ((z5 + (2 : Int32)) : Int32).toNatClampNeg) h _ _ _ hP hD hS (lv_sub hl [3, 5, 6, 2, 1, 0] rfl)
set_option maxRecDepth 100000 in
set_option maxHeartbeats 8000000 in
theorem c_X3_labelWorth (l : Launch) (D : va_G) (G : hG) (Z : hZ) (Y : va_W) (σ0 : hSt) (F : Nat) (r1 : Nat) (hr1 : isTe Z r1 = true) (x2 : Int32) (r3 : Nat) (hr3 : isJ r3 = true) (res : (Int64 × hSt)) (h : f_X3_labelWorth F Z σ0 r1 x2 r3 = some res) : CT l yX3_labelWorth cX3_labelWorth 10 (some .long) rm_X3_labelWorth D G 0 0 [.ref (G.2.1 7), .ref (G.2.1 r1), .int x2, .ref (G.2.1 r3)] (hW G Z Y σ0) (hW G Z Y res.2) (some (.long res.1)) := by
  unfold f_X3_labelWorth at h
  refine CT.mk (cc := cX3_labelWorth) (maxL := 10) (ret := (some .long)) (own := RX3) (plainFor_of_name (by decide)) rfl (Nat.le_of_ble_eq_true rfl) ?_
  intro p e s m args below meth c A ls C0 hnm hA hP hD hl
  obtain ⟨hx, hb, hr, hml, hown, hts, hlocks, hK, hE⟩ := id C0
  have hS : va_S A s.heap s.heap [] := va_S.rf
  have hl : lv_has ls 10 [(0, .ref (G.2.1 7)), (1, .ref (G.2.1 r1)), (2, .int x2), (3, .ref (G.2.1 r3))] := hl
  refine lv_aload_n hx hb dX3_labelWorth_0 rfl (lv_at hl 1 rfl) ?_
  obtain ⟨qq1, hq1⟩ := hg_Te G Z Y σ0 hr1
  refine va_getN (D := D) (ci := 9) (v := .ref (G.2.1 (r1 + 2000))) (C := RX9) (T := TX9) (N := 1) hx hb hts inU_X9 hown hK hP _ hq1 rfl 0 (by decide) (nF_use 18 hE rfl) (fun _ h9 => h9) rfl dX3_labelWorth_1 ?_
  refine lv_astore (lv' := [(4, .ref (G.2.1 (r1 + 2000))), (0, .ref (G.2.1 7)), (1, .ref (G.2.1 r1)), (2, .int x2), (3, .ref (G.2.1 r3))]) hx hb dX3_labelWorth_4 hl (by decide) rfl (fun ls hl => ?_)
  refine lv_iconst (v := 0) hx hb dX3_labelWorth_6 (by decide) ?_
  refine lv_istore (lv' := [(5, .int (0 : Int32)), (4, .ref (G.2.1 (r1 + 2000))), (0, .ref (G.2.1 7)), (1, .ref (G.2.1 r1)), (2, .int x2), (3, .ref (G.2.1 r3))]) hx hb dX3_labelWorth_7 hl (by decide) rfl (fun ls hl => ?_)
  refine lv_aload hx hb dX3_labelWorth_9 (lv_at hl 1 rfl) ?_
  obtain ⟨qq2, hq2⟩ := hg_Ar G Z Y σ0 (isTe_code hr1)
  refine va_alen (ty := .int) (v := (Int32.ofNat (Z.2.1 (r1 + 2000)))) hx hb hK hP _ 0 hq2 rfl rfl dX3_labelWorth_11 ?_
  refine lv_istore (lv' := [(6, .int (Int32.ofNat (Z.2.1 (r1 + 2000)))), (5, .int (0 : Int32)), (4, .ref (G.2.1 (r1 + 2000))), (0, .ref (G.2.1 7)), (1, .ref (G.2.1 r1)), (2, .int x2), (3, .ref (G.2.1 r3))]) hx hb dX3_labelWorth_12 hl (by decide) rfl (fun ls hl => ?_)
  refine W_X3_labelWorth_L14 l D G Z Y σ0 F r1 hr1 x2 r3 hr3 x2 res C0 hA _ ?_ F σ0 (0 : Int32) (Int32.ofNat (Z.2.1 (r1 + 2000))) h _ _ _ hP hD hS (lv_sub hl [3, 5, 6, 2, 1, 0] rfl)
  · intro σ1 z7 z8 z9 h H locs ls hP hD hS hl
    refine lv_aload_n hx hb dX3_labelWorth_88 rfl (lv_at hl 0 rfl) ?_
    refine lv_aload hx hb dX3_labelWorth_89 (lv_at hl 2 rfl) ?_
    refine lv_iload hx hb dX3_labelWorth_91 (lv_at hl 3 rfl) ?_
    refine lv_iload hx hb dX3_labelWorth_93 (lv_at hl 4 rfl) ?_
    refine lv_iadd hx hb dX3_labelWorth_95 ?_
    refine lv_iload hx hb dX3_labelWorth_96 (lv_at hl 5 rfl) ?_
    refine lv_aload_n hx hb dX3_labelWorth_98 rfl (lv_at hl 1 rfl) ?_
    obtain ⟨q17, hq17, h⟩ := f_b h
    refine cl_V (w := (hW G Z Y σ1)) (w' := (hW G Z Y q17.2)) (rv := some (.long q17.1)) (bytes := cX3_reckoned) (maxL := 8) (ret := (some .long)) (C := RX3) (As := [.ref (G.2.1 (r1 + 2000)), .int (z7 + z8), .int z9, .ref (G.2.1 r3)]) (rest := []) (stk := [.long q17.1]) ⟨hx, hb, hml, hown, hts⟩ hK hE hA hP hD hS (c_X3_reckoned l D G Z Y σ1 F (r1 + 2000) (isTe_code hr1) (z7 + z8) z9 r3 hr3 q17 hq17) (cwV 4 hts (gwV wd_835 wd_837 wp_25 wd_5 wd_838) rfl rfl rfl hd_X3_reckoned ⟨Nat.le_of_ble_eq_true rfl, Nat.le_of_ble_eq_true rfl⟩) (hg_7 G Z Y σ1) rfl rfl rfl hl.1 rfl (Nat.le_of_ble_eq_true rfl) dX3_labelWorth_99 ⟨Nat.zero_le _, Nat.zero_le _⟩ rfl (fun H locs hP hD hS => ?_)
    obtain rfl := Option.some.inj h
    exact W.lret (v := q17.1) hx hb hr (q_end hK hP hD hS) hS.2.2 dX3_labelWorth_102
