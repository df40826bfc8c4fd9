abbrev rm_X12_thrown : Room := { frames := 0, cells := 0, slots := 0, locals := 0 }
set_option maxRecDepth 100000 in
set_option maxHeartbeats 8000000 in
theorem c_X12_thrown (l : Launch) (D : va_G) (G : hG) (Z : hZ) (Y : va_W) (σ0 : hSt) (res : Int32) (h : f_X12_thrown Z σ0 = some res) : CT l yX12_thrown cX12_thrown 1 (some .int) rm_X12_thrown D G 0 0 [.ref (G.2.1 200)] (mW G Z Y σ0) (mW G Z Y σ0) (some (.int res)) := by
  unfold f_X12_thrown at h
  refine CT.mk (cc := cX12_thrown) (maxL := 1) (ret := (some .int)) (own := RX12) (plainFor_of_name (by decide)) rfl (Nat.le_of_ble_eq_true rfl) ?_
  intro p e s m args below meth c A ls C0 hnm hA hP hD hl
  obtain ⟨hx, hb, hr, hml, hown, hts, hlocks, hK, hE⟩ := id C0
  have hS : va_S A s.heap s.heap [] := va_S.rf
  have hl : lv_has ls 1 [(0, .ref (G.2.1 200))] := hl
  refine lv_aload_n hx hb dX12_thrown_0 rfl (lv_at hl 0 rfl) ?_
  refine va_get (D := D) (ci := 12) (v := .int (σ0.1 200 0)) (C := RX12) (T := TX12) (N := 59) hx hb hts inU_X12 hown hK hP _ (mg_200 G Z Y σ0) rfl 0 (by decide) (hts _ wd_1248) (fun _ h9 => h9) rfl dX12_thrown_1 ?_
  obtain rfl := Option.some.inj h
  exact W.iret (v := (σ0.1 200 0)) hx hb hr (q_end hK hP hD hS) hS.2.2 dX12_thrown_4
abbrev rm_X12_isIn : Room := { frames := 0, cells := 0, slots := 0, locals := 0 }
set_option maxRecDepth 100000 in
set_option maxHeartbeats 8000000 in
theorem c_X12_isIn (l : Launch) (D : va_G) (G : hG) (w : va_W) (x0 : Int64) (x2 : Int64) (x4 : Int64) (res : Int32) (h : f_X12_isIn x0 x2 x4 = some res) : CT l yX12_isIn cX12_isIn 6 (some .boolean) rm_X12_isIn D G 0 0 [.long x0, .long x2, .long x4] w w (some (.int res)) := by
  unfold f_X12_isIn at h
  refine CT.mk (cc := cX12_isIn) (maxL := 6) (ret := (some .boolean)) (own := RX12) (plainFor_of_name (by decide)) rfl (Nat.le_of_ble_eq_true rfl) ?_
  intro p e s m args below meth c A ls C0 hnm hA hP hD hl
  obtain ⟨hx, hb, hr, hml, hown, hts, hlocks, hK, hE⟩ := id C0
  have hS : va_S A s.heap s.heap [] := va_S.rf
  have hl : lv_has ls 6 [(0, .long x0), (2, .long x2), (4, .long x4)] := hl
  refine lv_lload_n hx hb dX12_isIn_0 rfl (lv_at hl 0 rfl) ?_
  refine lv_lload_n hx hb dX12_isIn_1 rfl (lv_at hl 1 rfl) ?_
  refine W.lcmp hx hb dX12_isIn_2 ?_
  refine lv_if_lt (tgt := 17) hx hb dX12_isIn_3 (by decide) (fun c1 => ?_) (fun c1 => ?_)
  · skip
    have c1 := (lg_cmp_lt _ _).mp c1
    have h := f_t c1 h
    refine lv_iconst (v := 0) hx hb dX12_isIn_17 (by decide) ?_
    obtain rfl := Option.some.inj h
    exact W.zret (v := (0 : Int32)) hx hb hr rfl (q_end hK hP hD hS) hS.2.2 dX12_isIn_18
  · skip
    have c1 := mt (lg_cmp_lt _ _).mpr c1
    have h := f_f c1 h
    refine lv_lload_n hx hb dX12_isIn_6 rfl (lv_at hl 0 rfl) ?_
    refine lv_lload hx hb dX12_isIn_7 (lv_at hl 2 rfl) ?_
    refine W.lcmp hx hb dX12_isIn_9 ?_
    refine lv_if_gt (tgt := 17) hx hb dX12_isIn_10 (by decide) (fun c2 => ?_) (fun c2 => ?_)
    · skip
      have c2 := (lg_cmp_gt _ _).mp c2
      have h := f_t c2 h
      refine lv_iconst (v := 0) hx hb dX12_isIn_17 (by decide) ?_
      obtain rfl := Option.some.inj h
      exact W.zret (v := (0 : Int32)) hx hb hr rfl (q_end hK hP hD hS) hS.2.2 dX12_isIn_18
    · skip
      have c2 := mt (lg_cmp_gt _ _).mpr c2
      have h := f_f c2 h
      refine lv_iconst (v := 1) hx hb dX12_isIn_13 (by decide) ?_
      refine lv_goto (tgt := 18) hx hb dX12_isIn_14 (by decide) ?_
      obtain rfl := Option.some.inj h
      exact W.zret (v := (1 : Int32)) hx hb hr rfl (q_end hK hP hD hS) hS.2.2 dX12_isIn_18
abbrev rm_X12_bytesIn : Room := { frames := 0, cells := 0, slots := 0, locals := 0 }
set_option maxRecDepth 100000 in
set_option maxHeartbeats 8000000 in
theorem W_X12_bytesIn_L5 {p : Program} {e : Env} {s : State} {m : MethodId} {args : Array Value} {below : List Frame} {meth : Method} {c : Code} {A : Nat → Prop} (l : Launch) (D : va_G) (G : hG) (w : va_W) (F : Nat) (x0 : Int32) (y0 : Int32) (res : Int32) (C0 : Cx p s m args meth c cX12_bytesIn (some .int) RX12 3 D G A) (hA : ∀ q : Nat, s.heap.size ≤ q → A q) : ∀ (n : Nat) (z1 : Int32) (z2 : Int32), f_X12_bytesIn_L5 y0 n z1 z2 = some res → ∀ (H : Heap) (locs : List Loc) (ls : Array Slot), va_P D vwCl w H → va_D A w → va_S A s.heap H locs → lv_has ls 3 [(0, .int y0), (1, .int z1), (2, .int z2)] → W p l e rm_X12_bytesIn s m args below meth c H locs 0 0 (MQ below (Qg (some (.int res)) D (tysG G) w A) args s 0 0 A) (F0 m 5 ls []) := by
  obtain ⟨hx, hb, hr, hml, hown, hts, hlocks, hK, hE⟩ := id C0
  intro n
  induction n with
  | zero =>
    intro z1 z2 h
    cases h
  | succ n ih =>
    intro z1 z2 h H locs ls hP hD hS hl
    rw [f_X12_bytesIn_L5] at h
    refine lv_iload_n hx hb dX12_bytesIn_5 rfl (lv_at hl 2 rfl) ?_
    refine lv_if_lt (tgt := 33) hx hb dX12_bytesIn_6 (by decide) (fun c1 => ?_) (fun c1 => ?_)
    · skip
      have h := f_t c1 h
      refine lv_iload_n hx hb dX12_bytesIn_33 rfl (lv_at hl 1 rfl) ?_
      obtain rfl := Option.some.inj h
      exact W.iret (v := z1) hx hb hr (q_end hK hP hD hS) hS.2.2 dX12_bytesIn_34
    · skip
      have h := f_f c1 h
      refine lv_iload_n hx hb dX12_bytesIn_9 rfl (lv_at hl 1 rfl) ?_
      refine lv_iload_n hx hb dX12_bytesIn_10 rfl (lv_at hl 0 rfl) ?_
      refine lv_iload_n hx hb dX12_bytesIn_11 rfl (lv_at hl 2 rfl) ?_
      refine lv_ishr hx hb dX12_bytesIn_12 ?_
      refine lv_sipush (v := 255) hx hb dX12_bytesIn_13 (by decide) ?_
      refine lv_iand hx hb dX12_bytesIn_16 ?_
      refine lv_if_eq (tgt := 24) hx hb dX12_bytesIn_17 (by decide) (fun c2 => ?_) (fun c2 => ?_)
      · skip
        have h := f_t c2 h
        refine lv_iconst (v := 0) hx hb dX12_bytesIn_24 (by decide) ?_
        refine lv_iadd hx hb dX12_bytesIn_25 ?_
        refine lv_istore_n (lv' := [(1, .int (z1 + (0 : Int32))), (0, .int y0), (2, .int z2)]) hx hb dX12_bytesIn_26 rfl hl (by decide) rfl (fun ls hl => ?_)
        refine lv_iinc (v := (z2 + (-8 : Int32))) (lv' := [(2, .int (z2 + (-8 : Int32))), (1, .int (z1 + (0 : Int32))), (0, .int y0)]) hx hb dX12_bytesIn_27 hl (k := 2) rfl rfl (by decide) rfl (fun ls hl => ?_)
        refine lv_goto (tgt := 5) hx hb dX12_bytesIn_30 (by decide) ?_
        exact ih (z1 + (0 : Int32)) (z2 + (-8 : Int32)) h _ _ _ hP hD hS (lv_sub hl [2, 1, 0] rfl)
      · skip
        have h := f_f c2 h
        refine lv_iconst (v := 1) hx hb dX12_bytesIn_20 (by decide) ?_
        refine lv_goto (tgt := 25) hx hb dX12_bytesIn_21 (by decide) ?_
        refine lv_iadd hx hb dX12_bytesIn_25 ?_
        refine lv_istore_n (lv' := [(1, .int (z1 + (1 : Int32))), (0, .int y0), (2, .int z2)]) hx hb dX12_bytesIn_26 rfl hl (by decide) rfl (fun ls hl => ?_)
        refine lv_iinc (v := (z2 + (-8 : Int32))) (lv' := [(2, .int (z2 + (-8 : Int32))), (1, .int (z1 + (1 : Int32))), (0, .int y0)]) hx hb dX12_bytesIn_27 hl (k := 2) rfl rfl (by decide) rfl (fun ls hl => ?_)
        refine lv_goto (tgt := 5) hx hb dX12_bytesIn_30 (by decide) ?_
        exact ih (z1 + (1 : Int32)) (z2 + (-8 : Int32)) h _ _ _ hP hD hS (lv_sub hl [2, 1, 0] rfl)
set_option maxRecDepth 100000 in
set_option maxHeartbeats 8000000 in
theorem c_X12_bytesIn (l : Launch) (D : va_G) (G : hG) (w : va_W) (F : Nat) (x0 : Int32) (res : Int32) (h : f_X12_bytesIn F x0 = some res) : CT l yX12_bytesIn cX12_bytesIn 3 (some .int) rm_X12_bytesIn D G 0 0 [.int x0] w w (some (.int res)) := by
  unfold f_X12_bytesIn at h
  refine CT.mk (cc := cX12_bytesIn) (maxL := 3) (ret := (some .int)) (own := RX12) (plainFor_of_name (by decide)) rfl (Nat.le_of_ble_eq_true rfl) ?_
  intro p e s m args below meth c A ls C0 hnm hA hP hD hl
  obtain ⟨hx, hb, hr, hml, hown, hts, hlocks, hK, hE⟩ := id C0
  have hS : va_S A s.heap s.heap [] := va_S.rf
  have hl : lv_has ls 3 [(0, .int x0)] := hl
  refine lv_iconst (v := 0) hx hb dX12_bytesIn_0 (by decide) ?_
  refine lv_istore_n (lv' := [(1, .int (0 : Int32)), (0, .int x0)]) hx hb dX12_bytesIn_1 rfl hl (by decide) rfl (fun ls hl => ?_)
  refine lv_bipush (v := 24) hx hb dX12_bytesIn_2 (by decide) ?_
  refine lv_istore_n (lv' := [(2, .int (24 : Int32)), (1, .int (0 : Int32)), (0, .int x0)]) hx hb dX12_bytesIn_4 rfl hl (by decide) rfl (fun ls hl => ?_)
  refine W_X12_bytesIn_L5 l D G w F x0 x0 res C0 hA F (0 : Int32) (24 : Int32) h _ _ _ hP hD hS (lv_sub hl [2, 1, 0] rfl)
abbrev rm_X12_put : Room := { frames := 0, cells := 0, slots := 0, locals := 0 }
set_option maxRecDepth 100000 in
set_option maxHeartbeats 8000000 in
theorem W_X12_put_L3 {p : Program} {e : Env} {s : State} {m : MethodId} {args : Array Value} {below : List Frame} {meth : Method} {c : Code} {A : Nat → Prop} (l : Launch) (D : va_G) (G : hG) (Z : hZ) (Y : va_W) (σ0 : hSt) (F : Nat) (x1 : Int32) (y1 : Int32) (res : (Unit × hSt)) (C0 : Cx p s m args meth c cX12_put none RX12 3 D G A) (hA : ∀ q : Nat, s.heap.size ≤ q → A q) : ∀ (n : Nat) (σ1 : hSt) (z2 : Int32), f_X12_put_L3 y1 n σ1 z2 = some res → ∀ (H : Heap) (locs : List Loc) (ls : Array Slot), va_P D vwCl (mW G Z Y σ1) H → va_D A (mW G Z Y σ1) → va_S A s.heap H locs → lv_has ls 3 [(0, .ref (G.2.1 200)), (1, .int y1), (2, .int z2)] → W p l e rm_X12_put s m args below meth c H locs 0 0 (MQ below (Qg none D (tysG G) (mW G Z Y res.2) A) args s 0 0 A) (F0 m 3 ls []) := by
  obtain ⟨hx, hb, hr, hml, hown, hts, hlocks, hK, hE⟩ := id C0
  intro n
  induction n with
  | zero =>
    intro σ1 z2 h
    cases h
  | succ n ih =>
    intro σ1 z2 h H locs ls hP hD hS hl
    rw [f_X12_put_L3] at h
    refine lv_iload_n hx hb dX12_put_3 rfl (lv_at hl 2 rfl) ?_
    refine lv_if_lt (tgt := 49) hx hb dX12_put_4 (by decide) (fun c1 => ?_) (fun c1 => ?_)
    · skip
      have h := f_t c1 h
      obtain rfl := Option.some.inj h
      exact W.vret hx hb hr (q_end hK hP hD hS) hS.2.2 dX12_put_49
    · skip
      have h := f_f c1 h
      refine lv_iload_n hx hb dX12_put_7 rfl (lv_at hl 1 rfl) ?_
      refine lv_iload_n hx hb dX12_put_8 rfl (lv_at hl 2 rfl) ?_
      refine lv_ishr hx hb dX12_put_9 ?_
      refine lv_sipush (v := 255) hx hb dX12_put_10 (by decide) ?_
      refine lv_iand hx hb dX12_put_13 ?_
      refine lv_if_ne (tgt := 20) hx hb dX12_put_14 (by decide) (fun c2 => ?_) (fun c2 => ?_)
      · skip
        have h := f_f c2 h
        refine lv_aload_n hx hb dX12_put_20 rfl (lv_at hl 0 rfl) ?_
        refine va_get (D := D) (ci := 12) (v := .ref (G.2.1 201)) (C := RX12) (T := TX12) (N := 59) hx hb hts inU_X12 hown hK hP _ (mg_200 G Z Y σ1) rfl 1 (by decide) (hts _ wd_1249) (fun _ h9 => h9) rfl dX12_put_21 ?_
        refine lv_aload_n hx hb dX12_put_24 rfl (lv_at hl 0 rfl) ?_
        refine va_get (D := D) (ci := 12) (v := .int (σ1.1 200 3)) (C := RX12) (T := TX12) (N := 59) hx hb hts inU_X12 hown hK hP _ (mg_200 G Z Y σ1) rfl 3 (by decide) (hts _ wd_1251) (fun _ h9 => h9) rfl dX12_put_25 ?_
        refine lv_iload_n hx hb dX12_put_28 rfl (lv_at hl 1 rfl) ?_
        refine lv_iload_n hx hb dX12_put_29 rfl (lv_at hl 2 rfl) ?_
        refine lv_ishr hx hb dX12_put_30 ?_
        refine lv_i2b (v := ((y1 >>> (z2 &&& 31)) : Int32).toInt8.toInt32) hx hb dX12_put_31 rfl ?_
        obtain ⟨c3, h⟩ := f_n h
        refine va_bast hx hb hK hP hD hS _ 2 (mg_201 G Z Y σ1) rfl c3 dX12_put_32 (fun H locs hP hD hS => ?_)
        have hP := wrP (mp_201 G Z Y σ1 _ _) hP
        have hD := wrD (mp_201 G Z Y σ1 _ _) hD
        refine lv_aload_n hx hb dX12_put_33 rfl (lv_at hl 0 rfl) ?_
        refine lv_dup hx hb dX12_put_34 rfl ?_
        refine va_get (D := D) (ci := 12) (v := .int (σ1.1 200 3)) (C := RX12) (T := TX12) (N := 59) hx hb hts inU_X12 hown hK hP _ (mg_200 G Z Y (sI σ1 201 (((σ1.1 200 3) : Int32).toNatClampNeg) (vp_nar .byte ((y1 >>> (z2 &&& 31)) : Int32).toInt8.toInt32))) rfl 3 (by decide) (hts _ wd_1251) (fun _ h9 => h9) rfl dX12_put_35 ?_
        refine lv_iconst (v := 1) hx hb dX12_put_38 (by decide) ?_
        refine lv_iadd hx hb dX12_put_39 ?_
        refine va_put (D := D) (ci := 12) (v := .int ((σ1.1 200 3) + (1 : Int32))) (ty := .int) (C := RX12) (T := TX12) (N := 59) hx hb hts inU_X12 tyX12 tyX12_ok nmX12 hown hK hP hD hS _ (mg_200 G Z Y (sI σ1 201 (((σ1.1 200 3) : Int32).toNatClampNeg) (vp_nar .byte ((y1 >>> (z2 &&& 31)) : Int32).toInt8.toInt32))) rfl 3 (by decide) (hts _ wd_1251) (fun _ h9 => h9) rfl (by decide +kernel) rfl rfl (Nat.le_of_ble_eq_true rfl) dX12_put_40 (fun H locs hP hD hS => ?_)
        have hP := wrP (mp_200_3 G Z Y (sI σ1 201 (((σ1.1 200 3) : Int32).toNatClampNeg) (vp_nar .byte ((y1 >>> (z2 &&& 31)) : Int32).toInt8.toInt32)) ((σ1.1 200 3) + (1 : Int32))) hP
        have hD := wrD (mp_200_3 G Z Y (sI σ1 201 (((σ1.1 200 3) : Int32).toNatClampNeg) (vp_nar .byte ((y1 >>> (z2 &&& 31)) : Int32).toInt8.toInt32)) ((σ1.1 200 3) + (1 : Int32))) hD
        refine lv_iinc (v := (z2 + (-8 : Int32))) (lv' := [(2, .int (z2 + (-8 : Int32))), (0, .ref (G.2.1 200)), (1, .int y1)]) hx hb dX12_put_43 hl (k := 2) rfl rfl (by decide) rfl (fun ls hl => ?_)
        refine lv_goto (tgt := 3) hx hb dX12_put_46 (by decide) ?_
        exact ih (sI (sI σ1 201 (((σ1.1 200 3) : Int32).toNatClampNeg) (vp_nar .byte ((y1 >>> (z2 &&& 31)) : Int32).toInt8.toInt32)) 200 3 ((σ1.1 200 3) + (1 : Int32))) (z2 + (-8 : Int32)) h _ _ _ hP hD hS (lv_sub hl [1, 2, 0] rfl)
      · skip
        have h := f_t c2 h
        refine lv_goto (tgt := 43) hx hb dX12_put_17 (by decide) ?_
        refine lv_iinc (v := (z2 + (-8 : Int32))) (lv' := [(2, .int (z2 + (-8 : Int32))), (0, .ref (G.2.1 200)), (1, .int y1)]) hx hb dX12_put_43 hl (k := 2) rfl rfl (by decide) rfl (fun ls hl => ?_)
        refine lv_goto (tgt := 3) hx hb dX12_put_46 (by decide) ?_
        exact ih σ1 (z2 + (-8 : Int32)) h _ _ _ hP hD hS (lv_sub hl [1, 2, 0] rfl)
set_option maxRecDepth 100000 in
set_option maxHeartbeats 8000000 in
theorem c_X12_put (l : Launch) (D : va_G) (G : hG) (Z : hZ) (Y : va_W) (σ0 : hSt) (F : Nat) (x1 : Int32) (res : (Unit × hSt)) (h : f_X12_put F Z σ0 x1 = some res) : CT l yX12_put cX12_put 3 none rm_X12_put D G 0 0 [.ref (G.2.1 200), .int x1] (mW G Z Y σ0) (mW G Z Y res.2) none := by
  unfold f_X12_put at h
  refine CT.mk (cc := cX12_put) (maxL := 3) (ret := none) (own := RX12) (plainFor_of_name (by decide)) rfl (Nat.le_of_ble_eq_true rfl) ?_
  intro p e s m args below meth c A ls C0 hnm hA hP hD hl
  obtain ⟨hx, hb, hr, hml, hown, hts, hlocks, hK, hE⟩ := id C0
  have hS : va_S A s.heap s.heap [] := va_S.rf
  have hl : lv_has ls 3 [(0, .ref (G.2.1 200)), (1, .int x1)] := hl
  refine lv_bipush (v := 24) hx hb dX12_put_0 (by decide) ?_
  refine lv_istore_n (lv' := [(2, .int (24 : Int32)), (0, .ref (G.2.1 200)), (1, .int x1)]) hx hb dX12_put_2 rfl hl (by decide) rfl (fun ls hl => ?_)
  refine W_X12_put_L3 l D G Z Y σ0 F x1 x1 res C0 hA F σ0 (24 : Int32) h _ _ _ hP hD hS (lv_sub hl [1, 2, 0] rfl)
abbrev rm_X12_feed : Room := { frames := 1, cells := 0, slots := 0, locals := 22 }
set_option maxRecDepth 100000 in
set_option maxHeartbeats 8000000 in
theorem c_X12_feed (l : Launch) (D : va_G) (G : hG) (Z : hZ) (Y : va_W) (σ0 : hSt) (F : Nat) (x1 : Int32) (x2 : Int32) (x3 : Int32) (x4 : Int32) (x5 : Int32) (res : (Int32 × hSt)) (h : f_X12_feed F Z σ0 x1 x2 x3 x4 x5 = some res) : CT l yX12_feed cX12_feed 6 (some .int) rm_X12_feed D G 0 0 [.ref (G.2.1 200), .int x1, .int x2, .int x3, .int x4, .int x5] (mW G Z Y σ0) (mW G Z Y res.2) (some (.int res.1)) := by
  unfold f_X12_feed at h
  refine CT.mk (cc := cX12_feed) (maxL := 6) (ret := (some .int)) (own := RX12) (plainFor_of_name (by decide)) rfl (Nat.le_of_ble_eq_true rfl) ?_
  intro p e s m args below meth c A ls C0 hnm hA hP hD hl
  obtain ⟨hx, hb, hr, hml, hown, hts, hlocks, hK, hE⟩ := id C0
  have hS : va_S A s.heap s.heap [] := va_S.rf
  have hl : lv_has ls 6 [(0, .ref (G.2.1 200)), (1, .int x1), (2, .int x2), (3, .int x3), (4, .int x4), (5, .int x5)] := hl
  refine lv_aload_n hx hb dX12_feed_0 rfl (lv_at hl 0 rfl) ?_
  refine lv_iconst (v := 0) hx hb dX12_feed_1 (by decide) ?_
  refine va_put (D := D) (ci := 12) (v := .int (0 : Int32)) (ty := .int) (C := RX12) (T := TX12) (N := 59) hx hb hts inU_X12 tyX12 tyX12_ok nmX12 hown hK hP hD hS _ (mg_200 G Z Y σ0) rfl 0 (by decide) (hts _ wd_1248) (fun _ h9 => h9) rfl (by decide +kernel) rfl rfl (Nat.le_of_ble_eq_true rfl) dX12_feed_2 (fun H locs hP hD hS => ?_)
  have hP := wrP (mp_200_0 G Z Y σ0 (0 : Int32)) hP
  have hD := wrD (mp_200_0 G Z Y σ0 (0 : Int32)) hD
  refine lv_aload_n hx hb dX12_feed_5 rfl (lv_at hl 0 rfl) ?_
  refine va_get (D := D) (ci := 12) (v := .int (σ0.1 200 3)) (C := RX12) (T := TX12) (N := 59) hx hb hts inU_X12 hown hK hP _ (mg_200 G Z Y (sI σ0 200 0 (0 : Int32))) rfl 3 (by decide) (hts _ wd_1251) (fun _ h9 => h9) rfl dX12_feed_6 ?_
  refine lv_iload_n hx hb dX12_feed_9 rfl (lv_at hl 1 rfl) ?_
  obtain ⟨q1, hq1, h⟩ := f_b h
  refine cl_S (w := (mW G Z Y (sI σ0 200 0 (0 : Int32)))) (w' := (mW G Z Y (sI σ0 200 0 (0 : Int32)))) (rv := some (.int q1)) (bytes := cX12_bytesIn) (maxL := 3) (ret := (some .int)) (As := [.int x1]) (rest := [.int (σ0.1 200 3)]) (stk := [.int q1, .int (σ0.1 200 3)]) ⟨hx, hb, hml, hown, hts⟩ hK hE hA hP hD hS (c_X12_bytesIn l D G (mW G Z Y (sI σ0 200 0 (0 : Int32))) F x1 q1 hq1) (mkS hts wd_1433 wd_1434 wd_11 wd_1435 rfl rfl hd_X12_bytesIn ⟨Nat.le_of_ble_eq_true rfl, Nat.le_of_ble_eq_true rfl⟩) rfl hl.1 rfl (Nat.le_of_ble_eq_true rfl) dX12_feed_10 ⟨Nat.zero_le _, Nat.zero_le _⟩ rfl (fun H locs hP hD hS => ?_)
  refine lv_iadd hx hb dX12_feed_13 ?_
  refine lv_iload_n hx hb dX12_feed_14 rfl (lv_at hl 2 rfl) ?_
  obtain ⟨q2, hq2, h⟩ := f_b h
  refine cl_S (w := (mW G Z Y (sI σ0 200 0 (0 : Int32)))) (w' := (mW G Z Y (sI σ0 200 0 (0 : Int32)))) (rv := some (.int q2)) (bytes := cX12_bytesIn) (maxL := 3) (ret := (some .int)) (As := [.int x2]) (rest := [.int ((σ0.1 200 3) + q1)]) (stk := [.int q2, .int ((σ0.1 200 3) + q1)]) ⟨hx, hb, hml, hown, hts⟩ hK hE hA hP hD hS (c_X12_bytesIn l D G (mW G Z Y (sI σ0 200 0 (0 : Int32))) F x2 q2 hq2) (mkS hts wd_1433 wd_1434 wd_11 wd_1435 rfl rfl hd_X12_bytesIn ⟨Nat.le_of_ble_eq_true rfl, Nat.le_of_ble_eq_true rfl⟩) rfl hl.1 rfl (Nat.le_of_ble_eq_true rfl) dX12_feed_15 ⟨Nat.zero_le _, Nat.zero_le _⟩ rfl (fun H locs hP hD hS => ?_)
  refine lv_iadd hx hb dX12_feed_18 ?_
  refine lv_iload_n hx hb dX12_feed_19 rfl (lv_at hl 3 rfl) ?_
  obtain ⟨q3, hq3, h⟩ := f_b h
  refine cl_S (w := (mW G Z Y (sI σ0 200 0 (0 : Int32)))) (w' := (mW G Z Y (sI σ0 200 0 (0 : Int32)))) (rv := some (.int q3)) (bytes := cX12_bytesIn) (maxL := 3) (ret := (some .int)) (As := [.int x3]) (rest := [.int (((σ0.1 200 3) + q1) + q2)]) (stk := [.int q3, .int (((σ0.1 200 3) + q1) + q2)]) ⟨hx, hb, hml, hown, hts⟩ hK hE hA hP hD hS (c_X12_bytesIn l D G (mW G Z Y (sI σ0 200 0 (0 : Int32))) F x3 q3 hq3) (mkS hts wd_1433 wd_1434 wd_11 wd_1435 rfl rfl hd_X12_bytesIn ⟨Nat.le_of_ble_eq_true rfl, Nat.le_of_ble_eq_true rfl⟩) rfl hl.1 rfl (Nat.le_of_ble_eq_true rfl) dX12_feed_20 ⟨Nat.zero_le _, Nat.zero_le _⟩ rfl (fun H locs hP hD hS => ?_)
  refine lv_iadd hx hb dX12_feed_23 ?_
  refine lv_iload hx hb dX12_feed_24 (lv_at hl 4 rfl) ?_
  obtain ⟨q4, hq4, h⟩ := f_b h
  refine cl_S (w := (mW G Z Y (sI σ0 200 0 (0 : Int32)))) (w' := (mW G Z Y (sI σ0 200 0 (0 : Int32)))) (rv := some (.int q4)) (bytes := cX12_bytesIn) (maxL := 3) (ret := (some .int)) (As := [.int x4]) (rest := [.int ((((σ0.1 200 3) + q1) + q2) + q3)]) (stk := [.int q4, .int ((((σ0.1 200 3) + q1) + q2) + q3)]) ⟨hx, hb, hml, hown, hts⟩ hK hE hA hP hD hS (c_X12_bytesIn l D G (mW G Z Y (sI σ0 200 0 (0 : Int32))) F x4 q4 hq4) (mkS hts wd_1433 wd_1434 wd_11 wd_1435 rfl rfl hd_X12_bytesIn ⟨Nat.le_of_ble_eq_true rfl, Nat.le_of_ble_eq_true rfl⟩) rfl hl.1 rfl (Nat.le_of_ble_eq_true rfl) dX12_feed_26 ⟨Nat.zero_le _, Nat.zero_le _⟩ rfl (fun H locs hP hD hS => ?_)
  refine lv_iadd hx hb dX12_feed_29 ?_
  refine lv_iload hx hb dX12_feed_30 (lv_at hl 5 rfl) ?_
  obtain ⟨q5, hq5, h⟩ := f_b h
  refine cl_S (w := (mW G Z Y (sI σ0 200 0 (0 : Int32)))) (w' := (mW G Z Y (sI σ0 200 0 (0 : Int32)))) (rv := some (.int q5)) (bytes := cX12_bytesIn) (maxL := 3) (ret := (some .int)) (As := [.int x5]) (rest := [.int (((((σ0.1 200 3) + q1) + q2) + q3) + q4)]) (stk := [.int q5, .int (((((σ0.1 200 3) + q1) + q2) + q3) + q4)]) ⟨hx, hb, hml, hown, hts⟩ hK hE hA hP hD hS (c_X12_bytesIn l D G (mW G Z Y (sI σ0 200 0 (0 : Int32))) F x5 q5 hq5) (mkS hts wd_1433 wd_1434 wd_11 wd_1435 rfl rfl hd_X12_bytesIn ⟨Nat.le_of_ble_eq_true rfl, Nat.le_of_ble_eq_true rfl⟩) rfl hl.1 rfl (Nat.le_of_ble_eq_true rfl) dX12_feed_32 ⟨Nat.zero_le _, Nat.zero_le _⟩ rfl (fun H locs hP hD hS => ?_)
  refine lv_iadd hx hb dX12_feed_35 ?_
  refine lv_sipush (v := 200) hx hb dX12_feed_36 (by decide) ?_
  refine lv_icmp_le (tgt := 44) hx hb dX12_feed_39 (by decide) (fun c6 => ?_) (fun c6 => ?_)
  · skip
    have h := f_t c6 h
    refine lv_aload_n hx hb dX12_feed_44 rfl (lv_at hl 0 rfl) ?_
    refine lv_iload_n hx hb dX12_feed_45 rfl (lv_at hl 1 rfl) ?_
    obtain ⟨q7, hq7, h⟩ := f_b h
    refine cl_V (w := (mW G Z Y (sI σ0 200 0 (0 : Int32)))) (w' := (mW G Z Y q7.2)) (rv := none) (bytes := cX12_put) (maxL := 3) (ret := none) (C := RX12) (As := [.int x1]) (rest := []) (stk := []) ⟨hx, hb, hml, hown, hts⟩ hK hE hA hP hD hS (c_X12_put l D G Z Y (sI σ0 200 0 (0 : Int32)) F x1 q7 hq7) (cwV 1 hts (gwV wd_1436 wd_1438 wp_46 wd_11 wd_1439) rfl rfl rfl hd_X12_put ⟨Nat.le_of_ble_eq_true rfl, Nat.le_of_ble_eq_true rfl⟩) (mg_200 G Z Y (sI σ0 200 0 (0 : Int32))) rfl rfl rfl hl.1 rfl (Nat.le_of_ble_eq_true rfl) dX12_feed_46 ⟨Nat.zero_le _, Nat.zero_le _⟩ rfl (fun H locs hP hD hS => ?_)
    refine lv_aload_n hx hb dX12_feed_49 rfl (lv_at hl 0 rfl) ?_
    refine lv_iload_n hx hb dX12_feed_50 rfl (lv_at hl 2 rfl) ?_
    obtain ⟨q8, hq8, h⟩ := f_b h
    refine cl_V (w := (mW G Z Y q7.2)) (w' := (mW G Z Y q8.2)) (rv := none) (bytes := cX12_put) (maxL := 3) (ret := none) (C := RX12) (As := [.int x2]) (rest := []) (stk := []) ⟨hx, hb, hml, hown, hts⟩ hK hE hA hP hD hS (c_X12_put l D G Z Y q7.2 F x2 q8 hq8) (cwV 1 hts (gwV wd_1436 wd_1438 wp_46 wd_11 wd_1439) rfl rfl rfl hd_X12_put ⟨Nat.le_of_ble_eq_true rfl, Nat.le_of_ble_eq_true rfl⟩) (mg_200 G Z Y q7.2) rfl rfl rfl hl.1 rfl (Nat.le_of_ble_eq_true rfl) dX12_feed_51 ⟨Nat.zero_le _, Nat.zero_le _⟩ rfl (fun H locs hP hD hS => ?_)
    refine lv_aload_n hx hb dX12_feed_54 rfl (lv_at hl 0 rfl) ?_
    refine lv_iload_n hx hb dX12_feed_55 rfl (lv_at hl 3 rfl) ?_
    obtain ⟨q9, hq9, h⟩ := f_b h
    refine cl_V (w := (mW G Z Y q8.2)) (w' := (mW G Z Y q9.2)) (rv := none) (bytes := cX12_put) (maxL := 3) (ret := none) (C := RX12) (As := [.int x3]) (rest := []) (stk := []) ⟨hx, hb, hml, hown, hts⟩ hK hE hA hP hD hS (c_X12_put l D G Z Y q8.2 F x3 q9 hq9) (cwV 1 hts (gwV wd_1436 wd_1438 wp_46 wd_11 wd_1439) rfl rfl rfl hd_X12_put ⟨Nat.le_of_ble_eq_true rfl, Nat.le_of_ble_eq_true rfl⟩) (mg_200 G Z Y q8.2) rfl rfl rfl hl.1 rfl (Nat.le_of_ble_eq_true rfl) dX12_feed_56 ⟨Nat.zero_le _, Nat.zero_le _⟩ rfl (fun H locs hP hD hS => ?_)
    refine lv_aload_n hx hb dX12_feed_59 rfl (lv_at hl 0 rfl) ?_
    refine lv_iload hx hb dX12_feed_60 (lv_at hl 4 rfl) ?_
    obtain ⟨q10, hq10, h⟩ := f_b h
    refine cl_V (w := (mW G Z Y q9.2)) (w' := (mW G Z Y q10.2)) (rv := none) (bytes := cX12_put) (maxL := 3) (ret := none) (C := RX12) (As := [.int x4]) (rest := []) (stk := []) ⟨hx, hb, hml, hown, hts⟩ hK hE hA hP hD hS (c_X12_put l D G Z Y q9.2 F x4 q10 hq10) (cwV 1 hts (gwV wd_1436 wd_1438 wp_46 wd_11 wd_1439) rfl rfl rfl hd_X12_put ⟨Nat.le_of_ble_eq_true rfl, Nat.le_of_ble_eq_true rfl⟩) (mg_200 G Z Y q9.2) rfl rfl rfl hl.1 rfl (Nat.le_of_ble_eq_true rfl) dX12_feed_62 ⟨Nat.zero_le _, Nat.zero_le _⟩ rfl (fun H locs hP hD hS => ?_)
    refine lv_aload_n hx hb dX12_feed_65 rfl (lv_at hl 0 rfl) ?_
    refine lv_iload hx hb dX12_feed_66 (lv_at hl 5 rfl) ?_
    obtain ⟨q11, hq11, h⟩ := f_b h
    refine cl_V (w := (mW G Z Y q10.2)) (w' := (mW G Z Y q11.2)) (rv := none) (bytes := cX12_put) (maxL := 3) (ret := none) (C := RX12) (As := [.int x5]) (rest := []) (stk := []) ⟨hx, hb, hml, hown, hts⟩ hK hE hA hP hD hS (c_X12_put l D G Z Y q10.2 F x5 q11 hq11) (cwV 1 hts (gwV wd_1436 wd_1438 wp_46 wd_11 wd_1439) rfl rfl rfl hd_X12_put ⟨Nat.le_of_ble_eq_true rfl, Nat.le_of_ble_eq_true rfl⟩) (mg_200 G Z Y q10.2) rfl rfl rfl hl.1 rfl (Nat.le_of_ble_eq_true rfl) dX12_feed_68 ⟨Nat.zero_le _, Nat.zero_le _⟩ rfl (fun H locs hP hD hS => ?_)
    refine lv_aload_n hx hb dX12_feed_71 rfl (lv_at hl 0 rfl) ?_
    refine va_get (D := D) (ci := 12) (v := .int (q11.2.1 200 3)) (C := RX12) (T := TX12) (N := 59) hx hb hts inU_X12 hown hK hP _ (mg_200 G Z Y q11.2) rfl 3 (by decide) (hts _ wd_1251) (fun _ h9 => h9) rfl dX12_feed_72 ?_
    obtain rfl := Option.some.inj h
    exact W.iret (v := (q11.2.1 200 3)) hx hb hr (q_end hK hP hD hS) hS.2.2 dX12_feed_75
  · skip
    have h := f_f c6 h
    refine lv_iconst (v := (-1)) hx hb dX12_feed_42 (by decide) ?_
    obtain rfl := Option.some.inj h
    exact W.iret (v := (-1 : Int32)) hx hb hr (q_end hK hP hD hS) hS.2.2 dX12_feed_43
abbrev rm_X12_end : Room := { frames := 0, cells := 0, slots := 0, locals := 0 }
set_option maxRecDepth 100000 in
set_option maxHeartbeats 8000000 in
theorem c_X12_end (l : Launch) (D : va_G) (G : hG) (Z : hZ) (Y : va_W) (σ0 : hSt) (x1 : Int32) (res : (Int32 × hSt)) (h : f_X12_end Z σ0 x1 = some res) : CT l yX12_end cX12_end 2 (some .boolean) rm_X12_end D G 0 0 [.ref (G.2.1 200), .int x1] (mW G Z Y σ0) (mW G Z Y res.2) (some (.int res.1)) := by
  unfold f_X12_end at h
  refine CT.mk (cc := cX12_end) (maxL := 2) (ret := (some .boolean)) (own := RX12) (plainFor_of_name (by decide)) rfl (Nat.le_of_ble_eq_true rfl) ?_
  intro p e s m args below meth c A ls C0 hnm hA hP hD hl
  obtain ⟨hx, hb, hr, hml, hown, hts, hlocks, hK, hE⟩ := id C0
  have hS : va_S A s.heap s.heap [] := va_S.rf
  have hl : lv_has ls 2 [(0, .ref (G.2.1 200)), (1, .int x1)] := hl
  refine lv_aload_n hx hb dX12_end_0 rfl (lv_at hl 0 rfl) ?_
  refine lv_iconst (v := 0) hx hb dX12_end_1 (by decide) ?_
  refine va_put (D := D) (ci := 12) (v := .int (0 : Int32)) (ty := .int) (C := RX12) (T := TX12) (N := 59) hx hb hts inU_X12 tyX12 tyX12_ok nmX12 hown hK hP hD hS _ (mg_200 G Z Y σ0) rfl 0 (by decide) (hts _ wd_1248) (fun _ h9 => h9) rfl (by decide +kernel) rfl rfl (Nat.le_of_ble_eq_true rfl) dX12_end_2 (fun H locs hP hD hS => ?_)
  have hP := wrP (mp_200_0 G Z Y σ0 (0 : Int32)) hP
  have hD := wrD (mp_200_0 G Z Y σ0 (0 : Int32)) hD
  refine lv_iload_n hx hb dX12_end_5 rfl (lv_at hl 1 rfl) ?_
  refine lv_if_lt (tgt := 17) hx hb dX12_end_6 (by decide) (fun c1 => ?_) (fun c1 => ?_)
  · skip
    have h := f_t c1 h
    refine lv_iconst (v := 0) hx hb dX12_end_17 (by decide) ?_
    obtain rfl := Option.some.inj h
    exact W.zret (v := (0 : Int32)) hx hb hr rfl (q_end hK hP hD hS) hS.2.2 dX12_end_18
  · skip
    have h := f_f c1 h
    refine lv_iload_n hx hb dX12_end_9 rfl (lv_at hl 1 rfl) ?_
    refine lv_aload_n hx hb dX12_end_10 rfl (lv_at hl 0 rfl) ?_
    refine va_get (D := D) (ci := 12) (v := .int (σ0.1 200 3)) (C := RX12) (T := TX12) (N := 59) hx hb hts inU_X12 hown hK hP _ (mg_200 G Z Y (sI σ0 200 0 (0 : Int32))) rfl 3 (by decide) (hts _ wd_1251) (fun _ h9 => h9) rfl dX12_end_11 ?_
    refine lv_icmp_le (tgt := 19) hx hb dX12_end_14 (by decide) (fun c2 => ?_) (fun c2 => ?_)
    · skip
      have h := f_t c2 h
      refine lv_aload_n hx hb dX12_end_19 rfl (lv_at hl 0 rfl) ?_
      refine lv_iload_n hx hb dX12_end_20 rfl (lv_at hl 1 rfl) ?_
      refine va_put (D := D) (ci := 12) (v := .int x1) (ty := .int) (C := RX12) (T := TX12) (N := 59) hx hb hts inU_X12 tyX12 tyX12_ok nmX12 hown hK hP hD hS _ (mg_200 G Z Y (sI σ0 200 0 (0 : Int32))) rfl 3 (by decide) (hts _ wd_1251) (fun _ h9 => h9) rfl (by decide +kernel) rfl rfl (Nat.le_of_ble_eq_true rfl) dX12_end_21 (fun H locs hP hD hS => ?_)
      have hP := wrP (mp_200_3 G Z Y (sI σ0 200 0 (0 : Int32)) x1) hP
      have hD := wrD (mp_200_3 G Z Y (sI σ0 200 0 (0 : Int32)) x1) hD
      refine lv_iconst (v := 1) hx hb dX12_end_24 (by decide) ?_
      obtain rfl := Option.some.inj h
      exact W.zret (v := (1 : Int32)) hx hb hr rfl (q_end hK hP hD hS) hS.2.2 dX12_end_25
    · skip
      have h := f_f c2 h
      refine lv_iconst (v := 0) hx hb dX12_end_17 (by decide) ?_
      obtain rfl := Option.some.inj h
      exact W.zret (v := (0 : Int32)) hx hb hr rfl (q_end hK hP hD hS) hS.2.2 dX12_end_18
abbrev rm_X12_begin : Room := { frames := 0, cells := 0, slots := 0, locals := 0 }
set_option maxRecDepth 100000 in
set_option maxHeartbeats 8000000 in
theorem c_X12_begin (l : Launch) (D : va_G) (G : hG) (Z : hZ) (Y : va_W) (σ0 : hSt) (r1 : Nat) (hr1 : isBy r1 = true) (x2 : Int32) (x3 : Int32) (x4 : Int32) (res : (Unit × hSt)) (h : f_X12_begin Z σ0 r1 x2 x3 x4 = some res) : CT l yX12_begin cX12_begin 5 none rm_X12_begin D G 0 0 [.ref (G.2.1 200), .ref (G.2.1 r1), .int x2, .int x3, .int x4] (mW G Z Y σ0) (mW G Z Y res.2) none := by
  unfold f_X12_begin at h
  refine CT.mk (cc := cX12_begin) (maxL := 5) (ret := none) (own := RX12) (plainFor_of_name (by decide)) rfl (Nat.le_of_ble_eq_true rfl) ?_
  intro p e s m args below meth c A ls C0 hnm hA hP hD hl
  obtain ⟨hx, hb, hr, hml, hown, hts, hlocks, hK, hE⟩ := id C0
  have hS : va_S A s.heap s.heap [] := va_S.rf
  have hl : lv_has ls 5 [(0, .ref (G.2.1 200)), (1, .ref (G.2.1 r1)), (2, .int x2), (3, .int x3), (4, .int x4)] := hl
  refine lv_aload_n hx hb dX12_begin_0 rfl (lv_at hl 0 rfl) ?_
  refine lv_aload_n hx hb dX12_begin_1 rfl (lv_at hl 1 rfl) ?_
  refine va_put (D := D) (ci := 12) (v := .ref (G.2.1 r1)) (ty := (.array .byte)) (C := RX12) (T := TX12) (N := 59) hx hb hts inU_X12 tyX12 tyX12_ok nmX12 hown hK hP hD hS _ (mg_200 G Z Y σ0) rfl 2 (by decide) (hts _ wd_1250) (fun _ h9 => h9) rfl (by decide +kernel) rfl rfl (Nat.le_of_ble_eq_true rfl) dX12_begin_2 (fun H locs hP hD hS => ?_)
  have hP := wrP (mp_200_2 G Z Y σ0 (some r1)) hP
  have hD := wrD (mp_200_2 G Z Y σ0 (some r1)) hD
  refine lv_aload_n hx hb dX12_begin_5 rfl (lv_at hl 0 rfl) ?_
  refine lv_iload_n hx hb dX12_begin_6 rfl (lv_at hl 2 rfl) ?_
  refine va_put (D := D) (ci := 12) (v := .int x2) (ty := .int) (C := RX12) (T := TX12) (N := 59) hx hb hts inU_X12 tyX12 tyX12_ok nmX12 hown hK hP hD hS _ (mg_200 G Z Y (sR σ0 200 2 (some r1))) rfl 4 (by decide) (hts _ wd_1252) (fun _ h9 => h9) rfl (by decide +kernel) rfl rfl (Nat.le_of_ble_eq_true rfl) dX12_begin_7 (fun H locs hP hD hS => ?_)
  have hP := wrP (mp_200_4 G Z Y (sR σ0 200 2 (some r1)) x2) hP
  have hD := wrD (mp_200_4 G Z Y (sR σ0 200 2 (some r1)) x2) hD
  refine lv_aload_n hx hb dX12_begin_10 rfl (lv_at hl 0 rfl) ?_
  refine lv_iload_n hx hb dX12_begin_11 rfl (lv_at hl 3 rfl) ?_
  refine va_put (D := D) (ci := 12) (v := .int x3) (ty := .int) (C := RX12) (T := TX12) (N := 59) hx hb hts inU_X12 tyX12 tyX12_ok nmX12 hown hK hP hD hS _ (mg_200 G Z Y (sI (sR σ0 200 2 (some r1)) 200 4 x2)) rfl 5 (by decide) (hts _ wd_1253) (fun _ h9 => h9) rfl (by decide +kernel) rfl rfl (Nat.le_of_ble_eq_true rfl) dX12_begin_12 (fun H locs hP hD hS => ?_)
  have hP := wrP (mp_200_5 G Z Y (sI (sR σ0 200 2 (some r1)) 200 4 x2) x3) hP
  have hD := wrD (mp_200_5 G Z Y (sI (sR σ0 200 2 (some r1)) 200 4 x2) x3) hD
  refine lv_aload_n hx hb dX12_begin_15 rfl (lv_at hl 0 rfl) ?_
  refine lv_iconst (v := 0) hx hb dX12_begin_16 (by decide) ?_
  refine va_put (D := D) (ci := 12) (v := .int (0 : Int32)) (ty := .int) (C := RX12) (T := TX12) (N := 59) hx hb hts inU_X12 tyX12 tyX12_ok nmX12 hown hK hP hD hS _ (mg_200 G Z Y (sI (sI (sR σ0 200 2 (some r1)) 200 4 x2) 200 5 x3)) rfl 6 (by decide) (hts _ wd_1254) (fun _ h9 => h9) rfl (by decide +kernel) rfl rfl (Nat.le_of_ble_eq_true rfl) dX12_begin_17 (fun H locs hP hD hS => ?_)
  have hP := wrP (mp_200_6 G Z Y (sI (sI (sR σ0 200 2 (some r1)) 200 4 x2) 200 5 x3) (0 : Int32)) hP
  have hD := wrD (mp_200_6 G Z Y (sI (sI (sR σ0 200 2 (some r1)) 200 4 x2) 200 5 x3) (0 : Int32)) hD
  refine lv_aload_n hx hb dX12_begin_20 rfl (lv_at hl 0 rfl) ?_
  refine lv_iconst (v := (-1)) hx hb dX12_begin_21 (by decide) ?_
  refine va_put (D := D) (ci := 12) (v := .int (-1 : Int32)) (ty := .int) (C := RX12) (T := TX12) (N := 59) hx hb hts inU_X12 tyX12 tyX12_ok nmX12 hown hK hP hD hS _ (mg_200 G Z Y (sI (sI (sI (sR σ0 200 2 (some r1)) 200 4 x2) 200 5 x3) 200 6 (0 : Int32))) rfl 7 (by decide) (hts _ wd_1255) (fun _ h9 => h9) rfl (by decide +kernel) rfl rfl (Nat.le_of_ble_eq_true rfl) dX12_begin_22 (fun H locs hP hD hS => ?_)
  have hP := wrP (mp_200_7 G Z Y (sI (sI (sI (sR σ0 200 2 (some r1)) 200 4 x2) 200 5 x3) 200 6 (0 : Int32)) (-1 : Int32)) hP
  have hD := wrD (mp_200_7 G Z Y (sI (sI (sI (sR σ0 200 2 (some r1)) 200 4 x2) 200 5 x3) 200 6 (0 : Int32)) (-1 : Int32)) hD
  refine lv_aload_n hx hb dX12_begin_25 rfl (lv_at hl 0 rfl) ?_
  refine lv_iconst (v := 0) hx hb dX12_begin_26 (by decide) ?_
  refine va_put (D := D) (ci := 12) (v := .int (0 : Int32)) (ty := .int) (C := RX12) (T := TX12) (N := 59) hx hb hts inU_X12 tyX12 tyX12_ok nmX12 hown hK hP hD hS _ (mg_200 G Z Y (sI (sI (sI (sI (sR σ0 200 2 (some r1)) 200 4 x2) 200 5 x3) 200 6 (0 : Int32)) 200 7 (-1 : Int32))) rfl 8 (by decide) (hts _ wd_1256) (fun _ h9 => h9) rfl (by decide +kernel) rfl rfl (Nat.le_of_ble_eq_true rfl) dX12_begin_27 (fun H locs hP hD hS => ?_)
  have hP := wrP (mp_200_8 G Z Y (sI (sI (sI (sI (sR σ0 200 2 (some r1)) 200 4 x2) 200 5 x3) 200 6 (0 : Int32)) 200 7 (-1 : Int32)) (0 : Int32)) hP
  have hD := wrD (mp_200_8 G Z Y (sI (sI (sI (sI (sR σ0 200 2 (some r1)) 200 4 x2) 200 5 x3) 200 6 (0 : Int32)) 200 7 (-1 : Int32)) (0 : Int32)) hD
  refine lv_aload_n hx hb dX12_begin_30 rfl (lv_at hl 0 rfl) ?_
  refine lv_iload hx hb dX12_begin_31 (lv_at hl 4 rfl) ?_
  refine va_put (D := D) (ci := 12) (v := .int x4) (ty := .int) (C := RX12) (T := TX12) (N := 59) hx hb hts inU_X12 tyX12 tyX12_ok nmX12 hown hK hP hD hS _ (mg_200 G Z Y (sI (sI (sI (sI (sI (sR σ0 200 2 (some r1)) 200 4 x2) 200 5 x3) 200 6 (0 : Int32)) 200 7 (-1 : Int32)) 200 8 (0 : Int32))) rfl 9 (by decide) (hts _ wd_1257) (fun _ h9 => h9) rfl (by decide +kernel) rfl rfl (Nat.le_of_ble_eq_true rfl) dX12_begin_33 (fun H locs hP hD hS => ?_)
  have hP := wrP (mp_200_9 G Z Y (sI (sI (sI (sI (sI (sR σ0 200 2 (some r1)) 200 4 x2) 200 5 x3) 200 6 (0 : Int32)) 200 7 (-1 : Int32)) 200 8 (0 : Int32)) x4) hP
  have hD := wrD (mp_200_9 G Z Y (sI (sI (sI (sI (sI (sR σ0 200 2 (some r1)) 200 4 x2) 200 5 x3) 200 6 (0 : Int32)) 200 7 (-1 : Int32)) 200 8 (0 : Int32)) x4) hD
  obtain rfl := Option.some.inj h
  exact W.vret hx hb hr (q_end hK hP hD hS) hS.2.2 dX12_begin_36
abbrev rm_X12_look : Room := { frames := 0, cells := 0, slots := 0, locals := 0 }
set_option maxRecDepth 100000 in
set_option maxHeartbeats 8000000 in
theorem W_X12_look_L0 {p : Program} {e : Env} {s : State} {m : MethodId} {args : Array Value} {below : List Frame} {meth : Method} {c : Code} {A : Nat → Prop} (l : Launch) (D : va_G) (G : hG) (Z : hZ) (Y : va_W) (σ0 : hSt) (F : Nat) (res : (Int32 × hSt)) (C0 : Cx p s m args meth c cX12_look (some .int) RX12 1 D G A) (hA : ∀ q : Nat, s.heap.size ≤ q → A q) (k43 : hSt → Option (Int32 × hSt)) (hk43 : ∀ (σ1 : hSt), k43 σ1 = some res → ∀ (H : Heap) (locs : List Loc) (ls : Array Slot), va_P D vwCl (mW G Z Y σ1) H → va_D A (mW G Z Y σ1) → va_S A s.heap H locs → lv_has ls 1 [(0, .ref (G.2.1 200))] → W p l e rm_X12_look s m args below meth c H locs 0 0 (MQ below (Qg (some (.int res.1)) D (tysG G) (mW G Z Y res.2) A) args s 0 0 A) (F0 m 43 ls [])) : ∀ (n : Nat) (σ1 : hSt), f_X12_look_L0 k43 n σ1 = some res → ∀ (H : Heap) (locs : List Loc) (ls : Array Slot), va_P D vwCl (mW G Z Y σ1) H → va_D A (mW G Z Y σ1) → va_S A s.heap H locs → lv_has ls 1 [(0, .ref (G.2.1 200))] → W p l e rm_X12_look s m args below meth c H locs 0 0 (MQ below (Qg (some (.int res.1)) D (tysG G) (mW G Z Y res.2) A) args s 0 0 A) (F0 m 0 ls []) := by
  obtain ⟨hx, hb, hr, hml, hown, hts, hlocks, hK, hE⟩ := id C0
  intro n
  induction n with
  | zero =>
    intro σ1 h
    cases h
  | succ n ih =>
    intro σ1 h H locs ls hP hD hS hl
    rw [f_X12_look_L0] at h
    refine lv_aload_n hx hb dX12_look_0 rfl (lv_at hl 0 rfl) ?_
    refine va_get (D := D) (ci := 12) (v := .int (σ1.1 200 6)) (C := RX12) (T := TX12) (N := 59) hx hb hts inU_X12 hown hK hP _ (mg_200 G Z Y σ1) rfl 6 (by decide) (hts _ wd_1254) (fun _ h9 => h9) rfl dX12_look_1 ?_
    refine lv_aload_n hx hb dX12_look_4 rfl (lv_at hl 0 rfl) ?_
    refine va_get (D := D) (ci := 12) (v := .int (σ1.1 200 5)) (C := RX12) (T := TX12) (N := 59) hx hb hts inU_X12 hown hK hP _ (mg_200 G Z Y σ1) rfl 5 (by decide) (hts _ wd_1253) (fun _ h9 => h9) rfl dX12_look_5 ?_
    refine lv_icmp_ge (tgt := 43) hx hb dX12_look_8 (by decide) (fun c1 => ?_) (fun c1 => ?_)
    · skip
      have h := f_t c1 h
      exact hk43 σ1 h _ _ _ hP hD hS hl
    · skip
      have h := f_f c1 h
      refine lv_aload_n hx hb dX12_look_11 rfl (lv_at hl 0 rfl) ?_
      refine va_get (D := D) (ci := 12) (v := va_rf (((σ1.2.2 200 2)).map G.2.1)) (C := RX12) (T := TX12) (N := 59) hx hb hts inU_X12 hown hK hP _ (mg_200 G Z Y σ1) rfl 2 (by decide) (hts _ wd_1250) (fun _ h9 => h9) rfl dX12_look_12 ?_
      rcases f_o h with ⟨ho, h⟩ | ⟨r2, ho, h⟩
      · rw [ho]
        refine lv_aload_n hx hb dX12_look_15 rfl (lv_at hl 0 rfl) ?_
        refine va_get (D := D) (ci := 12) (v := .int (σ1.1 200 4)) (C := RX12) (T := TX12) (N := 59) hx hb hts inU_X12 hown hK hP _ (mg_200 G Z Y σ1) rfl 4 (by decide) (hts _ wd_1252) (fun _ h9 => h9) rfl dX12_look_16 ?_
        refine lv_aload_n hx hb dX12_look_19 rfl (lv_at hl 0 rfl) ?_
        refine va_get (D := D) (ci := 12) (v := .int (σ1.1 200 6)) (C := RX12) (T := TX12) (N := 59) hx hb hts inU_X12 hown hK hP _ (mg_200 G Z Y σ1) rfl 6 (by decide) (hts _ wd_1254) (fun _ h9 => h9) rfl dX12_look_20 ?_
        refine lv_iadd hx hb dX12_look_23 ?_
        cases h
      · rw [ho]
        obtain ⟨hr2, h⟩ := f_c h
        refine lv_aload_n hx hb dX12_look_15 rfl (lv_at hl 0 rfl) ?_
        refine va_get (D := D) (ci := 12) (v := .int (σ1.1 200 4)) (C := RX12) (T := TX12) (N := 59) hx hb hts inU_X12 hown hK hP _ (mg_200 G Z Y σ1) rfl 4 (by decide) (hts _ wd_1252) (fun _ h9 => h9) rfl dX12_look_16 ?_
        refine lv_aload_n hx hb dX12_look_19 rfl (lv_at hl 0 rfl) ?_
        refine va_get (D := D) (ci := 12) (v := .int (σ1.1 200 6)) (C := RX12) (T := TX12) (N := 59) hx hb hts inU_X12 hown hK hP _ (mg_200 G Z Y σ1) rfl 6 (by decide) (hts _ wd_1254) (fun _ h9 => h9) rfl dX12_look_20 ?_
        refine lv_iadd hx hb dX12_look_23 ?_
        obtain ⟨c3, h⟩ := f_n h
        refine va_baldE (v := (σ1.1 r2 ((((σ1.1 200 4) + (σ1.1 200 6)) : Int32).toNatClampNeg))) hx hb hK hP _ 2 (mg_By G Z Y σ1 hr2) rfl c3 dX12_look_24 rfl ?_
        refine lv_bipush (v := 32) hx hb dX12_look_25 (by decide) ?_
        refine lv_icmp_ne (tgt := 43) hx hb dX12_look_27 (by decide) (fun c4 => ?_) (fun c4 => ?_)
        · skip
          have h := f_f c4 h
          exact hk43 σ1 h _ _ _ hP hD hS hl
        · skip
          have h := f_t c4 h
          refine lv_aload_n hx hb dX12_look_30 rfl (lv_at hl 0 rfl) ?_
          refine lv_dup hx hb dX12_look_31 rfl ?_
          refine va_get (D := D) (ci := 12) (v := .int (σ1.1 200 6)) (C := RX12) (T := TX12) (N := 59) hx hb hts inU_X12 hown hK hP _ (mg_200 G Z Y σ1) rfl 6 (by decide) (hts _ wd_1254) (fun _ h9 => h9) rfl dX12_look_32 ?_
          refine lv_iconst (v := 1) hx hb dX12_look_35 (by decide) ?_
          refine lv_iadd hx hb dX12_look_36 ?_
          refine va_put (D := D) (ci := 12) (v := .int ((σ1.1 200 6) + (1 : Int32))) (ty := .int) (C := RX12) (T := TX12) (N := 59) hx hb hts inU_X12 tyX12 tyX12_ok nmX12 hown hK hP hD hS _ (mg_200 G Z Y σ1) rfl 6 (by decide) (hts _ wd_1254) (fun _ h9 => h9) rfl (by decide +kernel) rfl rfl (Nat.le_of_ble_eq_true rfl) dX12_look_37 (fun H locs hP hD hS => ?_)
          have hP := wrP (mp_200_6 G Z Y σ1 ((σ1.1 200 6) + (1 : Int32))) hP
          have hD := wrD (mp_200_6 G Z Y σ1 ((σ1.1 200 6) + (1 : Int32))) hD
          refine lv_goto (tgt := 0) hx hb dX12_look_40 (by decide) ?_
          exact ih (sI σ1 200 6 ((σ1.1 200 6) + (1 : Int32))) h _ _ _ hP hD hS hl
set_option maxRecDepth 100000 in
set_option maxHeartbeats 8000000 in
theorem c_X12_look (l : Launch) (D : va_G) (G : hG) (Z : hZ) (Y : va_W) (σ0 : hSt) (F : Nat) (res : (Int32 × hSt)) (h : f_X12_look F Z σ0 = some res) : CT l yX12_look cX12_look 1 (some .int) rm_X12_look D G 0 0 [.ref (G.2.1 200)] (mW G Z Y σ0) (mW G Z Y res.2) (some (.int res.1)) := by
  unfold f_X12_look at h
  refine CT.mk (cc := cX12_look) (maxL := 1) (ret := (some .int)) (own := RX12) (plainFor_of_name (by decide)) rfl (Nat.le_of_ble_eq_true rfl) ?_
  intro p e s m args below meth c A ls C0 hnm hA hP hD hl
  obtain ⟨hx, hb, hr, hml, hown, hts, hlocks, hK, hE⟩ := id C0
  have hS : va_S A s.heap s.heap [] := va_S.rf
  have hl : lv_has ls 1 [(0, .ref (G.2.1 200))] := hl
  refine W_X12_look_L0 l D G Z Y σ0 F res C0 hA _ ?_ F σ0 h _ _ _ hP hD hS hl
  · intro σ1 h H locs ls hP hD hS hl
    refine lv_aload_n hx hb dX12_look_43 rfl (lv_at hl 0 rfl) ?_
    refine va_get (D := D) (ci := 12) (v := .int (σ1.1 200 6)) (C := RX12) (T := TX12) (N := 59) hx hb hts inU_X12 hown hK hP _ (mg_200 G Z Y σ1) rfl 6 (by decide) (hts _ wd_1254) (fun _ h9 => h9) rfl dX12_look_44 ?_
    refine lv_aload_n hx hb dX12_look_47 rfl (lv_at hl 0 rfl) ?_
    refine va_get (D := D) (ci := 12) (v := .int (σ1.1 200 5)) (C := RX12) (T := TX12) (N := 59) hx hb hts inU_X12 hown hK hP _ (mg_200 G Z Y σ1) rfl 5 (by decide) (hts _ wd_1253) (fun _ h9 => h9) rfl dX12_look_48 ?_
    refine lv_icmp_ge (tgt := 75) hx hb dX12_look_51 (by decide) (fun c5 => ?_) (fun c5 => ?_)
    · skip
      have h := f_t c5 h
      refine lv_iconst (v := (-1)) hx hb dX12_look_75 (by decide) ?_
      obtain rfl := Option.some.inj h
      exact W.iret (v := (-1 : Int32)) hx hb hr (q_end hK hP hD hS) hS.2.2 dX12_look_76
    · skip
      have h := f_f c5 h
      refine lv_aload_n hx hb dX12_look_54 rfl (lv_at hl 0 rfl) ?_
      refine va_get (D := D) (ci := 12) (v := va_rf (((σ1.2.2 200 2)).map G.2.1)) (C := RX12) (T := TX12) (N := 59) hx hb hts inU_X12 hown hK hP _ (mg_200 G Z Y σ1) rfl 2 (by decide) (hts _ wd_1250) (fun _ h9 => h9) rfl dX12_look_55 ?_
      rcases f_o h with ⟨ho, h⟩ | ⟨r6, ho, h⟩
      · rw [ho]
        refine lv_aload_n hx hb dX12_look_58 rfl (lv_at hl 0 rfl) ?_
        refine va_get (D := D) (ci := 12) (v := .int (σ1.1 200 4)) (C := RX12) (T := TX12) (N := 59) hx hb hts inU_X12 hown hK hP _ (mg_200 G Z Y σ1) rfl 4 (by decide) (hts _ wd_1252) (fun _ h9 => h9) rfl dX12_look_59 ?_
        refine lv_aload_n hx hb dX12_look_62 rfl (lv_at hl 0 rfl) ?_
        refine va_get (D := D) (ci := 12) (v := .int (σ1.1 200 6)) (C := RX12) (T := TX12) (N := 59) hx hb hts inU_X12 hown hK hP _ (mg_200 G Z Y σ1) rfl 6 (by decide) (hts _ wd_1254) (fun _ h9 => h9) rfl dX12_look_63 ?_
        refine lv_iadd hx hb dX12_look_66 ?_
        cases h
      · rw [ho]
        obtain ⟨hr6, h⟩ := f_c h
        refine lv_aload_n hx hb dX12_look_58 rfl (lv_at hl 0 rfl) ?_
        refine va_get (D := D) (ci := 12) (v := .int (σ1.1 200 4)) (C := RX12) (T := TX12) (N := 59) hx hb hts inU_X12 hown hK hP _ (mg_200 G Z Y σ1) rfl 4 (by decide) (hts _ wd_1252) (fun _ h9 => h9) rfl dX12_look_59 ?_
        refine lv_aload_n hx hb dX12_look_62 rfl (lv_at hl 0 rfl) ?_
        refine va_get (D := D) (ci := 12) (v := .int (σ1.1 200 6)) (C := RX12) (T := TX12) (N := 59) hx hb hts inU_X12 hown hK hP _ (mg_200 G Z Y σ1) rfl 6 (by decide) (hts _ wd_1254) (fun _ h9 => h9) rfl dX12_look_63 ?_
        refine lv_iadd hx hb dX12_look_66 ?_
        obtain ⟨c7, h⟩ := f_n h
        refine va_baldE (v := (σ1.1 r6 ((((σ1.1 200 4) + (σ1.1 200 6)) : Int32).toNatClampNeg))) hx hb hK hP _ 2 (mg_By G Z Y σ1 hr6) rfl c7 dX12_look_67 rfl ?_
        refine lv_sipush (v := 255) hx hb dX12_look_68 (by decide) ?_
        refine lv_iand hx hb dX12_look_71 ?_
        refine lv_goto (tgt := 76) hx hb dX12_look_72 (by decide) ?_
        obtain rfl := Option.some.inj h
        exact W.iret (v := ((σ1.1 r6 ((((σ1.1 200 4) + (σ1.1 200 6)) : Int32).toNatClampNeg)) &&& (255 : Int32))) hx hb hr (q_end hK hP hD hS) hS.2.2 dX12_look_76
abbrev rm_X12_fails : Room := { frames := 0, cells := 0, slots := 0, locals := 0 }
set_option maxRecDepth 100000 in
set_option maxHeartbeats 8000000 in
theorem c_X12_fails (l : Launch) (D : va_G) (G : hG) (Z : hZ) (Y : va_W) (σ0 : hSt) (res : (Int32 × hSt)) (h : f_X12_fails Z σ0 = some res) : CT l yX12_fails cX12_fails 1 (some .boolean) rm_X12_fails D G 0 0 [.ref (G.2.1 200)] (mW G Z Y σ0) (mW G Z Y res.2) (some (.int res.1)) := by
  unfold f_X12_fails at h
  refine CT.mk (cc := cX12_fails) (maxL := 1) (ret := (some .boolean)) (own := RX12) (plainFor_of_name (by decide)) rfl (Nat.le_of_ble_eq_true rfl) ?_
  intro p e s m args below meth c A ls C0 hnm hA hP hD hl
  obtain ⟨hx, hb, hr, hml, hown, hts, hlocks, hK, hE⟩ := id C0
  have hS : va_S A s.heap s.heap [] := va_S.rf
  have hl : lv_has ls 1 [(0, .ref (G.2.1 200))] := hl
  refine lv_aload_n hx hb dX12_fails_0 rfl (lv_at hl 0 rfl) ?_
  refine va_get (D := D) (ci := 12) (v := .int (σ0.1 200 7)) (C := RX12) (T := TX12) (N := 59) hx hb hts inU_X12 hown hK hP _ (mg_200 G Z Y σ0) rfl 7 (by decide) (hts _ wd_1255) (fun _ h9 => h9) rfl dX12_fails_1 ?_
  refine lv_iconst (v := (-1)) hx hb dX12_fails_4 (by decide) ?_
  refine lv_icmp_ne (tgt := 16) hx hb dX12_fails_5 (by decide) (fun c1 => ?_) (fun c1 => ?_)
  · skip
    have h := f_f c1 h
    refine lv_iconst (v := 0) hx hb dX12_fails_16 (by decide) ?_
    obtain rfl := Option.some.inj h
    exact W.zret (v := (0 : Int32)) hx hb hr rfl (q_end hK hP hD hS) hS.2.2 dX12_fails_17
  · skip
    have h := f_t c1 h
    refine lv_aload_n hx hb dX12_fails_8 rfl (lv_at hl 0 rfl) ?_
    refine lv_aload_n hx hb dX12_fails_9 rfl (lv_at hl 0 rfl) ?_
    refine va_get (D := D) (ci := 12) (v := .int (σ0.1 200 6)) (C := RX12) (T := TX12) (N := 59) hx hb hts inU_X12 hown hK hP _ (mg_200 G Z Y σ0) rfl 6 (by decide) (hts _ wd_1254) (fun _ h9 => h9) rfl dX12_fails_10 ?_
    refine va_put (D := D) (ci := 12) (v := .int (σ0.1 200 6)) (ty := .int) (C := RX12) (T := TX12) (N := 59) hx hb hts inU_X12 tyX12 tyX12_ok nmX12 hown hK hP hD hS _ (mg_200 G Z Y σ0) rfl 7 (by decide) (hts _ wd_1255) (fun _ h9 => h9) rfl (by decide +kernel) rfl rfl (Nat.le_of_ble_eq_true rfl) dX12_fails_13 (fun H locs hP hD hS => ?_)
    have hP := wrP (mp_200_7 G Z Y σ0 (σ0.1 200 6)) hP
    have hD := wrD (mp_200_7 G Z Y σ0 (σ0.1 200 6)) hD
    refine lv_iconst (v := 0) hx hb dX12_fails_16 (by decide) ?_
    obtain rfl := Option.some.inj h
    exact W.zret (v := (0 : Int32)) hx hb hr rfl (q_end hK hP hD hS) hS.2.2 dX12_fails_17
abbrev rm_X12_goesIn : Room := { frames := 1, cells := 0, slots := 0, locals := 20 }
set_option maxRecDepth 100000 in
set_option maxHeartbeats 8000000 in
theorem c_X12_goesIn (l : Launch) (D : va_G) (G : hG) (Z : hZ) (Y : va_W) (σ0 : hSt) (res : (Int32 × hSt)) (h : f_X12_goesIn Z σ0 = some res) : CT l yX12_goesIn cX12_goesIn 1 (some .boolean) rm_X12_goesIn D G 0 0 [.ref (G.2.1 200)] (mW G Z Y σ0) (mW G Z Y res.2) (some (.int res.1)) := by
  unfold f_X12_goesIn at h
  refine CT.mk (cc := cX12_goesIn) (maxL := 1) (ret := (some .boolean)) (own := RX12) (plainFor_of_name (by decide)) rfl (Nat.le_of_ble_eq_true rfl) ?_
  intro p e s m args below meth c A ls C0 hnm hA hP hD hl
  obtain ⟨hx, hb, hr, hml, hown, hts, hlocks, hK, hE⟩ := id C0
  have hS : va_S A s.heap s.heap [] := va_S.rf
  have hl : lv_has ls 1 [(0, .ref (G.2.1 200))] := hl
  refine lv_aload_n hx hb dX12_goesIn_0 rfl (lv_at hl 0 rfl) ?_
  refine va_get (D := D) (ci := 12) (v := .int (σ0.1 200 8)) (C := RX12) (T := TX12) (N := 59) hx hb hts inU_X12 hown hK hP _ (mg_200 G Z Y σ0) rfl 8 (by decide) (hts _ wd_1256) (fun _ h9 => h9) rfl dX12_goesIn_1 ?_
  refine lv_aload_n hx hb dX12_goesIn_4 rfl (lv_at hl 0 rfl) ?_
  refine va_get (D := D) (ci := 12) (v := .int (σ0.1 200 9)) (C := RX12) (T := TX12) (N := 59) hx hb hts inU_X12 hown hK hP _ (mg_200 G Z Y σ0) rfl 9 (by decide) (hts _ wd_1257) (fun _ h9 => h9) rfl dX12_goesIn_5 ?_
  refine lv_icmp_ne (tgt := 16) hx hb dX12_goesIn_8 (by decide) (fun c1 => ?_) (fun c1 => ?_)
  · skip
    have h := f_f c1 h
    refine lv_aload_n hx hb dX12_goesIn_16 rfl (lv_at hl 0 rfl) ?_
    refine lv_dup hx hb dX12_goesIn_17 rfl ?_
    refine va_get (D := D) (ci := 12) (v := .int (σ0.1 200 8)) (C := RX12) (T := TX12) (N := 59) hx hb hts inU_X12 hown hK hP _ (mg_200 G Z Y σ0) rfl 8 (by decide) (hts _ wd_1256) (fun _ h9 => h9) rfl dX12_goesIn_18 ?_
    refine lv_iconst (v := 1) hx hb dX12_goesIn_21 (by decide) ?_
    refine lv_iadd hx hb dX12_goesIn_22 ?_
    refine va_put (D := D) (ci := 12) (v := .int ((σ0.1 200 8) + (1 : Int32))) (ty := .int) (C := RX12) (T := TX12) (N := 59) hx hb hts inU_X12 tyX12 tyX12_ok nmX12 hown hK hP hD hS _ (mg_200 G Z Y σ0) rfl 8 (by decide) (hts _ wd_1256) (fun _ h9 => h9) rfl (by decide +kernel) rfl rfl (Nat.le_of_ble_eq_true rfl) dX12_goesIn_23 (fun H locs hP hD hS => ?_)
    have hP := wrP (mp_200_8 G Z Y σ0 ((σ0.1 200 8) + (1 : Int32))) hP
    have hD := wrD (mp_200_8 G Z Y σ0 ((σ0.1 200 8) + (1 : Int32))) hD
    refine lv_aload_n hx hb dX12_goesIn_26 rfl (lv_at hl 0 rfl) ?_
    refine lv_dup hx hb dX12_goesIn_27 rfl ?_
    refine va_get (D := D) (ci := 12) (v := .int (σ0.1 200 6)) (C := RX12) (T := TX12) (N := 59) hx hb hts inU_X12 hown hK hP _ (mg_200 G Z Y (sI σ0 200 8 ((σ0.1 200 8) + (1 : Int32)))) rfl 6 (by decide) (hts _ wd_1254) (fun _ h9 => h9) rfl dX12_goesIn_28 ?_
    refine lv_iconst (v := 1) hx hb dX12_goesIn_31 (by decide) ?_
    refine lv_iadd hx hb dX12_goesIn_32 ?_
    refine va_put (D := D) (ci := 12) (v := .int ((σ0.1 200 6) + (1 : Int32))) (ty := .int) (C := RX12) (T := TX12) (N := 59) hx hb hts inU_X12 tyX12 tyX12_ok nmX12 hown hK hP hD hS _ (mg_200 G Z Y (sI σ0 200 8 ((σ0.1 200 8) + (1 : Int32)))) rfl 6 (by decide) (hts _ wd_1254) (fun _ h9 => h9) rfl (by decide +kernel) rfl rfl (Nat.le_of_ble_eq_true rfl) dX12_goesIn_33 (fun H locs hP hD hS => ?_)
    have hP := wrP (mp_200_6 G Z Y (sI σ0 200 8 ((σ0.1 200 8) + (1 : Int32))) ((σ0.1 200 6) + (1 : Int32))) hP
    have hD := wrD (mp_200_6 G Z Y (sI σ0 200 8 ((σ0.1 200 8) + (1 : Int32))) ((σ0.1 200 6) + (1 : Int32))) hD
    refine lv_iconst (v := 1) hx hb dX12_goesIn_36 (by decide) ?_
    obtain rfl := Option.some.inj h
    exact W.zret (v := (1 : Int32)) hx hb hr rfl (q_end hK hP hD hS) hS.2.2 dX12_goesIn_37
  · skip
    have h := f_t c1 h
    refine lv_aload_n hx hb dX12_goesIn_11 rfl (lv_at hl 0 rfl) ?_
    obtain ⟨q2, hq2, h⟩ := f_b h
    refine cl_V (w := (mW G Z Y σ0)) (w' := (mW G Z Y q2.2)) (rv := some (.int q2.1)) (bytes := cX12_fails) (maxL := 1) (ret := (some .boolean)) (C := RX12) (As := []) (rest := []) (stk := [.int q2.1]) ⟨hx, hb, hml, hown, hts⟩ hK hE hA hP hD hS (c_X12_fails l D G Z Y σ0 q2 hq2) (cwV 0 hts (gwV wd_1477 wd_1479 wp_54 wd_11 wd_1480) rfl rfl rfl hd_X12_fails ⟨Nat.le_of_ble_eq_true rfl, Nat.le_of_ble_eq_true rfl⟩) (mg_200 G Z Y σ0) rfl rfl rfl hl.1 rfl (Nat.le_of_ble_eq_true rfl) dX12_goesIn_12 ⟨Nat.zero_le _, Nat.zero_le _⟩ rfl (fun H locs hP hD hS => ?_)
    obtain ⟨c3, h⟩ := f_c h
    obtain rfl := Option.some.inj h
    exact W.zret (v := q2.1) hx hb hr (bn c3) (q_end hK hP hD hS) hS.2.2 dX12_goesIn_15
abbrev rm_X12_takes : Room := { frames := 1, cells := 0, slots := 0, locals := 20 }
set_option maxRecDepth 100000 in
set_option maxHeartbeats 8000000 in
theorem c_X12_takes (l : Launch) (D : va_G) (G : hG) (Z : hZ) (Y : va_W) (σ0 : hSt) (F : Nat) (x1 : Int32) (res : (Int32 × hSt)) (h : f_X12_takes F Z σ0 x1 = some res) : CT l yX12_takes cX12_takes 2 (some .boolean) rm_X12_takes D G 0 0 [.ref (G.2.1 200), .int x1] (mW G Z Y σ0) (mW G Z Y res.2) (some (.int res.1)) := by
  unfold f_X12_takes at h
  refine CT.mk (cc := cX12_takes) (maxL := 2) (ret := (some .boolean)) (own := RX12) (plainFor_of_name (by decide)) rfl (Nat.le_of_ble_eq_true rfl) ?_
  intro p e s m args below meth c A ls C0 hnm hA hP hD hl
  obtain ⟨hx, hb, hr, hml, hown, hts, hlocks, hK, hE⟩ := id C0
  have hS : va_S A s.heap s.heap [] := va_S.rf
  have hl : lv_has ls 2 [(0, .ref (G.2.1 200)), (1, .int x1)] := hl
  refine lv_aload_n hx hb dX12_takes_0 rfl (lv_at hl 0 rfl) ?_
  refine va_get (D := D) (ci := 12) (v := .int (σ0.1 200 7)) (C := RX12) (T := TX12) (N := 59) hx hb hts inU_X12 hown hK hP _ (mg_200 G Z Y σ0) rfl 7 (by decide) (hts _ wd_1255) (fun _ h9 => h9) rfl dX12_takes_1 ?_
  refine lv_iconst (v := (-1)) hx hb dX12_takes_4 (by decide) ?_
  refine lv_icmp_ne (tgt := 16) hx hb dX12_takes_5 (by decide) (fun c1 => ?_) (fun c1 => ?_)
  · skip
    have h := f_f c1 h
    refine lv_aload_n hx hb dX12_takes_16 rfl (lv_at hl 0 rfl) ?_
    obtain ⟨q2, hq2, h⟩ := f_b h
    refine cl_V (w := (mW G Z Y σ0)) (w' := (mW G Z Y q2.2)) (rv := some (.int q2.1)) (bytes := cX12_fails) (maxL := 1) (ret := (some .boolean)) (C := RX12) (As := []) (rest := []) (stk := [.int q2.1]) ⟨hx, hb, hml, hown, hts⟩ hK hE hA hP hD hS (c_X12_fails l D G Z Y σ0 q2 hq2) (cwV 0 hts (gwV wd_1477 wd_1479 wp_54 wd_11 wd_1480) rfl rfl rfl hd_X12_fails ⟨Nat.le_of_ble_eq_true rfl, Nat.le_of_ble_eq_true rfl⟩) (mg_200 G Z Y σ0) rfl rfl rfl hl.1 rfl (Nat.le_of_ble_eq_true rfl) dX12_takes_17 ⟨Nat.zero_le _, Nat.zero_le _⟩ rfl (fun H locs hP hD hS => ?_)
    obtain ⟨c3, h⟩ := f_c h
    obtain rfl := Option.some.inj h
    exact W.zret (v := q2.1) hx hb hr (bn c3) (q_end hK hP hD hS) hS.2.2 dX12_takes_20
  · skip
    have h := f_t c1 h
    refine lv_aload_n hx hb dX12_takes_8 rfl (lv_at hl 0 rfl) ?_
    obtain ⟨q4, hq4, h⟩ := f_b h
    refine cl_V (w := (mW G Z Y σ0)) (w' := (mW G Z Y q4.2)) (rv := some (.int q4.1)) (bytes := cX12_look) (maxL := 1) (ret := (some .int)) (C := RX12) (As := []) (rest := []) (stk := [.int q4.1]) ⟨hx, hb, hml, hown, hts⟩ hK hE hA hP hD hS (c_X12_look l D G Z Y σ0 F q4 hq4) (cwV 0 hts (gwV wd_1468 wd_1470 wp_52 wd_11 wd_1471) rfl rfl rfl hd_X12_look ⟨Nat.le_of_ble_eq_true rfl, Nat.le_of_ble_eq_true rfl⟩) (mg_200 G Z Y σ0) rfl rfl rfl hl.1 rfl (Nat.le_of_ble_eq_true rfl) dX12_takes_9 ⟨Nat.zero_le _, Nat.zero_le _⟩ rfl (fun H locs hP hD hS => ?_)
    refine lv_iload_n hx hb dX12_takes_12 rfl (lv_at hl 1 rfl) ?_
    refine lv_icmp_eq (tgt := 21) hx hb dX12_takes_13 (by decide) (fun c5 => ?_) (fun c5 => ?_)
    · skip
      have h := f_t c5 h
      refine lv_aload_n hx hb dX12_takes_21 rfl (lv_at hl 0 rfl) ?_
      refine lv_dup hx hb dX12_takes_22 rfl ?_
      refine va_get (D := D) (ci := 12) (v := .int (q4.2.1 200 6)) (C := RX12) (T := TX12) (N := 59) hx hb hts inU_X12 hown hK hP _ (mg_200 G Z Y q4.2) rfl 6 (by decide) (hts _ wd_1254) (fun _ h9 => h9) rfl dX12_takes_23 ?_
      refine lv_iconst (v := 1) hx hb dX12_takes_26 (by decide) ?_
      refine lv_iadd hx hb dX12_takes_27 ?_
      refine va_put (D := D) (ci := 12) (v := .int ((q4.2.1 200 6) + (1 : Int32))) (ty := .int) (C := RX12) (T := TX12) (N := 59) hx hb hts inU_X12 tyX12 tyX12_ok nmX12 hown hK hP hD hS _ (mg_200 G Z Y q4.2) rfl 6 (by decide) (hts _ wd_1254) (fun _ h9 => h9) rfl (by decide +kernel) rfl rfl (Nat.le_of_ble_eq_true rfl) dX12_takes_28 (fun H locs hP hD hS => ?_)
      have hP := wrP (mp_200_6 G Z Y q4.2 ((q4.2.1 200 6) + (1 : Int32))) hP
      have hD := wrD (mp_200_6 G Z Y q4.2 ((q4.2.1 200 6) + (1 : Int32))) hD
      refine lv_iconst (v := 1) hx hb dX12_takes_31 (by decide) ?_
      obtain rfl := Option.some.inj h
      exact W.zret (v := (1 : Int32)) hx hb hr rfl (q_end hK hP hD hS) hS.2.2 dX12_takes_32
    · skip
      have h := f_f c5 h
      refine lv_aload_n hx hb dX12_takes_16 rfl (lv_at hl 0 rfl) ?_
      obtain ⟨q6, hq6, h⟩ := f_b h
      refine cl_V (w := (mW G Z Y q4.2)) (w' := (mW G Z Y q6.2)) (rv := some (.int q6.1)) (bytes := cX12_fails) (maxL := 1) (ret := (some .boolean)) (C := RX12) (As := []) (rest := []) (stk := [.int q6.1]) ⟨hx, hb, hml, hown, hts⟩ hK hE hA hP hD hS (c_X12_fails l D G Z Y q4.2 q6 hq6) (cwV 0 hts (gwV wd_1477 wd_1479 wp_54 wd_11 wd_1480) rfl rfl rfl hd_X12_fails ⟨Nat.le_of_ble_eq_true rfl, Nat.le_of_ble_eq_true rfl⟩) (mg_200 G Z Y q4.2) rfl rfl rfl hl.1 rfl (Nat.le_of_ble_eq_true rfl) dX12_takes_17 ⟨Nat.zero_le _, Nat.zero_le _⟩ rfl (fun H locs hP hD hS => ?_)
      obtain ⟨c7, h⟩ := f_c h
      obtain rfl := Option.some.inj h
      exact W.zret (v := q6.1) hx hb hr (bn c7) (q_end hK hP hD hS) hS.2.2 dX12_takes_20
abbrev rm_X12_sign : Room := { frames := 1, cells := 0, slots := 0, locals := 30 }
set_option maxRecDepth 100000 in
set_option maxHeartbeats 8000000 in
theorem c_X12_sign (l : Launch) (D : va_G) (G : hG) (Z : hZ) (Y : va_W) (σ0 : hSt) (x1 : Int32) (res : (Unit × hSt)) (h : f_X12_sign Z σ0 x1 = some res) : CT l yX12_sign cX12_sign 2 none rm_X12_sign D G 0 0 [.ref (G.2.1 200), .int x1] (mW G Z Y σ0) (mW G Z Y res.2) none := by
  unfold f_X12_sign at h
  refine CT.mk (cc := cX12_sign) (maxL := 2) (ret := none) (own := RX12) (plainFor_of_name (by decide)) rfl (Nat.le_of_ble_eq_true rfl) ?_
  intro p e s m args below meth c A ls C0 hnm hA hP hD hl
  obtain ⟨hx, hb, hr, hml, hown, hts, hlocks, hK, hE⟩ := id C0
  have hS : va_S A s.heap s.heap [] := va_S.rf
  have hl : lv_has ls 2 [(0, .ref (G.2.1 200)), (1, .int x1)] := hl
  refine lv_aload_n hx hb dX12_sign_0 rfl (lv_at hl 0 rfl) ?_
  refine va_get (D := D) (ci := 12) (v := .ref (G.2.1 202)) (C := RX12) (T := TX12) (N := 59) hx hb hts inU_X12 hown hK hP _ (mg_200 G Z Y σ0) rfl 10 (by decide) (hts _ wd_1258) (fun _ h9 => h9) rfl dX12_sign_1 ?_
  refine lv_sipush (v := 200) hx hb dX12_sign_4 (by decide) ?_
  refine lv_aload_n hx hb dX12_sign_7 rfl (lv_at hl 0 rfl) ?_
  refine va_get (D := D) (ci := 12) (v := .int (σ0.1 200 16)) (C := RX12) (T := TX12) (N := 59) hx hb hts inU_X12 hown hK hP _ (mg_200 G Z Y σ0) rfl 16 (by decide) (hts _ wd_1264) (fun _ h9 => h9) rfl dX12_sign_8 ?_
  refine lv_imul hx hb dX12_sign_11 ?_
  refine lv_aload_n hx hb dX12_sign_12 rfl (lv_at hl 0 rfl) ?_
  refine va_get (D := D) (ci := 12) (v := .ref (G.2.1 203)) (C := RX12) (T := TX12) (N := 59) hx hb hts inU_X12 hown hK hP _ (mg_200 G Z Y σ0) rfl 11 (by decide) (hts _ wd_1259) (fun _ h9 => h9) rfl dX12_sign_13 ?_
  refine lv_aload_n hx hb dX12_sign_16 rfl (lv_at hl 0 rfl) ?_
  refine va_get (D := D) (ci := 12) (v := .int (σ0.1 200 16)) (C := RX12) (T := TX12) (N := 59) hx hb hts inU_X12 hown hK hP _ (mg_200 G Z Y σ0) rfl 16 (by decide) (hts _ wd_1264) (fun _ h9 => h9) rfl dX12_sign_17 ?_
  obtain ⟨c1, h⟩ := f_n h
  refine va_ialdE (v := (σ0.1 203 (((σ0.1 200 16) : Int32).toNatClampNeg))) hx hb hK hP _ 0 (mg_203 G Z Y σ0) rfl c1 dX12_sign_20 rfl ?_
  refine lv_iadd hx hb dX12_sign_21 ?_
  refine lv_iload_n hx hb dX12_sign_22 rfl (lv_at hl 1 rfl) ?_
  obtain ⟨c2, h⟩ := f_n h
  refine va_iast hx hb hK hP hD hS _ 0 (mg_202 G Z Y σ0) rfl c2 dX12_sign_23 (fun H locs hP hD hS => ?_)
  have hP := wrP (mp_202 G Z Y σ0 _ _) hP
  have hD := wrD (mp_202 G Z Y σ0 _ _) hD
  refine lv_aload_n hx hb dX12_sign_24 rfl (lv_at hl 0 rfl) ?_
  refine va_get (D := D) (ci := 12) (v := .ref (G.2.1 203)) (C := RX12) (T := TX12) (N := 59) hx hb hts inU_X12 hown hK hP _ (mg_200 G Z Y (sI σ0 202 (((((200 : Int32) * (σ0.1 200 16)) + (σ0.1 203 (((σ0.1 200 16) : Int32).toNatClampNeg))) : Int32).toNatClampNeg) x1)) rfl 11 (by decide) (hts _ wd_1259) (fun _ h9 => h9) rfl dX12_sign_25 ?_
  refine lv_aload_n hx hb dX12_sign_28 rfl (lv_at hl 0 rfl) ?_
  refine va_get (D := D) (ci := 12) (v := .int (σ0.1 200 16)) (C := RX12) (T := TX12) (N := 59) hx hb hts inU_X12 hown hK hP _ (mg_200 G Z Y (sI σ0 202 (((((200 : Int32) * (σ0.1 200 16)) + (σ0.1 203 (((σ0.1 200 16) : Int32).toNatClampNeg))) : Int32).toNatClampNeg) x1)) rfl 16 (by decide) (hts _ wd_1264) (fun _ h9 => h9) rfl dX12_sign_29 ?_
  refine lv_dup2_11 hx hb dX12_sign_32 rfl rfl ?_
  obtain ⟨c3, h⟩ := f_n h
  refine va_ialdE (v := (σ0.1 203 (((σ0.1 200 16) : Int32).toNatClampNeg))) hx hb hK hP _ 0 (mg_203 G Z Y (sI σ0 202 (((((200 : Int32) * (σ0.1 200 16)) + (σ0.1 203 (((σ0.1 200 16) : Int32).toNatClampNeg))) : Int32).toNatClampNeg) x1)) rfl c3 dX12_sign_33 rfl ?_
  refine lv_iconst (v := 1) hx hb dX12_sign_34 (by decide) ?_
  refine lv_iadd hx hb dX12_sign_35 ?_
  obtain ⟨c4, h⟩ := f_n h
  refine va_iast hx hb hK hP hD hS _ 0 (mg_203 G Z Y (sI σ0 202 (((((200 : Int32) * (σ0.1 200 16)) + (σ0.1 203 (((σ0.1 200 16) : Int32).toNatClampNeg))) : Int32).toNatClampNeg) x1)) rfl c4 dX12_sign_36 (fun H locs hP hD hS => ?_)
  have hP := wrP (mp_203 G Z Y (sI σ0 202 (((((200 : Int32) * (σ0.1 200 16)) + (σ0.1 203 (((σ0.1 200 16) : Int32).toNatClampNeg))) : Int32).toNatClampNeg) x1) _ _) hP
  have hD := wrD (mp_203 G Z Y (sI σ0 202 (((((200 : Int32) * (σ0.1 200 16)) + (σ0.1 203 (((σ0.1 200 16) : Int32).toNatClampNeg))) : Int32).toNatClampNeg) x1) _ _) hD
  refine lv_iload_n hx hb dX12_sign_37 rfl (lv_at hl 1 rfl) ?_
  refine lv_iconst (v := 5) hx hb dX12_sign_38 (by decide) ?_
  refine lv_icmp_le (tgt := 56) hx hb dX12_sign_39 (by decide) (fun c5 => ?_) (fun c5 => ?_)
  · skip
    have h := f_t c5 h
    refine lv_aload_n hx hb dX12_sign_56 rfl (lv_at hl 0 rfl) ?_
    refine va_get (D := D) (ci := 12) (v := .ref (G.2.1 205)) (C := RX12) (T := TX12) (N := 59) hx hb hts inU_X12 hown hK hP _ (mg_200 G Z Y (sI (sI σ0 202 (((((200 : Int32) * (σ0.1 200 16)) + (σ0.1 203 (((σ0.1 200 16) : Int32).toNatClampNeg))) : Int32).toNatClampNeg) x1) 203 (((σ0.1 200 16) : Int32).toNatClampNeg) ((σ0.1 203 (((σ0.1 200 16) : Int32).toNatClampNeg)) + (1 : Int32)))) rfl 13 (by decide) (hts _ wd_1261) (fun _ h9 => h9) rfl dX12_sign_57 ?_
    refine lv_bipush (v := 6) hx hb dX12_sign_60 (by decide) ?_
    refine lv_aload_n hx hb dX12_sign_62 rfl (lv_at hl 0 rfl) ?_
    refine va_get (D := D) (ci := 12) (v := .int (σ0.1 200 16)) (C := RX12) (T := TX12) (N := 59) hx hb hts inU_X12 hown hK hP _ (mg_200 G Z Y (sI (sI σ0 202 (((((200 : Int32) * (σ0.1 200 16)) + (σ0.1 203 (((σ0.1 200 16) : Int32).toNatClampNeg))) : Int32).toNatClampNeg) x1) 203 (((σ0.1 200 16) : Int32).toNatClampNeg) ((σ0.1 203 (((σ0.1 200 16) : Int32).toNatClampNeg)) + (1 : Int32)))) rfl 16 (by decide) (hts _ wd_1264) (fun _ h9 => h9) rfl dX12_sign_63 ?_
    refine lv_imul hx hb dX12_sign_66 ?_
    refine lv_iload_n hx hb dX12_sign_67 rfl (lv_at hl 1 rfl) ?_
    refine lv_iadd hx hb dX12_sign_68 ?_
    refine lv_dup2_11 hx hb dX12_sign_69 rfl rfl ?_
    obtain ⟨c6, h⟩ := f_n h
    refine va_ialdE (v := (σ0.1 205 (((((6 : Int32) * (σ0.1 200 16)) + x1) : Int32).toNatClampNeg))) hx hb hK hP _ 0 (mg_205 G Z Y (sI (sI σ0 202 (((((200 : Int32) * (σ0.1 200 16)) + (σ0.1 203 (((σ0.1 200 16) : Int32).toNatClampNeg))) : Int32).toNatClampNeg) x1) 203 (((σ0.1 200 16) : Int32).toNatClampNeg) ((σ0.1 203 (((σ0.1 200 16) : Int32).toNatClampNeg)) + (1 : Int32)))) rfl c6 dX12_sign_70 rfl ?_
    refine lv_iconst (v := 1) hx hb dX12_sign_71 (by decide) ?_
    refine lv_iadd hx hb dX12_sign_72 ?_
    obtain ⟨c7, h⟩ := f_n h
    refine va_iast hx hb hK hP hD hS _ 0 (mg_205 G Z Y (sI (sI σ0 202 (((((200 : Int32) * (σ0.1 200 16)) + (σ0.1 203 (((σ0.1 200 16) : Int32).toNatClampNeg))) : Int32).toNatClampNeg) x1) 203 (((σ0.1 200 16) : Int32).toNatClampNeg) ((σ0.1 203 (((σ0.1 200 16) : Int32).toNatClampNeg)) + (1 : Int32)))) rfl c7 dX12_sign_73 (fun H locs hP hD hS => ?_)
    have hP := wrP (mp_205 G Z Y (sI (sI σ0 202 (((((200 : Int32) * (σ0.1 200 16)) + (σ0.1 203 (((σ0.1 200 16) : Int32).toNatClampNeg))) : Int32).toNatClampNeg) x1) 203 (((σ0.1 200 16) : Int32).toNatClampNeg) ((σ0.1 203 (((σ0.1 200 16) : Int32).toNatClampNeg)) + (1 : Int32))) _ _) hP
    have hD := wrD (mp_205 G Z Y (sI (sI σ0 202 (((((200 : Int32) * (σ0.1 200 16)) + (σ0.1 203 (((σ0.1 200 16) : Int32).toNatClampNeg))) : Int32).toNatClampNeg) x1) 203 (((σ0.1 200 16) : Int32).toNatClampNeg) ((σ0.1 203 (((σ0.1 200 16) : Int32).toNatClampNeg)) + (1 : Int32))) _ _) hD
    refine lv_aload_n hx hb dX12_sign_74 rfl (lv_at hl 0 rfl) ?_
    refine va_get (D := D) (ci := 12) (v := .ref (G.2.1 204)) (C := RX12) (T := TX12) (N := 59) hx hb hts inU_X12 hown hK hP _ (mg_200 G Z Y (sI (sI (sI σ0 202 (((((200 : Int32) * (σ0.1 200 16)) + (σ0.1 203 (((σ0.1 200 16) : Int32).toNatClampNeg))) : Int32).toNatClampNeg) x1) 203 (((σ0.1 200 16) : Int32).toNatClampNeg) ((σ0.1 203 (((σ0.1 200 16) : Int32).toNatClampNeg)) + (1 : Int32))) 205 (((((6 : Int32) * (σ0.1 200 16)) + x1) : Int32).toNatClampNeg) ((σ0.1 205 (((((6 : Int32) * (σ0.1 200 16)) + x1) : Int32).toNatClampNeg)) + (1 : Int32)))) rfl 12 (by decide) (hts _ wd_1260) (fun _ h9 => h9) rfl dX12_sign_75 ?_
    refine lv_aload_n hx hb dX12_sign_78 rfl (lv_at hl 0 rfl) ?_
    refine va_get (D := D) (ci := 12) (v := .int (σ0.1 200 16)) (C := RX12) (T := TX12) (N := 59) hx hb hts inU_X12 hown hK hP _ (mg_200 G Z Y (sI (sI (sI σ0 202 (((((200 : Int32) * (σ0.1 200 16)) + (σ0.1 203 (((σ0.1 200 16) : Int32).toNatClampNeg))) : Int32).toNatClampNeg) x1) 203 (((σ0.1 200 16) : Int32).toNatClampNeg) ((σ0.1 203 (((σ0.1 200 16) : Int32).toNatClampNeg)) + (1 : Int32))) 205 (((((6 : Int32) * (σ0.1 200 16)) + x1) : Int32).toNatClampNeg) ((σ0.1 205 (((((6 : Int32) * (σ0.1 200 16)) + x1) : Int32).toNatClampNeg)) + (1 : Int32)))) rfl 16 (by decide) (hts _ wd_1264) (fun _ h9 => h9) rfl dX12_sign_79 ?_
    refine lv_aload_n hx hb dX12_sign_82 rfl (lv_at hl 0 rfl) ?_
    refine va_get (D := D) (ci := 12) (v := .ref (G.2.1 204)) (C := RX12) (T := TX12) (N := 59) hx hb hts inU_X12 hown hK hP _ (mg_200 G Z Y (sI (sI (sI σ0 202 (((((200 : Int32) * (σ0.1 200 16)) + (σ0.1 203 (((σ0.1 200 16) : Int32).toNatClampNeg))) : Int32).toNatClampNeg) x1) 203 (((σ0.1 200 16) : Int32).toNatClampNeg) ((σ0.1 203 (((σ0.1 200 16) : Int32).toNatClampNeg)) + (1 : Int32))) 205 (((((6 : Int32) * (σ0.1 200 16)) + x1) : Int32).toNatClampNeg) ((σ0.1 205 (((((6 : Int32) * (σ0.1 200 16)) + x1) : Int32).toNatClampNeg)) + (1 : Int32)))) rfl 12 (by decide) (hts _ wd_1260) (fun _ h9 => h9) rfl dX12_sign_83 ?_
    refine lv_aload_n hx hb dX12_sign_86 rfl (lv_at hl 0 rfl) ?_
    refine va_get (D := D) (ci := 12) (v := .int (σ0.1 200 16)) (C := RX12) (T := TX12) (N := 59) hx hb hts inU_X12 hown hK hP _ (mg_200 G Z Y (sI (sI (sI σ0 202 (((((200 : Int32) * (σ0.1 200 16)) + (σ0.1 203 (((σ0.1 200 16) : Int32).toNatClampNeg))) : Int32).toNatClampNeg) x1) 203 (((σ0.1 200 16) : Int32).toNatClampNeg) ((σ0.1 203 (((σ0.1 200 16) : Int32).toNatClampNeg)) + (1 : Int32))) 205 (((((6 : Int32) * (σ0.1 200 16)) + x1) : Int32).toNatClampNeg) ((σ0.1 205 (((((6 : Int32) * (σ0.1 200 16)) + x1) : Int32).toNatClampNeg)) + (1 : Int32)))) rfl 16 (by decide) (hts _ wd_1264) (fun _ h9 => h9) rfl dX12_sign_87 ?_
    obtain ⟨c8, h⟩ := f_n h
    refine va_ialdE (v := (σ0.1 204 (((σ0.1 200 16) : Int32).toNatClampNeg))) hx hb hK hP _ 0 (mg_204 G Z Y (sI (sI (sI σ0 202 (((((200 : Int32) * (σ0.1 200 16)) + (σ0.1 203 (((σ0.1 200 16) : Int32).toNatClampNeg))) : Int32).toNatClampNeg) x1) 203 (((σ0.1 200 16) : Int32).toNatClampNeg) ((σ0.1 203 (((σ0.1 200 16) : Int32).toNatClampNeg)) + (1 : Int32))) 205 (((((6 : Int32) * (σ0.1 200 16)) + x1) : Int32).toNatClampNeg) ((σ0.1 205 (((((6 : Int32) * (σ0.1 200 16)) + x1) : Int32).toNatClampNeg)) + (1 : Int32)))) rfl c8 dX12_sign_90 rfl ?_
    refine lv_iload_n hx hb dX12_sign_91 rfl (lv_at hl 1 rfl) ?_
    refine lv_iconst (v := 1) hx hb dX12_sign_92 (by decide) ?_
    refine lv_iadd hx hb dX12_sign_93 ?_
    refine va_mmax hx hb (hml.trans hl.1.symm) hown (hts _ wd_1476) (hts _ wd_328) (hts _ wd_12) (hts _ wd_329) (Nat.le_of_ble_eq_true rfl) (Nat.le_of_ble_eq_true rfl) (Nat.zero_le _) (Nat.zero_le _) dX12_sign_94 ?_
    obtain ⟨c9, h⟩ := f_n h
    refine va_iast hx hb hK hP hD hS _ 0 (mg_204 G Z Y (sI (sI (sI σ0 202 (((((200 : Int32) * (σ0.1 200 16)) + (σ0.1 203 (((σ0.1 200 16) : Int32).toNatClampNeg))) : Int32).toNatClampNeg) x1) 203 (((σ0.1 200 16) : Int32).toNatClampNeg) ((σ0.1 203 (((σ0.1 200 16) : Int32).toNatClampNeg)) + (1 : Int32))) 205 (((((6 : Int32) * (σ0.1 200 16)) + x1) : Int32).toNatClampNeg) ((σ0.1 205 (((((6 : Int32) * (σ0.1 200 16)) + x1) : Int32).toNatClampNeg)) + (1 : Int32)))) rfl c9 dX12_sign_97 (fun H locs hP hD hS => ?_)
    have hP := wrP (mp_204 G Z Y (sI (sI (sI σ0 202 (((((200 : Int32) * (σ0.1 200 16)) + (σ0.1 203 (((σ0.1 200 16) : Int32).toNatClampNeg))) : Int32).toNatClampNeg) x1) 203 (((σ0.1 200 16) : Int32).toNatClampNeg) ((σ0.1 203 (((σ0.1 200 16) : Int32).toNatClampNeg)) + (1 : Int32))) 205 (((((6 : Int32) * (σ0.1 200 16)) + x1) : Int32).toNatClampNeg) ((σ0.1 205 (((((6 : Int32) * (σ0.1 200 16)) + x1) : Int32).toNatClampNeg)) + (1 : Int32))) _ _) hP
    have hD := wrD (mp_204 G Z Y (sI (sI (sI σ0 202 (((((200 : Int32) * (σ0.1 200 16)) + (σ0.1 203 (((σ0.1 200 16) : Int32).toNatClampNeg))) : Int32).toNatClampNeg) x1) 203 (((σ0.1 200 16) : Int32).toNatClampNeg) ((σ0.1 203 (((σ0.1 200 16) : Int32).toNatClampNeg)) + (1 : Int32))) 205 (((((6 : Int32) * (σ0.1 200 16)) + x1) : Int32).toNatClampNeg) ((σ0.1 205 (((((6 : Int32) * (σ0.1 200 16)) + x1) : Int32).toNatClampNeg)) + (1 : Int32))) _ _) hD
    obtain rfl := Option.some.inj h
    exact W.vret hx hb hr (q_end hK hP hD hS) hS.2.2 dX12_sign_98
  · skip
    have h := f_f c5 h
    refine lv_aload_n hx hb dX12_sign_42 rfl (lv_at hl 0 rfl) ?_
    refine va_get (D := D) (ci := 12) (v := .ref (G.2.1 206)) (C := RX12) (T := TX12) (N := 59) hx hb hts inU_X12 hown hK hP _ (mg_200 G Z Y (sI (sI σ0 202 (((((200 : Int32) * (σ0.1 200 16)) + (σ0.1 203 (((σ0.1 200 16) : Int32).toNatClampNeg))) : Int32).toNatClampNeg) x1) 203 (((σ0.1 200 16) : Int32).toNatClampNeg) ((σ0.1 203 (((σ0.1 200 16) : Int32).toNatClampNeg)) + (1 : Int32)))) rfl 14 (by decide) (hts _ wd_1262) (fun _ h9 => h9) rfl dX12_sign_43 ?_
    refine lv_aload_n hx hb dX12_sign_46 rfl (lv_at hl 0 rfl) ?_
    refine va_get (D := D) (ci := 12) (v := .int (σ0.1 200 16)) (C := RX12) (T := TX12) (N := 59) hx hb hts inU_X12 hown hK hP _ (mg_200 G Z Y (sI (sI σ0 202 (((((200 : Int32) * (σ0.1 200 16)) + (σ0.1 203 (((σ0.1 200 16) : Int32).toNatClampNeg))) : Int32).toNatClampNeg) x1) 203 (((σ0.1 200 16) : Int32).toNatClampNeg) ((σ0.1 203 (((σ0.1 200 16) : Int32).toNatClampNeg)) + (1 : Int32)))) rfl 16 (by decide) (hts _ wd_1264) (fun _ h9 => h9) rfl dX12_sign_47 ?_
    refine lv_dup2_11 hx hb dX12_sign_50 rfl rfl ?_
    obtain ⟨c10, h⟩ := f_n h
    refine va_ialdE (v := (σ0.1 206 (((σ0.1 200 16) : Int32).toNatClampNeg))) hx hb hK hP _ 0 (mg_206 G Z Y (sI (sI σ0 202 (((((200 : Int32) * (σ0.1 200 16)) + (σ0.1 203 (((σ0.1 200 16) : Int32).toNatClampNeg))) : Int32).toNatClampNeg) x1) 203 (((σ0.1 200 16) : Int32).toNatClampNeg) ((σ0.1 203 (((σ0.1 200 16) : Int32).toNatClampNeg)) + (1 : Int32)))) rfl c10 dX12_sign_51 rfl ?_
    refine lv_iconst (v := 1) hx hb dX12_sign_52 (by decide) ?_
    refine lv_iadd hx hb dX12_sign_53 ?_
    obtain ⟨c11, h⟩ := f_n h
    refine va_iast hx hb hK hP hD hS _ 0 (mg_206 G Z Y (sI (sI σ0 202 (((((200 : Int32) * (σ0.1 200 16)) + (σ0.1 203 (((σ0.1 200 16) : Int32).toNatClampNeg))) : Int32).toNatClampNeg) x1) 203 (((σ0.1 200 16) : Int32).toNatClampNeg) ((σ0.1 203 (((σ0.1 200 16) : Int32).toNatClampNeg)) + (1 : Int32)))) rfl c11 dX12_sign_54 (fun H locs hP hD hS => ?_)
    have hP := wrP (mp_206 G Z Y (sI (sI σ0 202 (((((200 : Int32) * (σ0.1 200 16)) + (σ0.1 203 (((σ0.1 200 16) : Int32).toNatClampNeg))) : Int32).toNatClampNeg) x1) 203 (((σ0.1 200 16) : Int32).toNatClampNeg) ((σ0.1 203 (((σ0.1 200 16) : Int32).toNatClampNeg)) + (1 : Int32))) _ _) hP
    have hD := wrD (mp_206 G Z Y (sI (sI σ0 202 (((((200 : Int32) * (σ0.1 200 16)) + (σ0.1 203 (((σ0.1 200 16) : Int32).toNatClampNeg))) : Int32).toNatClampNeg) x1) 203 (((σ0.1 200 16) : Int32).toNatClampNeg) ((σ0.1 203 (((σ0.1 200 16) : Int32).toNatClampNeg)) + (1 : Int32))) _ _) hD
    obtain rfl := Option.some.inj h
    exact W.vret hx hb hr (q_end hK hP hD hS) hS.2.2 dX12_sign_55
def rmG_Mo (d : Nat) : Room := { frames := 2 + d, cells := 0, slots := 0, locals := 51 + d * 21 }
set_option maxRecDepth 100000 in
set_option maxHeartbeats 8000000 in
theorem W_X12_ors_L4 {p : Program} {e : Env} {s : State} {m : MethodId} {args : Array Value} {below : List Frame} {meth : Method} {c : Code} {A : Nat → Prop} (l : Launch) (D : va_G) (G : hG) (Z : hZ) (Y : va_W) (F : Nat) (d : Nat) (u_X12_ands : (hSt → Option (Unit × hSt))) (hu_X12_ands : ∀ (σ0 : hSt) (res : (Unit × hSt)), u_X12_ands σ0  = some res → CT l yX12_ands cX12_ands 1 none (rmG_Mo d) D G 0 0 [.ref (G.2.1 200)] (mW G Z Y σ0) (mW G Z Y res.2) none) (σ0 : hSt) (res : (Unit × hSt)) (C0 : Cx p s m args meth c cX12_ors none RX12 1 D G A) (hA : ∀ q : Nat, s.heap.size ≤ q → A q) : ∀ (n : Nat) (σ1 : hSt), f_X12_ors_L4 F Z u_X12_ands n σ1 = some res → ∀ (H : Heap) (locs : List Loc) (ls : Array Slot), va_P D vwCl (mW G Z Y σ1) H → va_D A (mW G Z Y σ1) → va_S A s.heap H locs → lv_has ls 1 [(0, .ref (G.2.1 200))] → W p l e (rmG_Mo (d + 1)) s m args below meth c H locs 0 0 (MQ below (Qg none D (tysG G) (mW G Z Y res.2) A) args s 0 0 A) (F0 m 4 ls []) := by
  obtain ⟨hx, hb, hr, hml, hown, hts, hlocks, hK, hE⟩ := id C0
  intro n
  induction n with
  | zero =>
    intro σ1 h
    cases h
  | succ n ih =>
    intro σ1 h H locs ls hP hD hS hl
    rw [f_X12_ors_L4] at h
    refine lv_aload_n hx hb dX12_ors_4 rfl (lv_at hl 0 rfl) ?_
    refine va_get (D := D) (ci := 12) (v := .int (σ1.1 200 7)) (C := RX12) (T := TX12) (N := 59) hx hb hts inU_X12 hown hK hP _ (mg_200 G Z Y σ1) rfl 7 (by decide) (hts _ wd_1255) (fun _ h9 => h9) rfl dX12_ors_5 ?_
    refine lv_iconst (v := (-1)) hx hb dX12_ors_8 (by decide) ?_
    refine lv_icmp_ne (tgt := 52) hx hb dX12_ors_9 (by decide) (fun c2 => ?_) (fun c2 => ?_)
    · skip
      have h := f_f c2 h
      obtain rfl := Option.some.inj h
      exact W.vret hx hb hr (q_end hK hP hD hS) hS.2.2 dX12_ors_52
    · skip
      have h := f_t c2 h
      refine lv_aload_n hx hb dX12_ors_12 rfl (lv_at hl 0 rfl) ?_
      obtain ⟨q3, hq3, h⟩ := f_b h
      refine cl_V (w := (mW G Z Y σ1)) (w' := (mW G Z Y q3.2)) (rv := some (.int q3.1)) (bytes := cX12_look) (maxL := 1) (ret := (some .int)) (C := RX12) (As := []) (rest := []) (stk := [.int q3.1]) ⟨hx, hb, hml, hown, hts⟩ hK hE hA hP hD hS (c_X12_look l D G Z Y σ1 F q3 hq3) (cwV 0 hts (gwV wd_1468 wd_1470 wp_52 wd_11 wd_1471) rfl rfl rfl hd_X12_look ⟨by show 0 + 1 ≤ 2 + (d + 1); omega, by show 8 + (1 + 11) + 0 ≤ 51 + (d + 1) * 21; omega⟩) (mg_200 G Z Y σ1) rfl rfl rfl hl.1 rfl (Nat.le_of_ble_eq_true rfl) dX12_ors_13 ⟨Nat.zero_le _, Nat.zero_le _⟩ rfl (fun H locs hP hD hS => ?_)
      refine lv_bipush (v := 124) hx hb dX12_ors_16 (by decide) ?_
      refine lv_icmp_ne (tgt := 52) hx hb dX12_ors_18 (by decide) (fun c4 => ?_) (fun c4 => ?_)
      · skip
        have h := f_f c4 h
        obtain rfl := Option.some.inj h
        exact W.vret hx hb hr (q_end hK hP hD hS) hS.2.2 dX12_ors_52
      · skip
        have h := f_t c4 h
        refine lv_aload_n hx hb dX12_ors_21 rfl (lv_at hl 0 rfl) ?_
        refine lv_dup hx hb dX12_ors_22 rfl ?_
        refine va_get (D := D) (ci := 12) (v := .int (q3.2.1 200 6)) (C := RX12) (T := TX12) (N := 59) hx hb hts inU_X12 hown hK hP _ (mg_200 G Z Y q3.2) rfl 6 (by decide) (hts _ wd_1254) (fun _ h9 => h9) rfl dX12_ors_23 ?_
        refine lv_iconst (v := 1) hx hb dX12_ors_26 (by decide) ?_
        refine lv_iadd hx hb dX12_ors_27 ?_
        refine va_put (D := D) (ci := 12) (v := .int ((q3.2.1 200 6) + (1 : Int32))) (ty := .int) (C := RX12) (T := TX12) (N := 59) hx hb hts inU_X12 tyX12 tyX12_ok nmX12 hown hK hP hD hS _ (mg_200 G Z Y q3.2) rfl 6 (by decide) (hts _ wd_1254) (fun _ h9 => h9) rfl (by decide +kernel) rfl rfl (Nat.le_of_ble_eq_true rfl) dX12_ors_28 (fun H locs hP hD hS => ?_)
        have hP := wrP (mp_200_6 G Z Y q3.2 ((q3.2.1 200 6) + (1 : Int32))) hP
        have hD := wrD (mp_200_6 G Z Y q3.2 ((q3.2.1 200 6) + (1 : Int32))) hD
        refine lv_aload_n hx hb dX12_ors_31 rfl (lv_at hl 0 rfl) ?_
        obtain ⟨q5, hq5, h⟩ := f_b h
        refine cl_V (w := (mW G Z Y (sI q3.2 200 6 ((q3.2.1 200 6) + (1 : Int32))))) (w' := (mW G Z Y q5.2)) (rv := none) (bytes := cX12_ands) (maxL := 1) (ret := none) (C := RX12) (As := []) (rest := []) (stk := []) ⟨hx, hb, hml, hown, hts⟩ hK hE hA hP hD hS (hu_X12_ands (sI q3.2 200 6 ((q3.2.1 200 6) + (1 : Int32))) q5 hq5) (cwV 0 hts (gwV wd_1460 wd_1462 wp_50 wd_11 wd_1463) rfl rfl rfl hd_X12_ands ⟨by show 2 + d + 1 ≤ 2 + (d + 1); omega, by show 8 + (1 + 11) + (51 + d * 21) ≤ 51 + (d + 1) * 21; omega⟩) (mg_200 G Z Y (sI q3.2 200 6 ((q3.2.1 200 6) + (1 : Int32)))) rfl rfl rfl hl.1 rfl (Nat.le_of_ble_eq_true rfl) dX12_ors_32 ⟨Nat.zero_le _, Nat.zero_le _⟩ rfl (fun H locs hP hD hS => ?_)
        refine lv_aload_n hx hb dX12_ors_35 rfl (lv_at hl 0 rfl) ?_
        refine va_get (D := D) (ci := 12) (v := .int (q5.2.1 200 7)) (C := RX12) (T := TX12) (N := 59) hx hb hts inU_X12 hown hK hP _ (mg_200 G Z Y q5.2) rfl 7 (by decide) (hts _ wd_1255) (fun _ h9 => h9) rfl dX12_ors_36 ?_
        refine lv_iconst (v := (-1)) hx hb dX12_ors_39 (by decide) ?_
        refine lv_icmp_ne (tgt := 4) hx hb dX12_ors_40 (by decide) (fun c6 => ?_) (fun c6 => ?_)
        · skip
          have h := f_f c6 h
          exact ih q5.2 h _ _ _ hP hD hS hl
        · skip
          have h := f_t c6 h
          refine lv_aload_n hx hb dX12_ors_43 rfl (lv_at hl 0 rfl) ?_
          refine lv_bipush (v := 8) hx hb dX12_ors_44 (by decide) ?_
          obtain ⟨q7, hq7, h⟩ := f_b h
          refine cl_V (w := (mW G Z Y q5.2)) (w' := (mW G Z Y q7.2)) (rv := none) (bytes := cX12_sign) (maxL := 2) (ret := none) (C := RX12) (As := [.int (8 : Int32)]) (rest := []) (stk := []) ⟨hx, hb, hml, hown, hts⟩ hK hE hA hP hD hS (c_X12_sign l D G Z Y q5.2 (8 : Int32) q7 hq7) (cwV 1 hts (gwV wd_1472 wd_1474 wp_53 wd_11 wd_1475) rfl rfl rfl hd_X12_sign ⟨by show 1 + 1 ≤ 2 + (d + 1); omega, by show 8 + (2 + 11) + 30 ≤ 51 + (d + 1) * 21; omega⟩) (mg_200 G Z Y q5.2) rfl rfl rfl hl.1 rfl (Nat.le_of_ble_eq_true rfl) dX12_ors_46 ⟨Nat.zero_le _, Nat.zero_le _⟩ rfl (fun H locs hP hD hS => ?_)
          refine lv_goto (tgt := 4) hx hb dX12_ors_49 (by decide) ?_
          exact ih q7.2 h _ _ _ hP hD hS hl
set_option maxRecDepth 100000 in
set_option maxHeartbeats 8000000 in
theorem o_X12_ors (l : Launch) (D : va_G) (G : hG) (Z : hZ) (Y : va_W) (F : Nat) (d : Nat) (u_X12_ands : (hSt → Option (Unit × hSt))) (hu_X12_ands : ∀ (σ0 : hSt) (res : (Unit × hSt)), u_X12_ands σ0  = some res → CT l yX12_ands cX12_ands 1 none (rmG_Mo d) D G 0 0 [.ref (G.2.1 200)] (mW G Z Y σ0) (mW G Z Y res.2) none) (σ0 : hSt) (res : (Unit × hSt)) (h : b_X12_ors F Z u_X12_ands σ0 = some res) : CT l yX12_ors cX12_ors 1 none (rmG_Mo (d + 1)) D G 0 0 [.ref (G.2.1 200)] (mW G Z Y σ0) (mW G Z Y res.2) none := by
  unfold b_X12_ors at h
  refine CT.mk (cc := cX12_ors) (maxL := 1) (ret := none) (own := RX12) (plainFor_of_name (by decide)) rfl (Nat.le_of_ble_eq_true rfl) ?_
  intro p e s m args below meth c A ls C0 hnm hA hP hD hl
  obtain ⟨hx, hb, hr, hml, hown, hts, hlocks, hK, hE⟩ := id C0
  have hS : va_S A s.heap s.heap [] := va_S.rf
  have hl : lv_has ls 1 [(0, .ref (G.2.1 200))] := hl
  refine lv_aload_n hx hb dX12_ors_0 rfl (lv_at hl 0 rfl) ?_
  obtain ⟨q1, hq1, h⟩ := f_b h
  refine cl_V (w := (mW G Z Y σ0)) (w' := (mW G Z Y q1.2)) (rv := none) (bytes := cX12_ands) (maxL := 1) (ret := none) (C := RX12) (As := []) (rest := []) (stk := []) ⟨hx, hb, hml, hown, hts⟩ hK hE hA hP hD hS (hu_X12_ands σ0 q1 hq1) (cwV 0 hts (gwV wd_1460 wd_1462 wp_50 wd_11 wd_1463) rfl rfl rfl hd_X12_ands ⟨by show 2 + d + 1 ≤ 2 + (d + 1); omega, by show 8 + (1 + 11) + (51 + d * 21) ≤ 51 + (d + 1) * 21; omega⟩) (mg_200 G Z Y σ0) rfl rfl rfl hl.1 rfl (Nat.le_of_ble_eq_true rfl) dX12_ors_1 ⟨Nat.zero_le _, Nat.zero_le _⟩ rfl (fun H locs hP hD hS => ?_)
  refine W_X12_ors_L4 l D G Z Y F d u_X12_ands hu_X12_ands σ0 res C0 hA F q1.2 h _ _ _ hP hD hS hl
set_option maxRecDepth 100000 in
set_option maxHeartbeats 8000000 in
theorem W_X12_ands_L4 {p : Program} {e : Env} {s : State} {m : MethodId} {args : Array Value} {below : List Frame} {meth : Method} {c : Code} {A : Nat → Prop} (l : Launch) (D : va_G) (G : hG) (Z : hZ) (Y : va_W) (F : Nat) (d : Nat) (u_X12_saidUnit : (hSt → Option (Unit × hSt))) (hu_X12_saidUnit : ∀ (σ0 : hSt) (res : (Unit × hSt)), u_X12_saidUnit σ0  = some res → CT l yX12_saidUnit cX12_saidUnit 2 none (rmG_Mo d) D G 0 0 [.ref (G.2.1 200)] (mW G Z Y σ0) (mW G Z Y res.2) none) (σ0 : hSt) (res : (Unit × hSt)) (C0 : Cx p s m args meth c cX12_ands none RX12 1 D G A) (hA : ∀ q : Nat, s.heap.size ≤ q → A q) : ∀ (n : Nat) (σ1 : hSt), f_X12_ands_L4 F Z u_X12_saidUnit n σ1 = some res → ∀ (H : Heap) (locs : List Loc) (ls : Array Slot), va_P D vwCl (mW G Z Y σ1) H → va_D A (mW G Z Y σ1) → va_S A s.heap H locs → lv_has ls 1 [(0, .ref (G.2.1 200))] → W p l e (rmG_Mo (d + 1)) s m args below meth c H locs 0 0 (MQ below (Qg none D (tysG G) (mW G Z Y res.2) A) args s 0 0 A) (F0 m 4 ls []) := by
  obtain ⟨hx, hb, hr, hml, hown, hts, hlocks, hK, hE⟩ := id C0
  intro n
  induction n with
  | zero =>
    intro σ1 h
    cases h
  | succ n ih =>
    intro σ1 h H locs ls hP hD hS hl
    rw [f_X12_ands_L4] at h
    refine lv_aload_n hx hb dX12_ands_4 rfl (lv_at hl 0 rfl) ?_
    refine va_get (D := D) (ci := 12) (v := .int (σ1.1 200 7)) (C := RX12) (T := TX12) (N := 59) hx hb hts inU_X12 hown hK hP _ (mg_200 G Z Y σ1) rfl 7 (by decide) (hts _ wd_1255) (fun _ h9 => h9) rfl dX12_ands_5 ?_
    refine lv_iconst (v := (-1)) hx hb dX12_ands_8 (by decide) ?_
    refine lv_icmp_ne (tgt := 52) hx hb dX12_ands_9 (by decide) (fun c2 => ?_) (fun c2 => ?_)
    · skip
      have h := f_f c2 h
      obtain rfl := Option.some.inj h
      exact W.vret hx hb hr (q_end hK hP hD hS) hS.2.2 dX12_ands_52
    · skip
      have h := f_t c2 h
      refine lv_aload_n hx hb dX12_ands_12 rfl (lv_at hl 0 rfl) ?_
      obtain ⟨q3, hq3, h⟩ := f_b h
      refine cl_V (w := (mW G Z Y σ1)) (w' := (mW G Z Y q3.2)) (rv := some (.int q3.1)) (bytes := cX12_look) (maxL := 1) (ret := (some .int)) (C := RX12) (As := []) (rest := []) (stk := [.int q3.1]) ⟨hx, hb, hml, hown, hts⟩ hK hE hA hP hD hS (c_X12_look l D G Z Y σ1 F q3 hq3) (cwV 0 hts (gwV wd_1468 wd_1470 wp_52 wd_11 wd_1471) rfl rfl rfl hd_X12_look ⟨by show 0 + 1 ≤ 2 + (d + 1); omega, by show 8 + (1 + 11) + 0 ≤ 51 + (d + 1) * 21; omega⟩) (mg_200 G Z Y σ1) rfl rfl rfl hl.1 rfl (Nat.le_of_ble_eq_true rfl) dX12_ands_13 ⟨Nat.zero_le _, Nat.zero_le _⟩ rfl (fun H locs hP hD hS => ?_)
      refine lv_bipush (v := 38) hx hb dX12_ands_16 (by decide) ?_
      refine lv_icmp_ne (tgt := 52) hx hb dX12_ands_18 (by decide) (fun c4 => ?_) (fun c4 => ?_)
      · skip
        have h := f_f c4 h
        obtain rfl := Option.some.inj h
        exact W.vret hx hb hr (q_end hK hP hD hS) hS.2.2 dX12_ands_52
      · skip
        have h := f_t c4 h
        refine lv_aload_n hx hb dX12_ands_21 rfl (lv_at hl 0 rfl) ?_
        refine lv_dup hx hb dX12_ands_22 rfl ?_
        refine va_get (D := D) (ci := 12) (v := .int (q3.2.1 200 6)) (C := RX12) (T := TX12) (N := 59) hx hb hts inU_X12 hown hK hP _ (mg_200 G Z Y q3.2) rfl 6 (by decide) (hts _ wd_1254) (fun _ h9 => h9) rfl dX12_ands_23 ?_
        refine lv_iconst (v := 1) hx hb dX12_ands_26 (by decide) ?_
        refine lv_iadd hx hb dX12_ands_27 ?_
        refine va_put (D := D) (ci := 12) (v := .int ((q3.2.1 200 6) + (1 : Int32))) (ty := .int) (C := RX12) (T := TX12) (N := 59) hx hb hts inU_X12 tyX12 tyX12_ok nmX12 hown hK hP hD hS _ (mg_200 G Z Y q3.2) rfl 6 (by decide) (hts _ wd_1254) (fun _ h9 => h9) rfl (by decide +kernel) rfl rfl (Nat.le_of_ble_eq_true rfl) dX12_ands_28 (fun H locs hP hD hS => ?_)
        have hP := wrP (mp_200_6 G Z Y q3.2 ((q3.2.1 200 6) + (1 : Int32))) hP
        have hD := wrD (mp_200_6 G Z Y q3.2 ((q3.2.1 200 6) + (1 : Int32))) hD
        refine lv_aload_n hx hb dX12_ands_31 rfl (lv_at hl 0 rfl) ?_
        obtain ⟨q5, hq5, h⟩ := f_b h
        refine cl_V (w := (mW G Z Y (sI q3.2 200 6 ((q3.2.1 200 6) + (1 : Int32))))) (w' := (mW G Z Y q5.2)) (rv := none) (bytes := cX12_saidUnit) (maxL := 2) (ret := none) (C := RX12) (As := []) (rest := []) (stk := []) ⟨hx, hb, hml, hown, hts⟩ hK hE hA hP hD hS (hu_X12_saidUnit (sI q3.2 200 6 ((q3.2.1 200 6) + (1 : Int32))) q5 hq5) (cwV 0 hts (gwV wd_1464 wd_1466 wp_51 wd_11 wd_1467) rfl rfl rfl hd_X12_saidUnit ⟨by show 2 + d + 1 ≤ 2 + (d + 1); omega, by show 8 + (2 + 11) + (51 + d * 21) ≤ 51 + (d + 1) * 21; omega⟩) (mg_200 G Z Y (sI q3.2 200 6 ((q3.2.1 200 6) + (1 : Int32)))) rfl rfl rfl hl.1 rfl (Nat.le_of_ble_eq_true rfl) dX12_ands_32 ⟨Nat.zero_le _, Nat.zero_le _⟩ rfl (fun H locs hP hD hS => ?_)
        refine lv_aload_n hx hb dX12_ands_35 rfl (lv_at hl 0 rfl) ?_
        refine va_get (D := D) (ci := 12) (v := .int (q5.2.1 200 7)) (C := RX12) (T := TX12) (N := 59) hx hb hts inU_X12 hown hK hP _ (mg_200 G Z Y q5.2) rfl 7 (by decide) (hts _ wd_1255) (fun _ h9 => h9) rfl dX12_ands_36 ?_
        refine lv_iconst (v := (-1)) hx hb dX12_ands_39 (by decide) ?_
        refine lv_icmp_ne (tgt := 4) hx hb dX12_ands_40 (by decide) (fun c6 => ?_) (fun c6 => ?_)
        · skip
          have h := f_f c6 h
          exact ih q5.2 h _ _ _ hP hD hS hl
        · skip
          have h := f_t c6 h
          refine lv_aload_n hx hb dX12_ands_43 rfl (lv_at hl 0 rfl) ?_
          refine lv_bipush (v := 7) hx hb dX12_ands_44 (by decide) ?_
          obtain ⟨q7, hq7, h⟩ := f_b h
          refine cl_V (w := (mW G Z Y q5.2)) (w' := (mW G Z Y q7.2)) (rv := none) (bytes := cX12_sign) (maxL := 2) (ret := none) (C := RX12) (As := [.int (7 : Int32)]) (rest := []) (stk := []) ⟨hx, hb, hml, hown, hts⟩ hK hE hA hP hD hS (c_X12_sign l D G Z Y q5.2 (7 : Int32) q7 hq7) (cwV 1 hts (gwV wd_1472 wd_1474 wp_53 wd_11 wd_1475) rfl rfl rfl hd_X12_sign ⟨by show 1 + 1 ≤ 2 + (d + 1); omega, by show 8 + (2 + 11) + 30 ≤ 51 + (d + 1) * 21; omega⟩) (mg_200 G Z Y q5.2) rfl rfl rfl hl.1 rfl (Nat.le_of_ble_eq_true rfl) dX12_ands_46 ⟨Nat.zero_le _, Nat.zero_le _⟩ rfl (fun H locs hP hD hS => ?_)
          refine lv_goto (tgt := 4) hx hb dX12_ands_49 (by decide) ?_
          exact ih q7.2 h _ _ _ hP hD hS hl
set_option maxRecDepth 100000 in
set_option maxHeartbeats 8000000 in
theorem o_X12_ands (l : Launch) (D : va_G) (G : hG) (Z : hZ) (Y : va_W) (F : Nat) (d : Nat) (u_X12_saidUnit : (hSt → Option (Unit × hSt))) (hu_X12_saidUnit : ∀ (σ0 : hSt) (res : (Unit × hSt)), u_X12_saidUnit σ0  = some res → CT l yX12_saidUnit cX12_saidUnit 2 none (rmG_Mo d) D G 0 0 [.ref (G.2.1 200)] (mW G Z Y σ0) (mW G Z Y res.2) none) (σ0 : hSt) (res : (Unit × hSt)) (h : b_X12_ands F Z u_X12_saidUnit σ0 = some res) : CT l yX12_ands cX12_ands 1 none (rmG_Mo (d + 1)) D G 0 0 [.ref (G.2.1 200)] (mW G Z Y σ0) (mW G Z Y res.2) none := by
  unfold b_X12_ands at h
  refine CT.mk (cc := cX12_ands) (maxL := 1) (ret := none) (own := RX12) (plainFor_of_name (by decide)) rfl (Nat.le_of_ble_eq_true rfl) ?_
  intro p e s m args below meth c A ls C0 hnm hA hP hD hl
  obtain ⟨hx, hb, hr, hml, hown, hts, hlocks, hK, hE⟩ := id C0
  have hS : va_S A s.heap s.heap [] := va_S.rf
  have hl : lv_has ls 1 [(0, .ref (G.2.1 200))] := hl
  refine lv_aload_n hx hb dX12_ands_0 rfl (lv_at hl 0 rfl) ?_
  obtain ⟨q1, hq1, h⟩ := f_b h
  refine cl_V (w := (mW G Z Y σ0)) (w' := (mW G Z Y q1.2)) (rv := none) (bytes := cX12_saidUnit) (maxL := 2) (ret := none) (C := RX12) (As := []) (rest := []) (stk := []) ⟨hx, hb, hml, hown, hts⟩ hK hE hA hP hD hS (hu_X12_saidUnit σ0 q1 hq1) (cwV 0 hts (gwV wd_1464 wd_1466 wp_51 wd_11 wd_1467) rfl rfl rfl hd_X12_saidUnit ⟨by show 2 + d + 1 ≤ 2 + (d + 1); omega, by show 8 + (2 + 11) + (51 + d * 21) ≤ 51 + (d + 1) * 21; omega⟩) (mg_200 G Z Y σ0) rfl rfl rfl hl.1 rfl (Nat.le_of_ble_eq_true rfl) dX12_ands_1 ⟨Nat.zero_le _, Nat.zero_le _⟩ rfl (fun H locs hP hD hS => ?_)
  refine W_X12_ands_L4 l D G Z Y F d u_X12_saidUnit hu_X12_saidUnit σ0 res C0 hA F q1.2 h _ _ _ hP hD hS hl
set_option maxRecDepth 100000 in
set_option maxHeartbeats 8000000 in
theorem o_X12_saidUnit (l : Launch) (D : va_G) (G : hG) (Z : hZ) (Y : va_W) (F : Nat) (d : Nat) (u_X12_ors : (hSt → Option (Unit × hSt))) (hu_X12_ors : ∀ (σ0 : hSt) (res : (Unit × hSt)), u_X12_ors σ0  = some res → CT l yX12_ors cX12_ors 1 none (rmG_Mo d) D G 0 0 [.ref (G.2.1 200)] (mW G Z Y σ0) (mW G Z Y res.2) none) (u_X12_saidUnit : (hSt → Option (Unit × hSt))) (hu_X12_saidUnit : ∀ (σ0 : hSt) (res : (Unit × hSt)), u_X12_saidUnit σ0  = some res → CT l yX12_saidUnit cX12_saidUnit 2 none (rmG_Mo d) D G 0 0 [.ref (G.2.1 200)] (mW G Z Y σ0) (mW G Z Y res.2) none) (σ0 : hSt) (res : (Unit × hSt)) (h : b_X12_saidUnit F Z u_X12_ors u_X12_saidUnit σ0 = some res) : CT l yX12_saidUnit cX12_saidUnit 2 none (rmG_Mo (d + 1)) D G 0 0 [.ref (G.2.1 200)] (mW G Z Y σ0) (mW G Z Y res.2) none := by
  unfold b_X12_saidUnit at h
  refine CT.mk (cc := cX12_saidUnit) (maxL := 2) (ret := none) (own := RX12) (plainFor_of_name (by decide)) rfl (Nat.le_of_ble_eq_true rfl) ?_
  intro p e s m args below meth c A ls C0 hnm hA hP hD hl
  obtain ⟨hx, hb, hr, hml, hown, hts, hlocks, hK, hE⟩ := id C0
  have hS : va_S A s.heap s.heap [] := va_S.rf
  have hl : lv_has ls 2 [(0, .ref (G.2.1 200))] := hl
  refine lv_aload_n hx hb dX12_saidUnit_0 rfl (lv_at hl 0 rfl) ?_
  obtain ⟨q1, hq1, h⟩ := f_b h
  refine cl_V (w := (mW G Z Y σ0)) (w' := (mW G Z Y q1.2)) (rv := some (.int q1.1)) (bytes := cX12_look) (maxL := 1) (ret := (some .int)) (C := RX12) (As := []) (rest := []) (stk := [.int q1.1]) ⟨hx, hb, hml, hown, hts⟩ hK hE hA hP hD hS (c_X12_look l D G Z Y σ0 F q1 hq1) (cwV 0 hts (gwV wd_1468 wd_1470 wp_52 wd_11 wd_1471) rfl rfl rfl hd_X12_look ⟨by show 0 + 1 ≤ 2 + (d + 1); omega, by show 8 + (1 + 11) + 0 ≤ 51 + (d + 1) * 21; omega⟩) (mg_200 G Z Y σ0) rfl rfl rfl hl.1 rfl (Nat.le_of_ble_eq_true rfl) dX12_saidUnit_1 ⟨Nat.zero_le _, Nat.zero_le _⟩ rfl (fun H locs hP hD hS => ?_)
  refine lv_istore_n (lv' := [(1, .int q1.1), (0, .ref (G.2.1 200))]) hx hb dX12_saidUnit_4 rfl hl (by decide) rfl (fun ls hl => ?_)
  refine lv_iload_n hx hb dX12_saidUnit_5 rfl (lv_at hl 0 rfl) ?_
  refine lv_bipush (v := 97) hx hb dX12_saidUnit_6 (by decide) ?_
  refine lv_icmp_lt (tgt := 36) hx hb dX12_saidUnit_8 (by decide) (fun c2 => ?_) (fun c2 => ?_)
  · skip
    have h := f_t c2 h
    refine lv_iload_n hx hb dX12_saidUnit_36 rfl (lv_at hl 0 rfl) ?_
    refine lv_bipush (v := 33) hx hb dX12_saidUnit_37 (by decide) ?_
    refine lv_icmp_eq (tgt := 54) hx hb dX12_saidUnit_39 (by decide) (fun c3 => ?_) (fun c3 => ?_)
    · skip
      have h := f_t c3 h
      refine lv_aload_n hx hb dX12_saidUnit_54 rfl (lv_at hl 1 rfl) ?_
      obtain ⟨q4, hq4, h⟩ := f_b h
      refine cl_V (w := (mW G Z Y q1.2)) (w' := (mW G Z Y q4.2)) (rv := some (.int q4.1)) (bytes := cX12_goesIn) (maxL := 1) (ret := (some .boolean)) (C := RX12) (As := []) (rest := []) (stk := [.int q4.1]) ⟨hx, hb, hml, hown, hts⟩ hK hE hA hP hD hS (c_X12_goesIn l D G Z Y q1.2 q4 hq4) (cwV 0 hts (gwV wd_1481 wd_1483 wp_55 wd_11 wd_1484) rfl rfl rfl hd_X12_goesIn ⟨by show 1 + 1 ≤ 2 + (d + 1); omega, by show 8 + (1 + 11) + 20 ≤ 51 + (d + 1) * 21; omega⟩) (mg_200 G Z Y q1.2) rfl rfl rfl hl.1 rfl (Nat.le_of_ble_eq_true rfl) dX12_saidUnit_55 ⟨Nat.zero_le _, Nat.zero_le _⟩ rfl (fun H locs hP hD hS => ?_)
      refine lv_if_ne (tgt := 62) hx hb dX12_saidUnit_58 (by decide) (fun c5 => ?_) (fun c5 => ?_)
      · skip
        have h := f_f c5 h
        refine lv_iload_n hx hb dX12_saidUnit_62 rfl (lv_at hl 0 rfl) ?_
        refine lv_bipush (v := 33) hx hb dX12_saidUnit_63 (by decide) ?_
        refine lv_icmp_ne (tgt := 89) hx hb dX12_saidUnit_65 (by decide) (fun c6 => ?_) (fun c6 => ?_)
        · skip
          have h := f_f c6 h
          refine lv_aload_n hx hb dX12_saidUnit_89 rfl (lv_at hl 1 rfl) ?_
          obtain ⟨q7, hq7, h⟩ := f_b h
          refine cl_V (w := (mW G Z Y q4.2)) (w' := (mW G Z Y q7.2)) (rv := none) (bytes := cX12_ors) (maxL := 1) (ret := none) (C := RX12) (As := []) (rest := []) (stk := []) ⟨hx, hb, hml, hown, hts⟩ hK hE hA hP hD hS (hu_X12_ors q4.2 q7 hq7) (cwV 0 hts (gwV wd_1456 wd_1458 wp_49 wd_11 wd_1459) rfl rfl rfl hd_X12_ors ⟨by show 2 + d + 1 ≤ 2 + (d + 1); omega, by show 8 + (1 + 11) + (51 + d * 21) ≤ 51 + (d + 1) * 21; omega⟩) (mg_200 G Z Y q4.2) rfl rfl rfl hl.1 rfl (Nat.le_of_ble_eq_true rfl) dX12_saidUnit_90 ⟨Nat.zero_le _, Nat.zero_le _⟩ rfl (fun H locs hP hD hS => ?_)
          refine lv_aload_n hx hb dX12_saidUnit_93 rfl (lv_at hl 1 rfl) ?_
          refine lv_bipush (v := 41) hx hb dX12_saidUnit_94 (by decide) ?_
          obtain ⟨q8, hq8, h⟩ := f_b h
          refine cl_V (w := (mW G Z Y q7.2)) (w' := (mW G Z Y q8.2)) (rv := some (.int q8.1)) (bytes := cX12_takes) (maxL := 2) (ret := (some .boolean)) (C := RX12) (As := [.int (41 : Int32)]) (rest := []) (stk := [.int q8.1]) ⟨hx, hb, hml, hown, hts⟩ hK hE hA hP hD hS (c_X12_takes l D G Z Y q7.2 F (41 : Int32) q8 hq8) (cwV 1 hts (gwV wd_1485 wd_1487 wp_56 wd_11 wd_1488) rfl rfl rfl hd_X12_takes ⟨by show 1 + 1 ≤ 2 + (d + 1); omega, by show 8 + (2 + 11) + 20 ≤ 51 + (d + 1) * 21; omega⟩) (mg_200 G Z Y q7.2) rfl rfl rfl hl.1 rfl (Nat.le_of_ble_eq_true rfl) dX12_saidUnit_96 ⟨Nat.zero_le _, Nat.zero_le _⟩ rfl (fun H locs hP hD hS => ?_)
          refine lv_if_ne (tgt := 103) hx hb dX12_saidUnit_99 (by decide) (fun c9 => ?_) (fun c9 => ?_)
          · skip
            have h := f_f c9 h
            refine lv_aload_n hx hb dX12_saidUnit_103 rfl (lv_at hl 1 rfl) ?_
            refine lv_dup hx hb dX12_saidUnit_104 rfl ?_
            refine va_get (D := D) (ci := 12) (v := .int (q8.2.1 200 8)) (C := RX12) (T := TX12) (N := 59) hx hb hts inU_X12 hown hK hP _ (mg_200 G Z Y q8.2) rfl 8 (by decide) (hts _ wd_1256) (fun _ h9 => h9) rfl dX12_saidUnit_105 ?_
            refine lv_iconst (v := 1) hx hb dX12_saidUnit_108 (by decide) ?_
            refine lv_isub hx hb dX12_saidUnit_109 ?_
            refine va_put (D := D) (ci := 12) (v := .int ((q8.2.1 200 8) - (1 : Int32))) (ty := .int) (C := RX12) (T := TX12) (N := 59) hx hb hts inU_X12 tyX12 tyX12_ok nmX12 hown hK hP hD hS _ (mg_200 G Z Y q8.2) rfl 8 (by decide) (hts _ wd_1256) (fun _ h9 => h9) rfl (by decide +kernel) rfl rfl (Nat.le_of_ble_eq_true rfl) dX12_saidUnit_110 (fun H locs hP hD hS => ?_)
            have hP := wrP (mp_200_8 G Z Y q8.2 ((q8.2.1 200 8) - (1 : Int32))) hP
            have hD := wrD (mp_200_8 G Z Y q8.2 ((q8.2.1 200 8) - (1 : Int32))) hD
            obtain rfl := Option.some.inj h
            exact W.vret hx hb hr (q_end hK hP hD hS) hS.2.2 dX12_saidUnit_113
          · skip
            have h := f_t c9 h
            obtain rfl := Option.some.inj h
            exact W.vret hx hb hr (q_end hK hP hD hS) hS.2.2 dX12_saidUnit_102
        · skip
          have h := f_t c6 h
          refine lv_aload_n hx hb dX12_saidUnit_68 rfl (lv_at hl 1 rfl) ?_
          obtain ⟨q10, hq10, h⟩ := f_b h
          refine cl_V (w := (mW G Z Y q4.2)) (w' := (mW G Z Y q10.2)) (rv := none) (bytes := cX12_saidUnit) (maxL := 2) (ret := none) (C := RX12) (As := []) (rest := []) (stk := []) ⟨hx, hb, hml, hown, hts⟩ hK hE hA hP hD hS (hu_X12_saidUnit q4.2 q10 hq10) (cwV 0 hts (gwV wd_1464 wd_1466 wp_51 wd_11 wd_1467) rfl rfl rfl hd_X12_saidUnit ⟨by show 2 + d + 1 ≤ 2 + (d + 1); omega, by show 8 + (2 + 11) + (51 + d * 21) ≤ 51 + (d + 1) * 21; omega⟩) (mg_200 G Z Y q4.2) rfl rfl rfl hl.1 rfl (Nat.le_of_ble_eq_true rfl) dX12_saidUnit_69 ⟨Nat.zero_le _, Nat.zero_le _⟩ rfl (fun H locs hP hD hS => ?_)
          refine lv_aload_n hx hb dX12_saidUnit_72 rfl (lv_at hl 1 rfl) ?_
          refine va_get (D := D) (ci := 12) (v := .int (q10.2.1 200 7)) (C := RX12) (T := TX12) (N := 59) hx hb hts inU_X12 hown hK hP _ (mg_200 G Z Y q10.2) rfl 7 (by decide) (hts _ wd_1255) (fun _ h9 => h9) rfl dX12_saidUnit_73 ?_
          refine lv_iconst (v := (-1)) hx hb dX12_saidUnit_76 (by decide) ?_
          refine lv_icmp_ne (tgt := 103) hx hb dX12_saidUnit_77 (by decide) (fun c11 => ?_) (fun c11 => ?_)
          · skip
            have h := f_f c11 h
            refine lv_aload_n hx hb dX12_saidUnit_103 rfl (lv_at hl 1 rfl) ?_
            refine lv_dup hx hb dX12_saidUnit_104 rfl ?_
            refine va_get (D := D) (ci := 12) (v := .int (q10.2.1 200 8)) (C := RX12) (T := TX12) (N := 59) hx hb hts inU_X12 hown hK hP _ (mg_200 G Z Y q10.2) rfl 8 (by decide) (hts _ wd_1256) (fun _ h9 => h9) rfl dX12_saidUnit_105 ?_
            refine lv_iconst (v := 1) hx hb dX12_saidUnit_108 (by decide) ?_
            refine lv_isub hx hb dX12_saidUnit_109 ?_
            refine va_put (D := D) (ci := 12) (v := .int ((q10.2.1 200 8) - (1 : Int32))) (ty := .int) (C := RX12) (T := TX12) (N := 59) hx hb hts inU_X12 tyX12 tyX12_ok nmX12 hown hK hP hD hS _ (mg_200 G Z Y q10.2) rfl 8 (by decide) (hts _ wd_1256) (fun _ h9 => h9) rfl (by decide +kernel) rfl rfl (Nat.le_of_ble_eq_true rfl) dX12_saidUnit_110 (fun H locs hP hD hS => ?_)
            have hP := wrP (mp_200_8 G Z Y q10.2 ((q10.2.1 200 8) - (1 : Int32))) hP
            have hD := wrD (mp_200_8 G Z Y q10.2 ((q10.2.1 200 8) - (1 : Int32))) hD
            obtain rfl := Option.some.inj h
            exact W.vret hx hb hr (q_end hK hP hD hS) hS.2.2 dX12_saidUnit_113
          · skip
            have h := f_t c11 h
            refine lv_aload_n hx hb dX12_saidUnit_80 rfl (lv_at hl 1 rfl) ?_
            refine lv_bipush (v := 6) hx hb dX12_saidUnit_81 (by decide) ?_
            obtain ⟨q12, hq12, h⟩ := f_b h
            refine cl_V (w := (mW G Z Y q10.2)) (w' := (mW G Z Y q12.2)) (rv := none) (bytes := cX12_sign) (maxL := 2) (ret := none) (C := RX12) (As := [.int (6 : Int32)]) (rest := []) (stk := []) ⟨hx, hb, hml, hown, hts⟩ hK hE hA hP hD hS (c_X12_sign l D G Z Y q10.2 (6 : Int32) q12 hq12) (cwV 1 hts (gwV wd_1472 wd_1474 wp_53 wd_11 wd_1475) rfl rfl rfl hd_X12_sign ⟨by show 1 + 1 ≤ 2 + (d + 1); omega, by show 8 + (2 + 11) + 30 ≤ 51 + (d + 1) * 21; omega⟩) (mg_200 G Z Y q10.2) rfl rfl rfl hl.1 rfl (Nat.le_of_ble_eq_true rfl) dX12_saidUnit_83 ⟨Nat.zero_le _, Nat.zero_le _⟩ rfl (fun H locs hP hD hS => ?_)
            refine lv_goto (tgt := 103) hx hb dX12_saidUnit_86 (by decide) ?_
            refine lv_aload_n hx hb dX12_saidUnit_103 rfl (lv_at hl 1 rfl) ?_
            refine lv_dup hx hb dX12_saidUnit_104 rfl ?_
            refine va_get (D := D) (ci := 12) (v := .int (q12.2.1 200 8)) (C := RX12) (T := TX12) (N := 59) hx hb hts inU_X12 hown hK hP _ (mg_200 G Z Y q12.2) rfl 8 (by decide) (hts _ wd_1256) (fun _ h9 => h9) rfl dX12_saidUnit_105 ?_
            refine lv_iconst (v := 1) hx hb dX12_saidUnit_108 (by decide) ?_
            refine lv_isub hx hb dX12_saidUnit_109 ?_
            refine va_put (D := D) (ci := 12) (v := .int ((q12.2.1 200 8) - (1 : Int32))) (ty := .int) (C := RX12) (T := TX12) (N := 59) hx hb hts inU_X12 tyX12 tyX12_ok nmX12 hown hK hP hD hS _ (mg_200 G Z Y q12.2) rfl 8 (by decide) (hts _ wd_1256) (fun _ h9 => h9) rfl (by decide +kernel) rfl rfl (Nat.le_of_ble_eq_true rfl) dX12_saidUnit_110 (fun H locs hP hD hS => ?_)
            have hP := wrP (mp_200_8 G Z Y q12.2 ((q12.2.1 200 8) - (1 : Int32))) hP
            have hD := wrD (mp_200_8 G Z Y q12.2 ((q12.2.1 200 8) - (1 : Int32))) hD
            obtain rfl := Option.some.inj h
            exact W.vret hx hb hr (q_end hK hP hD hS) hS.2.2 dX12_saidUnit_113
      · skip
        have h := f_t c5 h
        obtain rfl := Option.some.inj h
        exact W.vret hx hb hr (q_end hK hP hD hS) hS.2.2 dX12_saidUnit_61
    · skip
      have h := f_f c3 h
      refine lv_iload_n hx hb dX12_saidUnit_42 rfl (lv_at hl 0 rfl) ?_
      refine lv_bipush (v := 40) hx hb dX12_saidUnit_43 (by decide) ?_
      refine lv_icmp_eq (tgt := 54) hx hb dX12_saidUnit_45 (by decide) (fun c13 => ?_) (fun c13 => ?_)
      · skip
        have h := f_t c13 h
        refine lv_aload_n hx hb dX12_saidUnit_54 rfl (lv_at hl 1 rfl) ?_
        obtain ⟨q14, hq14, h⟩ := f_b h
        refine cl_V (w := (mW G Z Y q1.2)) (w' := (mW G Z Y q14.2)) (rv := some (.int q14.1)) (bytes := cX12_goesIn) (maxL := 1) (ret := (some .boolean)) (C := RX12) (As := []) (rest := []) (stk := [.int q14.1]) ⟨hx, hb, hml, hown, hts⟩ hK hE hA hP hD hS (c_X12_goesIn l D G Z Y q1.2 q14 hq14) (cwV 0 hts (gwV wd_1481 wd_1483 wp_55 wd_11 wd_1484) rfl rfl rfl hd_X12_goesIn ⟨by show 1 + 1 ≤ 2 + (d + 1); omega, by show 8 + (1 + 11) + 20 ≤ 51 + (d + 1) * 21; omega⟩) (mg_200 G Z Y q1.2) rfl rfl rfl hl.1 rfl (Nat.le_of_ble_eq_true rfl) dX12_saidUnit_55 ⟨Nat.zero_le _, Nat.zero_le _⟩ rfl (fun H locs hP hD hS => ?_)
        refine lv_if_ne (tgt := 62) hx hb dX12_saidUnit_58 (by decide) (fun c15 => ?_) (fun c15 => ?_)
        · skip
          have h := f_f c15 h
          refine lv_iload_n hx hb dX12_saidUnit_62 rfl (lv_at hl 0 rfl) ?_
          refine lv_bipush (v := 33) hx hb dX12_saidUnit_63 (by decide) ?_
          refine lv_icmp_ne (tgt := 89) hx hb dX12_saidUnit_65 (by decide) (fun c16 => ?_) (fun c16 => ?_)
          · skip
            have h := f_f c16 h
            refine lv_aload_n hx hb dX12_saidUnit_89 rfl (lv_at hl 1 rfl) ?_
            obtain ⟨q17, hq17, h⟩ := f_b h
            refine cl_V (w := (mW G Z Y q14.2)) (w' := (mW G Z Y q17.2)) (rv := none) (bytes := cX12_ors) (maxL := 1) (ret := none) (C := RX12) (As := []) (rest := []) (stk := []) ⟨hx, hb, hml, hown, hts⟩ hK hE hA hP hD hS (hu_X12_ors q14.2 q17 hq17) (cwV 0 hts (gwV wd_1456 wd_1458 wp_49 wd_11 wd_1459) rfl rfl rfl hd_X12_ors ⟨by show 2 + d + 1 ≤ 2 + (d + 1); omega, by show 8 + (1 + 11) + (51 + d * 21) ≤ 51 + (d + 1) * 21; omega⟩) (mg_200 G Z Y q14.2) rfl rfl rfl hl.1 rfl (Nat.le_of_ble_eq_true rfl) dX12_saidUnit_90 ⟨Nat.zero_le _, Nat.zero_le _⟩ rfl (fun H locs hP hD hS => ?_)
            refine lv_aload_n hx hb dX12_saidUnit_93 rfl (lv_at hl 1 rfl) ?_
            refine lv_bipush (v := 41) hx hb dX12_saidUnit_94 (by decide) ?_
            obtain ⟨q18, hq18, h⟩ := f_b h
            refine cl_V (w := (mW G Z Y q17.2)) (w' := (mW G Z Y q18.2)) (rv := some (.int q18.1)) (bytes := cX12_takes) (maxL := 2) (ret := (some .boolean)) (C := RX12) (As := [.int (41 : Int32)]) (rest := []) (stk := [.int q18.1]) ⟨hx, hb, hml, hown, hts⟩ hK hE hA hP hD hS (c_X12_takes l D G Z Y q17.2 F (41 : Int32) q18 hq18) (cwV 1 hts (gwV wd_1485 wd_1487 wp_56 wd_11 wd_1488) rfl rfl rfl hd_X12_takes ⟨by show 1 + 1 ≤ 2 + (d + 1); omega, by show 8 + (2 + 11) + 20 ≤ 51 + (d + 1) * 21; omega⟩) (mg_200 G Z Y q17.2) rfl rfl rfl hl.1 rfl (Nat.le_of_ble_eq_true rfl) dX12_saidUnit_96 ⟨Nat.zero_le _, Nat.zero_le _⟩ rfl (fun H locs hP hD hS => ?_)
            refine lv_if_ne (tgt := 103) hx hb dX12_saidUnit_99 (by decide) (fun c19 => ?_) (fun c19 => ?_)
            · skip
              have h := f_f c19 h
              refine lv_aload_n hx hb dX12_saidUnit_103 rfl (lv_at hl 1 rfl) ?_
              refine lv_dup hx hb dX12_saidUnit_104 rfl ?_
              refine va_get (D := D) (ci := 12) (v := .int (q18.2.1 200 8)) (C := RX12) (T := TX12) (N := 59) hx hb hts inU_X12 hown hK hP _ (mg_200 G Z Y q18.2) rfl 8 (by decide) (hts _ wd_1256) (fun _ h9 => h9) rfl dX12_saidUnit_105 ?_
              refine lv_iconst (v := 1) hx hb dX12_saidUnit_108 (by decide) ?_
              refine lv_isub hx hb dX12_saidUnit_109 ?_
              refine va_put (D := D) (ci := 12) (v := .int ((q18.2.1 200 8) - (1 : Int32))) (ty := .int) (C := RX12) (T := TX12) (N := 59) hx hb hts inU_X12 tyX12 tyX12_ok nmX12 hown hK hP hD hS _ (mg_200 G Z Y q18.2) rfl 8 (by decide) (hts _ wd_1256) (fun _ h9 => h9) rfl (by decide +kernel) rfl rfl (Nat.le_of_ble_eq_true rfl) dX12_saidUnit_110 (fun H locs hP hD hS => ?_)
              have hP := wrP (mp_200_8 G Z Y q18.2 ((q18.2.1 200 8) - (1 : Int32))) hP
              have hD := wrD (mp_200_8 G Z Y q18.2 ((q18.2.1 200 8) - (1 : Int32))) hD
              obtain rfl := Option.some.inj h
              exact W.vret hx hb hr (q_end hK hP hD hS) hS.2.2 dX12_saidUnit_113
            · skip
              have h := f_t c19 h
              obtain rfl := Option.some.inj h
              exact W.vret hx hb hr (q_end hK hP hD hS) hS.2.2 dX12_saidUnit_102
          · skip
            have h := f_t c16 h
            refine lv_aload_n hx hb dX12_saidUnit_68 rfl (lv_at hl 1 rfl) ?_
            obtain ⟨q20, hq20, h⟩ := f_b h
            refine cl_V (w := (mW G Z Y q14.2)) (w' := (mW G Z Y q20.2)) (rv := none) (bytes := cX12_saidUnit) (maxL := 2) (ret := none) (C := RX12) (As := []) (rest := []) (stk := []) ⟨hx, hb, hml, hown, hts⟩ hK hE hA hP hD hS (hu_X12_saidUnit q14.2 q20 hq20) (cwV 0 hts (gwV wd_1464 wd_1466 wp_51 wd_11 wd_1467) rfl rfl rfl hd_X12_saidUnit ⟨by show 2 + d + 1 ≤ 2 + (d + 1); omega, by show 8 + (2 + 11) + (51 + d * 21) ≤ 51 + (d + 1) * 21; omega⟩) (mg_200 G Z Y q14.2) rfl rfl rfl hl.1 rfl (Nat.le_of_ble_eq_true rfl) dX12_saidUnit_69 ⟨Nat.zero_le _, Nat.zero_le _⟩ rfl (fun H locs hP hD hS => ?_)
            refine lv_aload_n hx hb dX12_saidUnit_72 rfl (lv_at hl 1 rfl) ?_
            refine va_get (D := D) (ci := 12) (v := .int (q20.2.1 200 7)) (C := RX12) (T := TX12) (N := 59) hx hb hts inU_X12 hown hK hP _ (mg_200 G Z Y q20.2) rfl 7 (by decide) (hts _ wd_1255) (fun _ h9 => h9) rfl dX12_saidUnit_73 ?_
            refine lv_iconst (v := (-1)) hx hb dX12_saidUnit_76 (by decide) ?_
            refine lv_icmp_ne (tgt := 103) hx hb dX12_saidUnit_77 (by decide) (fun c21 => ?_) (fun c21 => ?_)
            · skip
              have h := f_f c21 h
              refine lv_aload_n hx hb dX12_saidUnit_103 rfl (lv_at hl 1 rfl) ?_
              refine lv_dup hx hb dX12_saidUnit_104 rfl ?_
              refine va_get (D := D) (ci := 12) (v := .int (q20.2.1 200 8)) (C := RX12) (T := TX12) (N := 59) hx hb hts inU_X12 hown hK hP _ (mg_200 G Z Y q20.2) rfl 8 (by decide) (hts _ wd_1256) (fun _ h9 => h9) rfl dX12_saidUnit_105 ?_
              refine lv_iconst (v := 1) hx hb dX12_saidUnit_108 (by decide) ?_
              refine lv_isub hx hb dX12_saidUnit_109 ?_
              refine va_put (D := D) (ci := 12) (v := .int ((q20.2.1 200 8) - (1 : Int32))) (ty := .int) (C := RX12) (T := TX12) (N := 59) hx hb hts inU_X12 tyX12 tyX12_ok nmX12 hown hK hP hD hS _ (mg_200 G Z Y q20.2) rfl 8 (by decide) (hts _ wd_1256) (fun _ h9 => h9) rfl (by decide +kernel) rfl rfl (Nat.le_of_ble_eq_true rfl) dX12_saidUnit_110 (fun H locs hP hD hS => ?_)
              have hP := wrP (mp_200_8 G Z Y q20.2 ((q20.2.1 200 8) - (1 : Int32))) hP
              have hD := wrD (mp_200_8 G Z Y q20.2 ((q20.2.1 200 8) - (1 : Int32))) hD
              obtain rfl := Option.some.inj h
              exact W.vret hx hb hr (q_end hK hP hD hS) hS.2.2 dX12_saidUnit_113
            · skip
              have h := f_t c21 h
              refine lv_aload_n hx hb dX12_saidUnit_80 rfl (lv_at hl 1 rfl) ?_
              refine lv_bipush (v := 6) hx hb dX12_saidUnit_81 (by decide) ?_
              obtain ⟨q22, hq22, h⟩ := f_b h
              refine cl_V (w := (mW G Z Y q20.2)) (w' := (mW G Z Y q22.2)) (rv := none) (bytes := cX12_sign) (maxL := 2) (ret := none) (C := RX12) (As := [.int (6 : Int32)]) (rest := []) (stk := []) ⟨hx, hb, hml, hown, hts⟩ hK hE hA hP hD hS (c_X12_sign l D G Z Y q20.2 (6 : Int32) q22 hq22) (cwV 1 hts (gwV wd_1472 wd_1474 wp_53 wd_11 wd_1475) rfl rfl rfl hd_X12_sign ⟨by show 1 + 1 ≤ 2 + (d + 1); omega, by show 8 + (2 + 11) + 30 ≤ 51 + (d + 1) * 21; omega⟩) (mg_200 G Z Y q20.2) rfl rfl rfl hl.1 rfl (Nat.le_of_ble_eq_true rfl) dX12_saidUnit_83 ⟨Nat.zero_le _, Nat.zero_le _⟩ rfl (fun H locs hP hD hS => ?_)
              refine lv_goto (tgt := 103) hx hb dX12_saidUnit_86 (by decide) ?_
              refine lv_aload_n hx hb dX12_saidUnit_103 rfl (lv_at hl 1 rfl) ?_
              refine lv_dup hx hb dX12_saidUnit_104 rfl ?_
              refine va_get (D := D) (ci := 12) (v := .int (q22.2.1 200 8)) (C := RX12) (T := TX12) (N := 59) hx hb hts inU_X12 hown hK hP _ (mg_200 G Z Y q22.2) rfl 8 (by decide) (hts _ wd_1256) (fun _ h9 => h9) rfl dX12_saidUnit_105 ?_
              refine lv_iconst (v := 1) hx hb dX12_saidUnit_108 (by decide) ?_
              refine lv_isub hx hb dX12_saidUnit_109 ?_
              refine va_put (D := D) (ci := 12) (v := .int ((q22.2.1 200 8) - (1 : Int32))) (ty := .int) (C := RX12) (T := TX12) (N := 59) hx hb hts inU_X12 tyX12 tyX12_ok nmX12 hown hK hP hD hS _ (mg_200 G Z Y q22.2) rfl 8 (by decide) (hts _ wd_1256) (fun _ h9 => h9) rfl (by decide +kernel) rfl rfl (Nat.le_of_ble_eq_true rfl) dX12_saidUnit_110 (fun H locs hP hD hS => ?_)
              have hP := wrP (mp_200_8 G Z Y q22.2 ((q22.2.1 200 8) - (1 : Int32))) hP
              have hD := wrD (mp_200_8 G Z Y q22.2 ((q22.2.1 200 8) - (1 : Int32))) hD
              obtain rfl := Option.some.inj h
              exact W.vret hx hb hr (q_end hK hP hD hS) hS.2.2 dX12_saidUnit_113
        · skip
          have h := f_t c15 h
          obtain rfl := Option.some.inj h
          exact W.vret hx hb hr (q_end hK hP hD hS) hS.2.2 dX12_saidUnit_61
      · skip
        have h := f_f c13 h
        refine lv_aload_n hx hb dX12_saidUnit_48 rfl (lv_at hl 1 rfl) ?_
        obtain ⟨q23, hq23, h⟩ := f_b h
        refine cl_V (w := (mW G Z Y q1.2)) (w' := (mW G Z Y q23.2)) (rv := some (.int q23.1)) (bytes := cX12_fails) (maxL := 1) (ret := (some .boolean)) (C := RX12) (As := []) (rest := []) (stk := [.int q23.1]) ⟨hx, hb, hml, hown, hts⟩ hK hE hA hP hD hS (c_X12_fails l D G Z Y q1.2 q23 hq23) (cwV 0 hts (gwV wd_1477 wd_1479 wp_54 wd_11 wd_1480) rfl rfl rfl hd_X12_fails ⟨by show 0 + 1 ≤ 2 + (d + 1); omega, by show 8 + (1 + 11) + 0 ≤ 51 + (d + 1) * 21; omega⟩) (mg_200 G Z Y q1.2) rfl rfl rfl hl.1 rfl (Nat.le_of_ble_eq_true rfl) dX12_saidUnit_49 ⟨Nat.zero_le _, Nat.zero_le _⟩ rfl (fun H locs hP hD hS => ?_)
        refine lv_pop hx hb dX12_saidUnit_52 rfl ?_
        obtain rfl := Option.some.inj h
        exact W.vret hx hb hr (q_end hK hP hD hS) hS.2.2 dX12_saidUnit_53
  · skip
    have h := f_f c2 h
    refine lv_iload_n hx hb dX12_saidUnit_11 rfl (lv_at hl 0 rfl) ?_
    refine lv_bipush (v := 102) hx hb dX12_saidUnit_12 (by decide) ?_
    refine lv_icmp_gt (tgt := 36) hx hb dX12_saidUnit_14 (by decide) (fun c24 => ?_) (fun c24 => ?_)
    · skip
      have h := f_t c24 h
      refine lv_iload_n hx hb dX12_saidUnit_36 rfl (lv_at hl 0 rfl) ?_
      refine lv_bipush (v := 33) hx hb dX12_saidUnit_37 (by decide) ?_
      refine lv_icmp_eq (tgt := 54) hx hb dX12_saidUnit_39 (by decide) (fun c25 => ?_) (fun c25 => ?_)
      · skip
        have h := f_t c25 h
        refine lv_aload_n hx hb dX12_saidUnit_54 rfl (lv_at hl 1 rfl) ?_
        obtain ⟨q26, hq26, h⟩ := f_b h
        refine cl_V (w := (mW G Z Y q1.2)) (w' := (mW G Z Y q26.2)) (rv := some (.int q26.1)) (bytes := cX12_goesIn) (maxL := 1) (ret := (some .boolean)) (C := RX12) (As := []) (rest := []) (stk := [.int q26.1]) ⟨hx, hb, hml, hown, hts⟩ hK hE hA hP hD hS (c_X12_goesIn l D G Z Y q1.2 q26 hq26) (cwV 0 hts (gwV wd_1481 wd_1483 wp_55 wd_11 wd_1484) rfl rfl rfl hd_X12_goesIn ⟨by show 1 + 1 ≤ 2 + (d + 1); omega, by show 8 + (1 + 11) + 20 ≤ 51 + (d + 1) * 21; omega⟩) (mg_200 G Z Y q1.2) rfl rfl rfl hl.1 rfl (Nat.le_of_ble_eq_true rfl) dX12_saidUnit_55 ⟨Nat.zero_le _, Nat.zero_le _⟩ rfl (fun H locs hP hD hS => ?_)
        refine lv_if_ne (tgt := 62) hx hb dX12_saidUnit_58 (by decide) (fun c27 => ?_) (fun c27 => ?_)
        · skip
          have h := f_f c27 h
          refine lv_iload_n hx hb dX12_saidUnit_62 rfl (lv_at hl 0 rfl) ?_
          refine lv_bipush (v := 33) hx hb dX12_saidUnit_63 (by decide) ?_
          refine lv_icmp_ne (tgt := 89) hx hb dX12_saidUnit_65 (by decide) (fun c28 => ?_) (fun c28 => ?_)
          · skip
            have h := f_f c28 h
            refine lv_aload_n hx hb dX12_saidUnit_89 rfl (lv_at hl 1 rfl) ?_
            obtain ⟨q29, hq29, h⟩ := f_b h
            refine cl_V (w := (mW G Z Y q26.2)) (w' := (mW G Z Y q29.2)) (rv := none) (bytes := cX12_ors) (maxL := 1) (ret := none) (C := RX12) (As := []) (rest := []) (stk := []) ⟨hx, hb, hml, hown, hts⟩ hK hE hA hP hD hS (hu_X12_ors q26.2 q29 hq29) (cwV 0 hts (gwV wd_1456 wd_1458 wp_49 wd_11 wd_1459) rfl rfl rfl hd_X12_ors ⟨by show 2 + d + 1 ≤ 2 + (d + 1); omega, by show 8 + (1 + 11) + (51 + d * 21) ≤ 51 + (d + 1) * 21; omega⟩) (mg_200 G Z Y q26.2) rfl rfl rfl hl.1 rfl (Nat.le_of_ble_eq_true rfl) dX12_saidUnit_90 ⟨Nat.zero_le _, Nat.zero_le _⟩ rfl (fun H locs hP hD hS => ?_)
            refine lv_aload_n hx hb dX12_saidUnit_93 rfl (lv_at hl 1 rfl) ?_
            refine lv_bipush (v := 41) hx hb dX12_saidUnit_94 (by decide) ?_
            obtain ⟨q30, hq30, h⟩ := f_b h
            refine cl_V (w := (mW G Z Y q29.2)) (w' := (mW G Z Y q30.2)) (rv := some (.int q30.1)) (bytes := cX12_takes) (maxL := 2) (ret := (some .boolean)) (C := RX12) (As := [.int (41 : Int32)]) (rest := []) (stk := [.int q30.1]) ⟨hx, hb, hml, hown, hts⟩ hK hE hA hP hD hS (c_X12_takes l D G Z Y q29.2 F (41 : Int32) q30 hq30) (cwV 1 hts (gwV wd_1485 wd_1487 wp_56 wd_11 wd_1488) rfl rfl rfl hd_X12_takes ⟨by show 1 + 1 ≤ 2 + (d + 1); omega, by show 8 + (2 + 11) + 20 ≤ 51 + (d + 1) * 21; omega⟩) (mg_200 G Z Y q29.2) rfl rfl rfl hl.1 rfl (Nat.le_of_ble_eq_true rfl) dX12_saidUnit_96 ⟨Nat.zero_le _, Nat.zero_le _⟩ rfl (fun H locs hP hD hS => ?_)
            refine lv_if_ne (tgt := 103) hx hb dX12_saidUnit_99 (by decide) (fun c31 => ?_) (fun c31 => ?_)
            · skip
              have h := f_f c31 h
              refine lv_aload_n hx hb dX12_saidUnit_103 rfl (lv_at hl 1 rfl) ?_
              refine lv_dup hx hb dX12_saidUnit_104 rfl ?_
              refine va_get (D := D) (ci := 12) (v := .int (q30.2.1 200 8)) (C := RX12) (T := TX12) (N := 59) hx hb hts inU_X12 hown hK hP _ (mg_200 G Z Y q30.2) rfl 8 (by decide) (hts _ wd_1256) (fun _ h9 => h9) rfl dX12_saidUnit_105 ?_
              refine lv_iconst (v := 1) hx hb dX12_saidUnit_108 (by decide) ?_
              refine lv_isub hx hb dX12_saidUnit_109 ?_
              refine va_put (D := D) (ci := 12) (v := .int ((q30.2.1 200 8) - (1 : Int32))) (ty := .int) (C := RX12) (T := TX12) (N := 59) hx hb hts inU_X12 tyX12 tyX12_ok nmX12 hown hK hP hD hS _ (mg_200 G Z Y q30.2) rfl 8 (by decide) (hts _ wd_1256) (fun _ h9 => h9) rfl (by decide +kernel) rfl rfl (Nat.le_of_ble_eq_true rfl) dX12_saidUnit_110 (fun H locs hP hD hS => ?_)
              have hP := wrP (mp_200_8 G Z Y q30.2 ((q30.2.1 200 8) - (1 : Int32))) hP
              have hD := wrD (mp_200_8 G Z Y q30.2 ((q30.2.1 200 8) - (1 : Int32))) hD
              obtain rfl := Option.some.inj h
              exact W.vret hx hb hr (q_end hK hP hD hS) hS.2.2 dX12_saidUnit_113
            · skip
              have h := f_t c31 h
              obtain rfl := Option.some.inj h
              exact W.vret hx hb hr (q_end hK hP hD hS) hS.2.2 dX12_saidUnit_102
          · skip
            have h := f_t c28 h
            refine lv_aload_n hx hb dX12_saidUnit_68 rfl (lv_at hl 1 rfl) ?_
            obtain ⟨q32, hq32, h⟩ := f_b h
            refine cl_V (w := (mW G Z Y q26.2)) (w' := (mW G Z Y q32.2)) (rv := none) (bytes := cX12_saidUnit) (maxL := 2) (ret := none) (C := RX12) (As := []) (rest := []) (stk := []) ⟨hx, hb, hml, hown, hts⟩ hK hE hA hP hD hS (hu_X12_saidUnit q26.2 q32 hq32) (cwV 0 hts (gwV wd_1464 wd_1466 wp_51 wd_11 wd_1467) rfl rfl rfl hd_X12_saidUnit ⟨by show 2 + d + 1 ≤ 2 + (d + 1); omega, by show 8 + (2 + 11) + (51 + d * 21) ≤ 51 + (d + 1) * 21; omega⟩) (mg_200 G Z Y q26.2) rfl rfl rfl hl.1 rfl (Nat.le_of_ble_eq_true rfl) dX12_saidUnit_69 ⟨Nat.zero_le _, Nat.zero_le _⟩ rfl (fun H locs hP hD hS => ?_)
            refine lv_aload_n hx hb dX12_saidUnit_72 rfl (lv_at hl 1 rfl) ?_
            refine va_get (D := D) (ci := 12) (v := .int (q32.2.1 200 7)) (C := RX12) (T := TX12) (N := 59) hx hb hts inU_X12 hown hK hP _ (mg_200 G Z Y q32.2) rfl 7 (by decide) (hts _ wd_1255) (fun _ h9 => h9) rfl dX12_saidUnit_73 ?_
            refine lv_iconst (v := (-1)) hx hb dX12_saidUnit_76 (by decide) ?_
            refine lv_icmp_ne (tgt := 103) hx hb dX12_saidUnit_77 (by decide) (fun c33 => ?_) (fun c33 => ?_)
            · skip
              have h := f_f c33 h
              refine lv_aload_n hx hb dX12_saidUnit_103 rfl (lv_at hl 1 rfl) ?_
              refine lv_dup hx hb dX12_saidUnit_104 rfl ?_
              refine va_get (D := D) (ci := 12) (v := .int (q32.2.1 200 8)) (C := RX12) (T := TX12) (N := 59) hx hb hts inU_X12 hown hK hP _ (mg_200 G Z Y q32.2) rfl 8 (by decide) (hts _ wd_1256) (fun _ h9 => h9) rfl dX12_saidUnit_105 ?_
              refine lv_iconst (v := 1) hx hb dX12_saidUnit_108 (by decide) ?_
              refine lv_isub hx hb dX12_saidUnit_109 ?_
              refine va_put (D := D) (ci := 12) (v := .int ((q32.2.1 200 8) - (1 : Int32))) (ty := .int) (C := RX12) (T := TX12) (N := 59) hx hb hts inU_X12 tyX12 tyX12_ok nmX12 hown hK hP hD hS _ (mg_200 G Z Y q32.2) rfl 8 (by decide) (hts _ wd_1256) (fun _ h9 => h9) rfl (by decide +kernel) rfl rfl (Nat.le_of_ble_eq_true rfl) dX12_saidUnit_110 (fun H locs hP hD hS => ?_)
              have hP := wrP (mp_200_8 G Z Y q32.2 ((q32.2.1 200 8) - (1 : Int32))) hP
              have hD := wrD (mp_200_8 G Z Y q32.2 ((q32.2.1 200 8) - (1 : Int32))) hD
              obtain rfl := Option.some.inj h
              exact W.vret hx hb hr (q_end hK hP hD hS) hS.2.2 dX12_saidUnit_113
            · skip
              have h := f_t c33 h
              refine lv_aload_n hx hb dX12_saidUnit_80 rfl (lv_at hl 1 rfl) ?_
              refine lv_bipush (v := 6) hx hb dX12_saidUnit_81 (by decide) ?_
              obtain ⟨q34, hq34, h⟩ := f_b h
              refine cl_V (w := (mW G Z Y q32.2)) (w' := (mW G Z Y q34.2)) (rv := none) (bytes := cX12_sign) (maxL := 2) (ret := none) (C := RX12) (As := [.int (6 : Int32)]) (rest := []) (stk := []) ⟨hx, hb, hml, hown, hts⟩ hK hE hA hP hD hS (c_X12_sign l D G Z Y q32.2 (6 : Int32) q34 hq34) (cwV 1 hts (gwV wd_1472 wd_1474 wp_53 wd_11 wd_1475) rfl rfl rfl hd_X12_sign ⟨by show 1 + 1 ≤ 2 + (d + 1); omega, by show 8 + (2 + 11) + 30 ≤ 51 + (d + 1) * 21; omega⟩) (mg_200 G Z Y q32.2) rfl rfl rfl hl.1 rfl (Nat.le_of_ble_eq_true rfl) dX12_saidUnit_83 ⟨Nat.zero_le _, Nat.zero_le _⟩ rfl (fun H locs hP hD hS => ?_)
              refine lv_goto (tgt := 103) hx hb dX12_saidUnit_86 (by decide) ?_
              refine lv_aload_n hx hb dX12_saidUnit_103 rfl (lv_at hl 1 rfl) ?_
              refine lv_dup hx hb dX12_saidUnit_104 rfl ?_
              refine va_get (D := D) (ci := 12) (v := .int (q34.2.1 200 8)) (C := RX12) (T := TX12) (N := 59) hx hb hts inU_X12 hown hK hP _ (mg_200 G Z Y q34.2) rfl 8 (by decide) (hts _ wd_1256) (fun _ h9 => h9) rfl dX12_saidUnit_105 ?_
              refine lv_iconst (v := 1) hx hb dX12_saidUnit_108 (by decide) ?_
              refine lv_isub hx hb dX12_saidUnit_109 ?_
              refine va_put (D := D) (ci := 12) (v := .int ((q34.2.1 200 8) - (1 : Int32))) (ty := .int) (C := RX12) (T := TX12) (N := 59) hx hb hts inU_X12 tyX12 tyX12_ok nmX12 hown hK hP hD hS _ (mg_200 G Z Y q34.2) rfl 8 (by decide) (hts _ wd_1256) (fun _ h9 => h9) rfl (by decide +kernel) rfl rfl (Nat.le_of_ble_eq_true rfl) dX12_saidUnit_110 (fun H locs hP hD hS => ?_)
              have hP := wrP (mp_200_8 G Z Y q34.2 ((q34.2.1 200 8) - (1 : Int32))) hP
              have hD := wrD (mp_200_8 G Z Y q34.2 ((q34.2.1 200 8) - (1 : Int32))) hD
              obtain rfl := Option.some.inj h
              exact W.vret hx hb hr (q_end hK hP hD hS) hS.2.2 dX12_saidUnit_113
        · skip
          have h := f_t c27 h
          obtain rfl := Option.some.inj h
          exact W.vret hx hb hr (q_end hK hP hD hS) hS.2.2 dX12_saidUnit_61
      · skip
        have h := f_f c25 h
        refine lv_iload_n hx hb dX12_saidUnit_42 rfl (lv_at hl 0 rfl) ?_
        refine lv_bipush (v := 40) hx hb dX12_saidUnit_43 (by decide) ?_
        refine lv_icmp_eq (tgt := 54) hx hb dX12_saidUnit_45 (by decide) (fun c35 => ?_) (fun c35 => ?_)
        · skip
          have h := f_t c35 h
          refine lv_aload_n hx hb dX12_saidUnit_54 rfl (lv_at hl 1 rfl) ?_
          obtain ⟨q36, hq36, h⟩ := f_b h
          refine cl_V (w := (mW G Z Y q1.2)) (w' := (mW G Z Y q36.2)) (rv := some (.int q36.1)) (bytes := cX12_goesIn) (maxL := 1) (ret := (some .boolean)) (C := RX12) (As := []) (rest := []) (stk := [.int q36.1]) ⟨hx, hb, hml, hown, hts⟩ hK hE hA hP hD hS (c_X12_goesIn l D G Z Y q1.2 q36 hq36) (cwV 0 hts (gwV wd_1481 wd_1483 wp_55 wd_11 wd_1484) rfl rfl rfl hd_X12_goesIn ⟨by show 1 + 1 ≤ 2 + (d + 1); omega, by show 8 + (1 + 11) + 20 ≤ 51 + (d + 1) * 21; omega⟩) (mg_200 G Z Y q1.2) rfl rfl rfl hl.1 rfl (Nat.le_of_ble_eq_true rfl) dX12_saidUnit_55 ⟨Nat.zero_le _, Nat.zero_le _⟩ rfl (fun H locs hP hD hS => ?_)
          refine lv_if_ne (tgt := 62) hx hb dX12_saidUnit_58 (by decide) (fun c37 => ?_) (fun c37 => ?_)
          · skip
            have h := f_f c37 h
            refine lv_iload_n hx hb dX12_saidUnit_62 rfl (lv_at hl 0 rfl) ?_
            refine lv_bipush (v := 33) hx hb dX12_saidUnit_63 (by decide) ?_
            refine lv_icmp_ne (tgt := 89) hx hb dX12_saidUnit_65 (by decide) (fun c38 => ?_) (fun c38 => ?_)
            · skip
              have h := f_f c38 h
              refine lv_aload_n hx hb dX12_saidUnit_89 rfl (lv_at hl 1 rfl) ?_
              obtain ⟨q39, hq39, h⟩ := f_b h
              refine cl_V (w := (mW G Z Y q36.2)) (w' := (mW G Z Y q39.2)) (rv := none) (bytes := cX12_ors) (maxL := 1) (ret := none) (C := RX12) (As := []) (rest := []) (stk := []) ⟨hx, hb, hml, hown, hts⟩ hK hE hA hP hD hS (hu_X12_ors q36.2 q39 hq39) (cwV 0 hts (gwV wd_1456 wd_1458 wp_49 wd_11 wd_1459) rfl rfl rfl hd_X12_ors ⟨by show 2 + d + 1 ≤ 2 + (d + 1); omega, by show 8 + (1 + 11) + (51 + d * 21) ≤ 51 + (d + 1) * 21; omega⟩) (mg_200 G Z Y q36.2) rfl rfl rfl hl.1 rfl (Nat.le_of_ble_eq_true rfl) dX12_saidUnit_90 ⟨Nat.zero_le _, Nat.zero_le _⟩ rfl (fun H locs hP hD hS => ?_)
              refine lv_aload_n hx hb dX12_saidUnit_93 rfl (lv_at hl 1 rfl) ?_
              refine lv_bipush (v := 41) hx hb dX12_saidUnit_94 (by decide) ?_
              obtain ⟨q40, hq40, h⟩ := f_b h
              refine cl_V (w := (mW G Z Y q39.2)) (w' := (mW G Z Y q40.2)) (rv := some (.int q40.1)) (bytes := cX12_takes) (maxL := 2) (ret := (some .boolean)) (C := RX12) (As := [.int (41 : Int32)]) (rest := []) (stk := [.int q40.1]) ⟨hx, hb, hml, hown, hts⟩ hK hE hA hP hD hS (c_X12_takes l D G Z Y q39.2 F (41 : Int32) q40 hq40) (cwV 1 hts (gwV wd_1485 wd_1487 wp_56 wd_11 wd_1488) rfl rfl rfl hd_X12_takes ⟨by show 1 + 1 ≤ 2 + (d + 1); omega, by show 8 + (2 + 11) + 20 ≤ 51 + (d + 1) * 21; omega⟩) (mg_200 G Z Y q39.2) rfl rfl rfl hl.1 rfl (Nat.le_of_ble_eq_true rfl) dX12_saidUnit_96 ⟨Nat.zero_le _, Nat.zero_le _⟩ rfl (fun H locs hP hD hS => ?_)
              refine lv_if_ne (tgt := 103) hx hb dX12_saidUnit_99 (by decide) (fun c41 => ?_) (fun c41 => ?_)
              · skip
                have h := f_f c41 h
                refine lv_aload_n hx hb dX12_saidUnit_103 rfl (lv_at hl 1 rfl) ?_
                refine lv_dup hx hb dX12_saidUnit_104 rfl ?_
                refine va_get (D := D) (ci := 12) (v := .int (q40.2.1 200 8)) (C := RX12) (T := TX12) (N := 59) hx hb hts inU_X12 hown hK hP _ (mg_200 G Z Y q40.2) rfl 8 (by decide) (hts _ wd_1256) (fun _ h9 => h9) rfl dX12_saidUnit_105 ?_
                refine lv_iconst (v := 1) hx hb dX12_saidUnit_108 (by decide) ?_
                refine lv_isub hx hb dX12_saidUnit_109 ?_
                refine va_put (D := D) (ci := 12) (v := .int ((q40.2.1 200 8) - (1 : Int32))) (ty := .int) (C := RX12) (T := TX12) (N := 59) hx hb hts inU_X12 tyX12 tyX12_ok nmX12 hown hK hP hD hS _ (mg_200 G Z Y q40.2) rfl 8 (by decide) (hts _ wd_1256) (fun _ h9 => h9) rfl (by decide +kernel) rfl rfl (Nat.le_of_ble_eq_true rfl) dX12_saidUnit_110 (fun H locs hP hD hS => ?_)
                have hP := wrP (mp_200_8 G Z Y q40.2 ((q40.2.1 200 8) - (1 : Int32))) hP
                have hD := wrD (mp_200_8 G Z Y q40.2 ((q40.2.1 200 8) - (1 : Int32))) hD
                obtain rfl := Option.some.inj h
                exact W.vret hx hb hr (q_end hK hP hD hS) hS.2.2 dX12_saidUnit_113
              · skip
                have h := f_t c41 h
                obtain rfl := Option.some.inj h
                exact W.vret hx hb hr (q_end hK hP hD hS) hS.2.2 dX12_saidUnit_102
            · skip
              have h := f_t c38 h
              refine lv_aload_n hx hb dX12_saidUnit_68 rfl (lv_at hl 1 rfl) ?_
              obtain ⟨q42, hq42, h⟩ := f_b h
              refine cl_V (w := (mW G Z Y q36.2)) (w' := (mW G Z Y q42.2)) (rv := none) (bytes := cX12_saidUnit) (maxL := 2) (ret := none) (C := RX12) (As := []) (rest := []) (stk := []) ⟨hx, hb, hml, hown, hts⟩ hK hE hA hP hD hS (hu_X12_saidUnit q36.2 q42 hq42) (cwV 0 hts (gwV wd_1464 wd_1466 wp_51 wd_11 wd_1467) rfl rfl rfl hd_X12_saidUnit ⟨by show 2 + d + 1 ≤ 2 + (d + 1); omega, by show 8 + (2 + 11) + (51 + d * 21) ≤ 51 + (d + 1) * 21; omega⟩) (mg_200 G Z Y q36.2) rfl rfl rfl hl.1 rfl (Nat.le_of_ble_eq_true rfl) dX12_saidUnit_69 ⟨Nat.zero_le _, Nat.zero_le _⟩ rfl (fun H locs hP hD hS => ?_)
              refine lv_aload_n hx hb dX12_saidUnit_72 rfl (lv_at hl 1 rfl) ?_
              refine va_get (D := D) (ci := 12) (v := .int (q42.2.1 200 7)) (C := RX12) (T := TX12) (N := 59) hx hb hts inU_X12 hown hK hP _ (mg_200 G Z Y q42.2) rfl 7 (by decide) (hts _ wd_1255) (fun _ h9 => h9) rfl dX12_saidUnit_73 ?_
              refine lv_iconst (v := (-1)) hx hb dX12_saidUnit_76 (by decide) ?_
              refine lv_icmp_ne (tgt := 103) hx hb dX12_saidUnit_77 (by decide) (fun c43 => ?_) (fun c43 => ?_)
              · skip
                have h := f_f c43 h
                refine lv_aload_n hx hb dX12_saidUnit_103 rfl (lv_at hl 1 rfl) ?_
                refine lv_dup hx hb dX12_saidUnit_104 rfl ?_
                refine va_get (D := D) (ci := 12) (v := .int (q42.2.1 200 8)) (C := RX12) (T := TX12) (N := 59) hx hb hts inU_X12 hown hK hP _ (mg_200 G Z Y q42.2) rfl 8 (by decide) (hts _ wd_1256) (fun _ h9 => h9) rfl dX12_saidUnit_105 ?_
                refine lv_iconst (v := 1) hx hb dX12_saidUnit_108 (by decide) ?_
                refine lv_isub hx hb dX12_saidUnit_109 ?_
                refine va_put (D := D) (ci := 12) (v := .int ((q42.2.1 200 8) - (1 : Int32))) (ty := .int) (C := RX12) (T := TX12) (N := 59) hx hb hts inU_X12 tyX12 tyX12_ok nmX12 hown hK hP hD hS _ (mg_200 G Z Y q42.2) rfl 8 (by decide) (hts _ wd_1256) (fun _ h9 => h9) rfl (by decide +kernel) rfl rfl (Nat.le_of_ble_eq_true rfl) dX12_saidUnit_110 (fun H locs hP hD hS => ?_)
                have hP := wrP (mp_200_8 G Z Y q42.2 ((q42.2.1 200 8) - (1 : Int32))) hP
                have hD := wrD (mp_200_8 G Z Y q42.2 ((q42.2.1 200 8) - (1 : Int32))) hD
                obtain rfl := Option.some.inj h
                exact W.vret hx hb hr (q_end hK hP hD hS) hS.2.2 dX12_saidUnit_113
              · skip
                have h := f_t c43 h
                refine lv_aload_n hx hb dX12_saidUnit_80 rfl (lv_at hl 1 rfl) ?_
                refine lv_bipush (v := 6) hx hb dX12_saidUnit_81 (by decide) ?_
                obtain ⟨q44, hq44, h⟩ := f_b h
                refine cl_V (w := (mW G Z Y q42.2)) (w' := (mW G Z Y q44.2)) (rv := none) (bytes := cX12_sign) (maxL := 2) (ret := none) (C := RX12) (As := [.int (6 : Int32)]) (rest := []) (stk := []) ⟨hx, hb, hml, hown, hts⟩ hK hE hA hP hD hS (c_X12_sign l D G Z Y q42.2 (6 : Int32) q44 hq44) (cwV 1 hts (gwV wd_1472 wd_1474 wp_53 wd_11 wd_1475) rfl rfl rfl hd_X12_sign ⟨by show 1 + 1 ≤ 2 + (d + 1); omega, by show 8 + (2 + 11) + 30 ≤ 51 + (d + 1) * 21; omega⟩) (mg_200 G Z Y q42.2) rfl rfl rfl hl.1 rfl (Nat.le_of_ble_eq_true rfl) dX12_saidUnit_83 ⟨Nat.zero_le _, Nat.zero_le _⟩ rfl (fun H locs hP hD hS => ?_)
                refine lv_goto (tgt := 103) hx hb dX12_saidUnit_86 (by decide) ?_
                refine lv_aload_n hx hb dX12_saidUnit_103 rfl (lv_at hl 1 rfl) ?_
                refine lv_dup hx hb dX12_saidUnit_104 rfl ?_
                refine va_get (D := D) (ci := 12) (v := .int (q44.2.1 200 8)) (C := RX12) (T := TX12) (N := 59) hx hb hts inU_X12 hown hK hP _ (mg_200 G Z Y q44.2) rfl 8 (by decide) (hts _ wd_1256) (fun _ h9 => h9) rfl dX12_saidUnit_105 ?_
                refine lv_iconst (v := 1) hx hb dX12_saidUnit_108 (by decide) ?_
                refine lv_isub hx hb dX12_saidUnit_109 ?_
                refine va_put (D := D) (ci := 12) (v := .int ((q44.2.1 200 8) - (1 : Int32))) (ty := .int) (C := RX12) (T := TX12) (N := 59) hx hb hts inU_X12 tyX12 tyX12_ok nmX12 hown hK hP hD hS _ (mg_200 G Z Y q44.2) rfl 8 (by decide) (hts _ wd_1256) (fun _ h9 => h9) rfl (by decide +kernel) rfl rfl (Nat.le_of_ble_eq_true rfl) dX12_saidUnit_110 (fun H locs hP hD hS => ?_)
                have hP := wrP (mp_200_8 G Z Y q44.2 ((q44.2.1 200 8) - (1 : Int32))) hP
                have hD := wrD (mp_200_8 G Z Y q44.2 ((q44.2.1 200 8) - (1 : Int32))) hD
                obtain rfl := Option.some.inj h
                exact W.vret hx hb hr (q_end hK hP hD hS) hS.2.2 dX12_saidUnit_113
          · skip
            have h := f_t c37 h
            obtain rfl := Option.some.inj h
            exact W.vret hx hb hr (q_end hK hP hD hS) hS.2.2 dX12_saidUnit_61
        · skip
          have h := f_f c35 h
          refine lv_aload_n hx hb dX12_saidUnit_48 rfl (lv_at hl 1 rfl) ?_
          obtain ⟨q45, hq45, h⟩ := f_b h
          refine cl_V (w := (mW G Z Y q1.2)) (w' := (mW G Z Y q45.2)) (rv := some (.int q45.1)) (bytes := cX12_fails) (maxL := 1) (ret := (some .boolean)) (C := RX12) (As := []) (rest := []) (stk := [.int q45.1]) ⟨hx, hb, hml, hown, hts⟩ hK hE hA hP hD hS (c_X12_fails l D G Z Y q1.2 q45 hq45) (cwV 0 hts (gwV wd_1477 wd_1479 wp_54 wd_11 wd_1480) rfl rfl rfl hd_X12_fails ⟨by show 0 + 1 ≤ 2 + (d + 1); omega, by show 8 + (1 + 11) + 0 ≤ 51 + (d + 1) * 21; omega⟩) (mg_200 G Z Y q1.2) rfl rfl rfl hl.1 rfl (Nat.le_of_ble_eq_true rfl) dX12_saidUnit_49 ⟨Nat.zero_le _, Nat.zero_le _⟩ rfl (fun H locs hP hD hS => ?_)
          refine lv_pop hx hb dX12_saidUnit_52 rfl ?_
          obtain rfl := Option.some.inj h
          exact W.vret hx hb hr (q_end hK hP hD hS) hS.2.2 dX12_saidUnit_53
    · skip
      have h := f_f c24 h
      refine lv_aload_n hx hb dX12_saidUnit_17 rfl (lv_at hl 1 rfl) ?_
      refine lv_dup hx hb dX12_saidUnit_18 rfl ?_
      refine va_get (D := D) (ci := 12) (v := .int (q1.2.1 200 6)) (C := RX12) (T := TX12) (N := 59) hx hb hts inU_X12 hown hK hP _ (mg_200 G Z Y q1.2) rfl 6 (by decide) (hts _ wd_1254) (fun _ h9 => h9) rfl dX12_saidUnit_19 ?_
      refine lv_iconst (v := 1) hx hb dX12_saidUnit_22 (by decide) ?_
      refine lv_iadd hx hb dX12_saidUnit_23 ?_
      refine va_put (D := D) (ci := 12) (v := .int ((q1.2.1 200 6) + (1 : Int32))) (ty := .int) (C := RX12) (T := TX12) (N := 59) hx hb hts inU_X12 tyX12 tyX12_ok nmX12 hown hK hP hD hS _ (mg_200 G Z Y q1.2) rfl 6 (by decide) (hts _ wd_1254) (fun _ h9 => h9) rfl (by decide +kernel) rfl rfl (Nat.le_of_ble_eq_true rfl) dX12_saidUnit_24 (fun H locs hP hD hS => ?_)
      have hP := wrP (mp_200_6 G Z Y q1.2 ((q1.2.1 200 6) + (1 : Int32))) hP
      have hD := wrD (mp_200_6 G Z Y q1.2 ((q1.2.1 200 6) + (1 : Int32))) hD
      refine lv_aload_n hx hb dX12_saidUnit_27 rfl (lv_at hl 1 rfl) ?_
      refine lv_iload_n hx hb dX12_saidUnit_28 rfl (lv_at hl 0 rfl) ?_
      refine lv_bipush (v := 97) hx hb dX12_saidUnit_29 (by decide) ?_
      refine lv_isub hx hb dX12_saidUnit_31 ?_
      obtain ⟨q46, hq46, h⟩ := f_b h
      refine cl_V (w := (mW G Z Y (sI q1.2 200 6 ((q1.2.1 200 6) + (1 : Int32))))) (w' := (mW G Z Y q46.2)) (rv := none) (bytes := cX12_sign) (maxL := 2) (ret := none) (C := RX12) (As := [.int (q1.1 - (97 : Int32))]) (rest := []) (stk := []) ⟨hx, hb, hml, hown, hts⟩ hK hE hA hP hD hS (c_X12_sign l D G Z Y (sI q1.2 200 6 ((q1.2.1 200 6) + (1 : Int32))) (q1.1 - (97 : Int32)) q46 hq46) (cwV 1 hts (gwV wd_1472 wd_1474 wp_53 wd_11 wd_1475) rfl rfl rfl hd_X12_sign ⟨by show 1 + 1 ≤ 2 + (d + 1); omega, by show 8 + (2 + 11) + 30 ≤ 51 + (d + 1) * 21; omega⟩) (mg_200 G Z Y (sI q1.2 200 6 ((q1.2.1 200 6) + (1 : Int32)))) rfl rfl rfl hl.1 rfl (Nat.le_of_ble_eq_true rfl) dX12_saidUnit_32 ⟨Nat.zero_le _, Nat.zero_le _⟩ rfl (fun H locs hP hD hS => ?_)
      obtain rfl := Option.some.inj h
      exact W.vret hx hb hr (q_end hK hP hD hS) hS.2.2 dX12_saidUnit_35
set_option maxRecDepth 100000 in
set_option maxHeartbeats 8000000 in
theorem c_G_Mo (l : Launch) (D : va_G) (G : hG) (Z : hZ) (Y : va_W) (F : Nat) : ∀ d : Nat, (∀ (σ0 : hSt) (res : (Unit × hSt)), (G_Mo F Z d).1 σ0  = some res → CT l yX12_ors cX12_ors 1 none (rmG_Mo d) D G 0 0 [.ref (G.2.1 200)] (mW G Z Y σ0) (mW G Z Y res.2) none) ∧ (∀ (σ0 : hSt) (res : (Unit × hSt)), (G_Mo F Z d).2.1 σ0  = some res → CT l yX12_ands cX12_ands 1 none (rmG_Mo d) D G 0 0 [.ref (G.2.1 200)] (mW G Z Y σ0) (mW G Z Y res.2) none) ∧ (∀ (σ0 : hSt) (res : (Unit × hSt)), (G_Mo F Z d).2.2 σ0  = some res → CT l yX12_saidUnit cX12_saidUnit 2 none (rmG_Mo d) D G 0 0 [.ref (G.2.1 200)] (mW G Z Y σ0) (mW G Z Y res.2) none) := by
  intro d
  induction d with
  | zero =>
    refine ⟨?_, ?_, ?_⟩
    · exact fun σ0 res h => by
        have h1 : (none : Option (Unit × hSt)) = some res := h
        cases h1
    · exact fun σ0 res h => by
        have h1 : (none : Option (Unit × hSt)) = some res := h
        cases h1
    · exact fun σ0 res h => by
        have h1 : (none : Option (Unit × hSt)) = some res := h
        cases h1
  | succ d ih =>
    obtain ⟨i_X12_ors, i_X12_ands, i_X12_saidUnit⟩ := ih
    refine ⟨?_, ?_, ?_⟩
    · exact fun σ0 res h => o_X12_ors l D G Z Y F d _ i_X12_ands σ0 res h
    · exact fun σ0 res h => o_X12_ands l D G Z Y F d _ i_X12_saidUnit σ0 res h
    · exact fun σ0 res h => o_X12_saidUnit l D G Z Y F d _ i_X12_ors _ i_X12_saidUnit σ0 res h
abbrev rm_X12_ors : Room := rmG_Mo 40
theorem c_X12_ors (l : Launch) (D : va_G) (G : hG) (Z : hZ) (Y : va_W) (σ0 : hSt) (F : Nat) (res : (Unit × hSt)) (h : f_X12_ors F Z σ0  = some res) : CT l yX12_ors cX12_ors 1 none rm_X12_ors D G 0 0 [.ref (G.2.1 200)] (mW G Z Y σ0) (mW G Z Y res.2) none := (c_G_Mo l D G Z Y F 40).1 σ0 res h
abbrev rm_X12_ands : Room := rmG_Mo 40
theorem c_X12_ands (l : Launch) (D : va_G) (G : hG) (Z : hZ) (Y : va_W) (σ0 : hSt) (F : Nat) (res : (Unit × hSt)) (h : f_X12_ands F Z σ0  = some res) : CT l yX12_ands cX12_ands 1 none rm_X12_ands D G 0 0 [.ref (G.2.1 200)] (mW G Z Y σ0) (mW G Z Y res.2) none := (c_G_Mo l D G Z Y F 40).2.1 σ0 res h
abbrev rm_X12_saidUnit : Room := rmG_Mo 40
theorem c_X12_saidUnit (l : Launch) (D : va_G) (G : hG) (Z : hZ) (Y : va_W) (σ0 : hSt) (F : Nat) (res : (Unit × hSt)) (h : f_X12_saidUnit F Z σ0  = some res) : CT l yX12_saidUnit cX12_saidUnit 2 none rm_X12_saidUnit D G 0 0 [.ref (G.2.1 200)] (mW G Z Y σ0) (mW G Z Y res.2) none := (c_G_Mo l D G Z Y F 40).2.2 σ0 res h
abbrev rm_X12_readSaying : Room := { frames := 43, cells := 0, slots := 0, locals := 911 }
set_option maxRecDepth 100000 in
set_option maxHeartbeats 8000000 in
theorem W_X12_readSaying_L40 {p : Program} {e : Env} {s : State} {m : MethodId} {args : Array Value} {below : List Frame} {meth : Method} {c : Code} {A : Nat → Prop} (l : Launch) (D : va_G) (G : hG) (Z : hZ) (Y : va_W) (σ0 : hSt) (F : Nat) (res : (Int32 × hSt)) (C0 : Cx p s m args meth c cX12_readSaying (some .boolean) RX12 2 D G A) (hA : ∀ q : Nat, s.heap.size ≤ q → A q) (k67 : hSt → Option (Int32 × hSt)) (hk67 : ∀ (σ1 : hSt), k67 σ1 = some res → ∀ (H : Heap) (locs : List Loc) (ls : Array Slot), va_P D vwCl (mW G Z Y σ1) H → va_D A (mW G Z Y σ1) → va_S A s.heap H locs → lv_has ls 2 [(0, .ref (G.2.1 200))] → W p l e rm_X12_readSaying s m args below meth c H locs 0 0 (MQ below (Qg (some (.int res.1)) D (tysG G) (mW G Z Y res.2) A) args s 0 0 A) (F0 m 67 ls [])) : ∀ (n : Nat) (σ1 : hSt) (z1 : Int32), f_X12_readSaying_L40 k67 n σ1 z1 = some res → ∀ (H : Heap) (locs : List Loc) (ls : Array Slot), va_P D vwCl (mW G Z Y σ1) H → va_D A (mW G Z Y σ1) → va_S A s.heap H locs → lv_has ls 2 [(0, .ref (G.2.1 200)), (1, .int z1)] → W p l e rm_X12_readSaying s m args below meth c H locs 0 0 (MQ below (Qg (some (.int res.1)) D (tysG G) (mW G Z Y res.2) A) args s 0 0 A) (F0 m 40 ls []) := by
  obtain ⟨hx, hb, hr, hml, hown, hts, hlocks, hK, hE⟩ := id C0
  intro n
  induction n with
  | zero =>
    intro σ1 z1 h
    cases h
  | succ n ih =>
    intro σ1 z1 h H locs ls hP hD hS hl
    rw [f_X12_readSaying_L40] at h
    refine lv_iload_n hx hb dX12_readSaying_40 rfl (lv_at hl 1 rfl) ?_
    refine lv_bipush (v := 6) hx hb dX12_readSaying_41 (by decide) ?_
    refine lv_icmp_ge (tgt := 67) hx hb dX12_readSaying_43 (by decide) (fun c4 => ?_) (fun c4 => ?_)
    · skip
      have h := f_t c4 h
      exact hk67 σ1 h _ _ _ hP hD hS (lv_sub hl [0] rfl)
    · skip
      have h := f_f c4 h
      refine lv_aload_n hx hb dX12_readSaying_46 rfl (lv_at hl 0 rfl) ?_
      refine va_get (D := D) (ci := 12) (v := .ref (G.2.1 205)) (C := RX12) (T := TX12) (N := 59) hx hb hts inU_X12 hown hK hP _ (mg_200 G Z Y σ1) rfl 13 (by decide) (hts _ wd_1261) (fun _ h9 => h9) rfl dX12_readSaying_47 ?_
      refine lv_bipush (v := 6) hx hb dX12_readSaying_50 (by decide) ?_
      refine lv_aload_n hx hb dX12_readSaying_52 rfl (lv_at hl 0 rfl) ?_
      refine va_get (D := D) (ci := 12) (v := .int (σ1.1 200 16)) (C := RX12) (T := TX12) (N := 59) hx hb hts inU_X12 hown hK hP _ (mg_200 G Z Y σ1) rfl 16 (by decide) (hts _ wd_1264) (fun _ h9 => h9) rfl dX12_readSaying_53 ?_
      refine lv_imul hx hb dX12_readSaying_56 ?_
      refine lv_iload_n hx hb dX12_readSaying_57 rfl (lv_at hl 1 rfl) ?_
      refine lv_iadd hx hb dX12_readSaying_58 ?_
      refine lv_iconst (v := 0) hx hb dX12_readSaying_59 (by decide) ?_
      obtain ⟨c5, h⟩ := f_n h
      refine va_iast hx hb hK hP hD hS _ 0 (mg_205 G Z Y σ1) rfl c5 dX12_readSaying_60 (fun H locs hP hD hS => ?_)
      have hP := wrP (mp_205 G Z Y σ1 _ _) hP
      have hD := wrD (mp_205 G Z Y σ1 _ _) hD
      refine lv_iinc (v := (z1 + 1)) (lv' := [(1, .int (z1 + 1)), (0, .ref (G.2.1 200))]) hx hb dX12_readSaying_61 hl (k := 1) rfl rfl (by decide) rfl (fun ls hl => ?_)
      refine lv_goto (tgt := 40) hx hb dX12_readSaying_64 (by decide) ?_
      exact ih (sI σ1 205 (((((6 : Int32) * (σ1.1 200 16)) + z1) : Int32).toNatClampNeg) (0 : Int32)) (z1 + 1) h _ _ _ hP hD hS (lv_sub hl [1, 0] rfl)
set_option maxRecDepth 100000 in
set_option maxHeartbeats 8000000 in
theorem c_X12_readSaying (l : Launch) (D : va_G) (G : hG) (Z : hZ) (Y : va_W) (σ0 : hSt) (F : Nat) (res : (Int32 × hSt)) (h : f_X12_readSaying F Z σ0 = some res) : CT l yX12_readSaying cX12_readSaying 2 (some .boolean) rm_X12_readSaying D G 0 0 [.ref (G.2.1 200)] (mW G Z Y σ0) (mW G Z Y res.2) (some (.int res.1)) := by
  unfold f_X12_readSaying at h
  refine CT.mk (cc := cX12_readSaying) (maxL := 2) (ret := (some .boolean)) (own := RX12) (plainFor_of_name (by decide)) rfl (Nat.le_of_ble_eq_true rfl) ?_
  intro p e s m args below meth c A ls C0 hnm hA hP hD hl
  obtain ⟨hx, hb, hr, hml, hown, hts, hlocks, hK, hE⟩ := id C0
  have hS : va_S A s.heap s.heap [] := va_S.rf
  have hl : lv_has ls 2 [(0, .ref (G.2.1 200))] := hl
  refine lv_aload_n hx hb dX12_readSaying_0 rfl (lv_at hl 0 rfl) ?_
  refine lv_aload_n hx hb dX12_readSaying_1 rfl (lv_at hl 0 rfl) ?_
  refine va_get (D := D) (ci := 12) (v := .int (σ0.1 200 15)) (C := RX12) (T := TX12) (N := 59) hx hb hts inU_X12 hown hK hP _ (mg_200 G Z Y σ0) rfl 15 (by decide) (hts _ wd_1263) (fun _ h9 => h9) rfl dX12_readSaying_2 ?_
  refine va_put (D := D) (ci := 12) (v := .int (σ0.1 200 15)) (ty := .int) (C := RX12) (T := TX12) (N := 59) hx hb hts inU_X12 tyX12 tyX12_ok nmX12 hown hK hP hD hS _ (mg_200 G Z Y σ0) rfl 16 (by decide) (hts _ wd_1264) (fun _ h9 => h9) rfl (by decide +kernel) rfl rfl (Nat.le_of_ble_eq_true rfl) dX12_readSaying_5 (fun H locs hP hD hS => ?_)
  have hP := wrP (mp_200_16 G Z Y σ0 (σ0.1 200 15)) hP
  have hD := wrD (mp_200_16 G Z Y σ0 (σ0.1 200 15)) hD
  refine lv_aload_n hx hb dX12_readSaying_8 rfl (lv_at hl 0 rfl) ?_
  refine va_get (D := D) (ci := 12) (v := .ref (G.2.1 203)) (C := RX12) (T := TX12) (N := 59) hx hb hts inU_X12 hown hK hP _ (mg_200 G Z Y (sI σ0 200 16 (σ0.1 200 15))) rfl 11 (by decide) (hts _ wd_1259) (fun _ h9 => h9) rfl dX12_readSaying_9 ?_
  refine lv_aload_n hx hb dX12_readSaying_12 rfl (lv_at hl 0 rfl) ?_
  refine va_get (D := D) (ci := 12) (v := .int (σ0.1 200 15)) (C := RX12) (T := TX12) (N := 59) hx hb hts inU_X12 hown hK hP _ (mg_200 G Z Y (sI σ0 200 16 (σ0.1 200 15))) rfl 16 (by decide) (hts _ wd_1264) (fun _ h9 => h9) rfl dX12_readSaying_13 ?_
  refine lv_iconst (v := 0) hx hb dX12_readSaying_16 (by decide) ?_
  obtain ⟨c1, h⟩ := f_n h
  refine va_iast hx hb hK hP hD hS _ 0 (mg_203 G Z Y (sI σ0 200 16 (σ0.1 200 15))) rfl c1 dX12_readSaying_17 (fun H locs hP hD hS => ?_)
  have hP := wrP (mp_203 G Z Y (sI σ0 200 16 (σ0.1 200 15)) _ _) hP
  have hD := wrD (mp_203 G Z Y (sI σ0 200 16 (σ0.1 200 15)) _ _) hD
  refine lv_aload_n hx hb dX12_readSaying_18 rfl (lv_at hl 0 rfl) ?_
  refine va_get (D := D) (ci := 12) (v := .ref (G.2.1 204)) (C := RX12) (T := TX12) (N := 59) hx hb hts inU_X12 hown hK hP _ (mg_200 G Z Y (sI (sI σ0 200 16 (σ0.1 200 15)) 203 (((σ0.1 200 15) : Int32).toNatClampNeg) (0 : Int32))) rfl 12 (by decide) (hts _ wd_1260) (fun _ h9 => h9) rfl dX12_readSaying_19 ?_
  refine lv_aload_n hx hb dX12_readSaying_22 rfl (lv_at hl 0 rfl) ?_
  refine va_get (D := D) (ci := 12) (v := .int (σ0.1 200 15)) (C := RX12) (T := TX12) (N := 59) hx hb hts inU_X12 hown hK hP _ (mg_200 G Z Y (sI (sI σ0 200 16 (σ0.1 200 15)) 203 (((σ0.1 200 15) : Int32).toNatClampNeg) (0 : Int32))) rfl 16 (by decide) (hts _ wd_1264) (fun _ h9 => h9) rfl dX12_readSaying_23 ?_
  refine lv_iconst (v := 0) hx hb dX12_readSaying_26 (by decide) ?_
  obtain ⟨c2, h⟩ := f_n h
  refine va_iast hx hb hK hP hD hS _ 0 (mg_204 G Z Y (sI (sI σ0 200 16 (σ0.1 200 15)) 203 (((σ0.1 200 15) : Int32).toNatClampNeg) (0 : Int32))) rfl c2 dX12_readSaying_27 (fun H locs hP hD hS => ?_)
  have hP := wrP (mp_204 G Z Y (sI (sI σ0 200 16 (σ0.1 200 15)) 203 (((σ0.1 200 15) : Int32).toNatClampNeg) (0 : Int32)) _ _) hP
  have hD := wrD (mp_204 G Z Y (sI (sI σ0 200 16 (σ0.1 200 15)) 203 (((σ0.1 200 15) : Int32).toNatClampNeg) (0 : Int32)) _ _) hD
  refine lv_aload_n hx hb dX12_readSaying_28 rfl (lv_at hl 0 rfl) ?_
  refine va_get (D := D) (ci := 12) (v := .ref (G.2.1 206)) (C := RX12) (T := TX12) (N := 59) hx hb hts inU_X12 hown hK hP _ (mg_200 G Z Y (sI (sI (sI σ0 200 16 (σ0.1 200 15)) 203 (((σ0.1 200 15) : Int32).toNatClampNeg) (0 : Int32)) 204 (((σ0.1 200 15) : Int32).toNatClampNeg) (0 : Int32))) rfl 14 (by decide) (hts _ wd_1262) (fun _ h9 => h9) rfl dX12_readSaying_29 ?_
  refine lv_aload_n hx hb dX12_readSaying_32 rfl (lv_at hl 0 rfl) ?_
  refine va_get (D := D) (ci := 12) (v := .int (σ0.1 200 15)) (C := RX12) (T := TX12) (N := 59) hx hb hts inU_X12 hown hK hP _ (mg_200 G Z Y (sI (sI (sI σ0 200 16 (σ0.1 200 15)) 203 (((σ0.1 200 15) : Int32).toNatClampNeg) (0 : Int32)) 204 (((σ0.1 200 15) : Int32).toNatClampNeg) (0 : Int32))) rfl 16 (by decide) (hts _ wd_1264) (fun _ h9 => h9) rfl dX12_readSaying_33 ?_
  refine lv_iconst (v := 0) hx hb dX12_readSaying_36 (by decide) ?_
  obtain ⟨c3, h⟩ := f_n h
  refine va_iast hx hb hK hP hD hS _ 0 (mg_206 G Z Y (sI (sI (sI σ0 200 16 (σ0.1 200 15)) 203 (((σ0.1 200 15) : Int32).toNatClampNeg) (0 : Int32)) 204 (((σ0.1 200 15) : Int32).toNatClampNeg) (0 : Int32))) rfl c3 dX12_readSaying_37 (fun H locs hP hD hS => ?_)
  have hP := wrP (mp_206 G Z Y (sI (sI (sI σ0 200 16 (σ0.1 200 15)) 203 (((σ0.1 200 15) : Int32).toNatClampNeg) (0 : Int32)) 204 (((σ0.1 200 15) : Int32).toNatClampNeg) (0 : Int32)) _ _) hP
  have hD := wrD (mp_206 G Z Y (sI (sI (sI σ0 200 16 (σ0.1 200 15)) 203 (((σ0.1 200 15) : Int32).toNatClampNeg) (0 : Int32)) 204 (((σ0.1 200 15) : Int32).toNatClampNeg) (0 : Int32)) _ _) hD
  refine lv_iconst (v := 0) hx hb dX12_readSaying_38 (by decide) ?_
  refine lv_istore_n (lv' := [(1, .int (0 : Int32)), (0, .ref (G.2.1 200))]) hx hb dX12_readSaying_39 rfl hl (by decide) rfl (fun ls hl => ?_)
  refine W_X12_readSaying_L40 l D G Z Y σ0 F res C0 hA _ ?_ F (sI (sI (sI (sI σ0 200 16 (σ0.1 200 15)) 203 (((σ0.1 200 15) : Int32).toNatClampNeg) (0 : Int32)) 204 (((σ0.1 200 15) : Int32).toNatClampNeg) (0 : Int32)) 206 (((σ0.1 200 15) : Int32).toNatClampNeg) (0 : Int32)) (0 : Int32) h _ _ _ hP hD hS (lv_sub hl [1, 0] rfl)
  · intro σ1 h H locs ls hP hD hS hl
    refine lv_aload_n hx hb dX12_readSaying_67 rfl (lv_at hl 0 rfl) ?_
    refine lv_aload_n hx hb dX12_readSaying_68 rfl (lv_at hl 0 rfl) ?_
    refine va_get (D := D) (ci := 12) (v := .ref (G.2.1 201)) (C := RX12) (T := TX12) (N := 59) hx hb hts inU_X12 hown hK hP _ (mg_200 G Z Y σ1) rfl 1 (by decide) (hts _ wd_1249) (fun _ h9 => h9) rfl dX12_readSaying_69 ?_
    refine lv_iconst (v := 0) hx hb dX12_readSaying_72 (by decide) ?_
    refine lv_aload_n hx hb dX12_readSaying_73 rfl (lv_at hl 0 rfl) ?_
    refine va_get (D := D) (ci := 12) (v := .int (σ1.1 200 3)) (C := RX12) (T := TX12) (N := 59) hx hb hts inU_X12 hown hK hP _ (mg_200 G Z Y σ1) rfl 3 (by decide) (hts _ wd_1251) (fun _ h9 => h9) rfl dX12_readSaying_74 ?_
    refine lv_bipush (v := 8) hx hb dX12_readSaying_77 (by decide) ?_
    obtain ⟨q6, hq6, h⟩ := f_b h
    refine cl_V (w := (mW G Z Y σ1)) (w' := (mW G Z Y q6.2)) (rv := none) (bytes := cX12_begin) (maxL := 5) (ret := none) (C := RX12) (As := [.ref (G.2.1 201), .int (0 : Int32), .int (σ1.1 200 3), .int (8 : Int32)]) (rest := []) (stk := []) ⟨hx, hb, hml, hown, hts⟩ hK hE hA hP hD hS (c_X12_begin l D G Z Y σ1 201 (rfl : isBy 201 = true) (0 : Int32) (σ1.1 200 3) (8 : Int32) q6 hq6) (cwV 4 hts (gwV wd_1452 wd_1454 wp_48 wd_11 wd_1455) rfl rfl rfl hd_X12_begin ⟨Nat.le_of_ble_eq_true rfl, Nat.le_of_ble_eq_true rfl⟩) (mg_200 G Z Y σ1) rfl rfl rfl hl.1 rfl (Nat.le_of_ble_eq_true rfl) dX12_readSaying_79 ⟨Nat.zero_le _, Nat.zero_le _⟩ rfl (fun H locs hP hD hS => ?_)
    refine lv_aload_n hx hb dX12_readSaying_82 rfl (lv_at hl 0 rfl) ?_
    obtain ⟨q7, hq7, h⟩ := f_b h
    refine cl_V (w := (mW G Z Y q6.2)) (w' := (mW G Z Y q7.2)) (rv := none) (bytes := cX12_ors) (maxL := 1) (ret := none) (C := RX12) (As := []) (rest := []) (stk := []) ⟨hx, hb, hml, hown, hts⟩ hK hE hA hP hD hS (c_X12_ors l D G Z Y q6.2 F q7 hq7) (cwV 0 hts (gwV wd_1456 wd_1458 wp_49 wd_11 wd_1459) rfl rfl rfl hd_X12_ors ⟨Nat.le_of_ble_eq_true rfl, Nat.le_of_ble_eq_true rfl⟩) (mg_200 G Z Y q6.2) rfl rfl rfl hl.1 rfl (Nat.le_of_ble_eq_true rfl) dX12_readSaying_83 ⟨Nat.zero_le _, Nat.zero_le _⟩ rfl (fun H locs hP hD hS => ?_)
    refine lv_aload_n hx hb dX12_readSaying_86 rfl (lv_at hl 0 rfl) ?_
    refine va_get (D := D) (ci := 12) (v := .int (q7.2.1 200 7)) (C := RX12) (T := TX12) (N := 59) hx hb hts inU_X12 hown hK hP _ (mg_200 G Z Y q7.2) rfl 7 (by decide) (hts _ wd_1255) (fun _ h9 => h9) rfl dX12_readSaying_87 ?_
    refine lv_iconst (v := (-1)) hx hb dX12_readSaying_90 (by decide) ?_
    refine lv_icmp_ne (tgt := 107) hx hb dX12_readSaying_91 (by decide) (fun c8 => ?_) (fun c8 => ?_)
    · skip
      have h := f_f c8 h
      refine lv_aload_n hx hb dX12_readSaying_107 rfl (lv_at hl 0 rfl) ?_
      refine va_get (D := D) (ci := 12) (v := .int (q7.2.1 200 7)) (C := RX12) (T := TX12) (N := 59) hx hb hts inU_X12 hown hK hP _ (mg_200 G Z Y q7.2) rfl 7 (by decide) (hts _ wd_1255) (fun _ h9 => h9) rfl dX12_readSaying_108 ?_
      refine lv_iconst (v := (-1)) hx hb dX12_readSaying_111 (by decide) ?_
      refine lv_icmp_ne (tgt := 119) hx hb dX12_readSaying_112 (by decide) (fun c9 => ?_) (fun c9 => ?_)
      · skip
        have h := f_f c9 h
        refine lv_iconst (v := 0) hx hb dX12_readSaying_119 (by decide) ?_
        obtain rfl := Option.some.inj h
        exact W.zret (v := (0 : Int32)) hx hb hr rfl (q_end hK hP hD hS) hS.2.2 dX12_readSaying_120
      · skip
        have h := f_t c9 h
        refine lv_iconst (v := 1) hx hb dX12_readSaying_115 (by decide) ?_
        refine lv_goto (tgt := 120) hx hb dX12_readSaying_116 (by decide) ?_
        obtain rfl := Option.some.inj h
        exact W.zret (v := (1 : Int32)) hx hb hr rfl (q_end hK hP hD hS) hS.2.2 dX12_readSaying_120
    · skip
      have h := f_t c8 h
      refine lv_aload_n hx hb dX12_readSaying_94 rfl (lv_at hl 0 rfl) ?_
      obtain ⟨q10, hq10, h⟩ := f_b h
      refine cl_V (w := (mW G Z Y q7.2)) (w' := (mW G Z Y q10.2)) (rv := some (.int q10.1)) (bytes := cX12_look) (maxL := 1) (ret := (some .int)) (C := RX12) (As := []) (rest := []) (stk := [.int q10.1]) ⟨hx, hb, hml, hown, hts⟩ hK hE hA hP hD hS (c_X12_look l D G Z Y q7.2 F q10 hq10) (cwV 0 hts (gwV wd_1468 wd_1470 wp_52 wd_11 wd_1471) rfl rfl rfl hd_X12_look ⟨Nat.le_of_ble_eq_true rfl, Nat.le_of_ble_eq_true rfl⟩) (mg_200 G Z Y q7.2) rfl rfl rfl hl.1 rfl (Nat.le_of_ble_eq_true rfl) dX12_readSaying_95 ⟨Nat.zero_le _, Nat.zero_le _⟩ rfl (fun H locs hP hD hS => ?_)
      refine lv_iconst (v := (-1)) hx hb dX12_readSaying_98 (by decide) ?_
      refine lv_icmp_eq (tgt := 107) hx hb dX12_readSaying_99 (by decide) (fun c11 => ?_) (fun c11 => ?_)
      · skip
        have h := f_t c11 h
        refine lv_aload_n hx hb dX12_readSaying_107 rfl (lv_at hl 0 rfl) ?_
        refine va_get (D := D) (ci := 12) (v := .int (q10.2.1 200 7)) (C := RX12) (T := TX12) (N := 59) hx hb hts inU_X12 hown hK hP _ (mg_200 G Z Y q10.2) rfl 7 (by decide) (hts _ wd_1255) (fun _ h9 => h9) rfl dX12_readSaying_108 ?_
        refine lv_iconst (v := (-1)) hx hb dX12_readSaying_111 (by decide) ?_
        refine lv_icmp_ne (tgt := 119) hx hb dX12_readSaying_112 (by decide) (fun c12 => ?_) (fun c12 => ?_)
        · skip
          have h := f_f c12 h
          refine lv_iconst (v := 0) hx hb dX12_readSaying_119 (by decide) ?_
          obtain rfl := Option.some.inj h
          exact W.zret (v := (0 : Int32)) hx hb hr rfl (q_end hK hP hD hS) hS.2.2 dX12_readSaying_120
        · skip
          have h := f_t c12 h
          refine lv_iconst (v := 1) hx hb dX12_readSaying_115 (by decide) ?_
          refine lv_goto (tgt := 120) hx hb dX12_readSaying_116 (by decide) ?_
          obtain rfl := Option.some.inj h
          exact W.zret (v := (1 : Int32)) hx hb hr rfl (q_end hK hP hD hS) hS.2.2 dX12_readSaying_120
      · skip
        have h := f_f c11 h
        refine lv_aload_n hx hb dX12_readSaying_102 rfl (lv_at hl 0 rfl) ?_
        obtain ⟨q13, hq13, h⟩ := f_b h
        refine cl_V (w := (mW G Z Y q10.2)) (w' := (mW G Z Y q13.2)) (rv := some (.int q13.1)) (bytes := cX12_fails) (maxL := 1) (ret := (some .boolean)) (C := RX12) (As := []) (rest := []) (stk := [.int q13.1]) ⟨hx, hb, hml, hown, hts⟩ hK hE hA hP hD hS (c_X12_fails l D G Z Y q10.2 q13 hq13) (cwV 0 hts (gwV wd_1477 wd_1479 wp_54 wd_11 wd_1480) rfl rfl rfl hd_X12_fails ⟨Nat.le_of_ble_eq_true rfl, Nat.le_of_ble_eq_true rfl⟩) (mg_200 G Z Y q10.2) rfl rfl rfl hl.1 rfl (Nat.le_of_ble_eq_true rfl) dX12_readSaying_103 ⟨Nat.zero_le _, Nat.zero_le _⟩ rfl (fun H locs hP hD hS => ?_)
        refine lv_pop hx hb dX12_readSaying_106 rfl ?_
        refine lv_aload_n hx hb dX12_readSaying_107 rfl (lv_at hl 0 rfl) ?_
        refine va_get (D := D) (ci := 12) (v := .int (q13.2.1 200 7)) (C := RX12) (T := TX12) (N := 59) hx hb hts inU_X12 hown hK hP _ (mg_200 G Z Y q13.2) rfl 7 (by decide) (hts _ wd_1255) (fun _ h9 => h9) rfl dX12_readSaying_108 ?_
        refine lv_iconst (v := (-1)) hx hb dX12_readSaying_111 (by decide) ?_
        refine lv_icmp_ne (tgt := 119) hx hb dX12_readSaying_112 (by decide) (fun c14 => ?_) (fun c14 => ?_)
        · skip
          have h := f_f c14 h
          refine lv_iconst (v := 0) hx hb dX12_readSaying_119 (by decide) ?_
          obtain rfl := Option.some.inj h
          exact W.zret (v := (0 : Int32)) hx hb hr rfl (q_end hK hP hD hS) hS.2.2 dX12_readSaying_120
        · skip
          have h := f_t c14 h
          refine lv_iconst (v := 1) hx hb dX12_readSaying_115 (by decide) ?_
          refine lv_goto (tgt := 120) hx hb dX12_readSaying_116 (by decide) ?_
          obtain rfl := Option.some.inj h
          exact W.zret (v := (1 : Int32)) hx hb hr rfl (q_end hK hP hD hS) hS.2.2 dX12_readSaying_120
abbrev rm_X12_saying : Room := { frames := 44, cells := 0, slots := 0, locals := 932 }
set_option maxRecDepth 100000 in
set_option maxHeartbeats 8000000 in
theorem c_X12_saying (l : Launch) (D : va_G) (G : hG) (Z : hZ) (Y : va_W) (σ0 : hSt) (F : Nat) (res : (Int32 × hSt)) (h : f_X12_saying F Z σ0 = some res) : CT l yX12_saying cX12_saying 1 (some .int) rm_X12_saying D G 0 0 [.ref (G.2.1 200)] (mW G Z Y σ0) (mW G Z Y res.2) (some (.int res.1)) := by
  unfold f_X12_saying at h
  refine CT.mk (cc := cX12_saying) (maxL := 1) (ret := (some .int)) (own := RX12) (plainFor_of_name (by decide)) rfl (Nat.le_of_ble_eq_true rfl) ?_
  intro p e s m args below meth c A ls C0 hnm hA hP hD hl
  obtain ⟨hx, hb, hr, hml, hown, hts, hlocks, hK, hE⟩ := id C0
  have hS : va_S A s.heap s.heap [] := va_S.rf
  have hl : lv_has ls 1 [(0, .ref (G.2.1 200))] := hl
  refine lv_aload_n hx hb dX12_saying_0 rfl (lv_at hl 0 rfl) ?_
  refine lv_iconst (v := 0) hx hb dX12_saying_1 (by decide) ?_
  refine va_put (D := D) (ci := 12) (v := .int (0 : Int32)) (ty := .int) (C := RX12) (T := TX12) (N := 59) hx hb hts inU_X12 tyX12 tyX12_ok nmX12 hown hK hP hD hS _ (mg_200 G Z Y σ0) rfl 0 (by decide) (hts _ wd_1248) (fun _ h9 => h9) rfl (by decide +kernel) rfl rfl (Nat.le_of_ble_eq_true rfl) dX12_saying_2 (fun H locs hP hD hS => ?_)
  have hP := wrP (mp_200_0 G Z Y σ0 (0 : Int32)) hP
  have hD := wrD (mp_200_0 G Z Y σ0 (0 : Int32)) hD
  refine lv_aload_n hx hb dX12_saying_5 rfl (lv_at hl 0 rfl) ?_
  refine va_get (D := D) (ci := 12) (v := .int (σ0.1 200 15)) (C := RX12) (T := TX12) (N := 59) hx hb hts inU_X12 hown hK hP _ (mg_200 G Z Y (sI σ0 200 0 (0 : Int32))) rfl 15 (by decide) (hts _ wd_1263) (fun _ h9 => h9) rfl dX12_saying_6 ?_
  refine lv_bipush (v := 20) hx hb dX12_saying_9 (by decide) ?_
  refine lv_icmp_eq (tgt := 21) hx hb dX12_saying_11 (by decide) (fun c1 => ?_) (fun c1 => ?_)
  · skip
    have h := f_t c1 h
    refine lv_iconst (v := (-1)) hx hb dX12_saying_21 (by decide) ?_
    obtain rfl := Option.some.inj h
    exact W.iret (v := (-1 : Int32)) hx hb hr (q_end hK hP hD hS) hS.2.2 dX12_saying_22
  · skip
    have h := f_f c1 h
    refine lv_aload_n hx hb dX12_saying_14 rfl (lv_at hl 0 rfl) ?_
    obtain ⟨q2, hq2, h⟩ := f_b h
    refine cl_V (w := (mW G Z Y (sI σ0 200 0 (0 : Int32)))) (w' := (mW G Z Y q2.2)) (rv := some (.int q2.1)) (bytes := cX12_readSaying) (maxL := 2) (ret := (some .boolean)) (C := RX12) (As := []) (rest := []) (stk := [.int q2.1]) ⟨hx, hb, hml, hown, hts⟩ hK hE hA hP hD hS (c_X12_readSaying l D G Z Y (sI σ0 200 0 (0 : Int32)) F q2 hq2) (cwV 0 hts (gwV wd_1448 wd_1450 wp_47 wd_11 wd_1451) rfl rfl rfl hd_X12_readSaying ⟨Nat.le_of_ble_eq_true rfl, Nat.le_of_ble_eq_true rfl⟩) (mg_200 G Z Y (sI σ0 200 0 (0 : Int32))) rfl rfl rfl hl.1 rfl (Nat.le_of_ble_eq_true rfl) dX12_saying_15 ⟨Nat.zero_le _, Nat.zero_le _⟩ rfl (fun H locs hP hD hS => ?_)
    refine lv_if_ne (tgt := 23) hx hb dX12_saying_18 (by decide) (fun c3 => ?_) (fun c3 => ?_)
    · skip
      have h := f_f c3 h
      refine lv_aload_n hx hb dX12_saying_23 rfl (lv_at hl 0 rfl) ?_
      refine lv_iconst (v := 0) hx hb dX12_saying_24 (by decide) ?_
      refine va_put (D := D) (ci := 12) (v := .int (0 : Int32)) (ty := .int) (C := RX12) (T := TX12) (N := 59) hx hb hts inU_X12 tyX12 tyX12_ok nmX12 hown hK hP hD hS _ (mg_200 G Z Y q2.2) rfl 3 (by decide) (hts _ wd_1251) (fun _ h9 => h9) rfl (by decide +kernel) rfl rfl (Nat.le_of_ble_eq_true rfl) dX12_saying_25 (fun H locs hP hD hS => ?_)
      have hP := wrP (mp_200_3 G Z Y q2.2 (0 : Int32)) hP
      have hD := wrD (mp_200_3 G Z Y q2.2 (0 : Int32)) hD
      refine lv_aload_n hx hb dX12_saying_28 rfl (lv_at hl 0 rfl) ?_
      refine lv_dup hx hb dX12_saying_29 rfl ?_
      refine va_get (D := D) (ci := 12) (v := .int (q2.2.1 200 15)) (C := RX12) (T := TX12) (N := 59) hx hb hts inU_X12 hown hK hP _ (mg_200 G Z Y (sI q2.2 200 3 (0 : Int32))) rfl 15 (by decide) (hts _ wd_1263) (fun _ h9 => h9) rfl dX12_saying_30 ?_
      refine lv_iconst (v := 1) hx hb dX12_saying_33 (by decide) ?_
      refine lv_iadd hx hb dX12_saying_34 ?_
      refine va_put (D := D) (ci := 12) (v := .int ((q2.2.1 200 15) + (1 : Int32))) (ty := .int) (C := RX12) (T := TX12) (N := 59) hx hb hts inU_X12 tyX12 tyX12_ok nmX12 hown hK hP hD hS _ (mg_200 G Z Y (sI q2.2 200 3 (0 : Int32))) rfl 15 (by decide) (hts _ wd_1263) (fun _ h9 => h9) rfl (by decide +kernel) rfl rfl (Nat.le_of_ble_eq_true rfl) dX12_saying_35 (fun H locs hP hD hS => ?_)
      have hP := wrP (mp_200_15 G Z Y (sI q2.2 200 3 (0 : Int32)) ((q2.2.1 200 15) + (1 : Int32))) hP
      have hD := wrD (mp_200_15 G Z Y (sI q2.2 200 3 (0 : Int32)) ((q2.2.1 200 15) + (1 : Int32))) hD
      refine lv_aload_n hx hb dX12_saying_38 rfl (lv_at hl 0 rfl) ?_
      refine va_get (D := D) (ci := 12) (v := .int ((q2.2.1 200 15) + (1 : Int32))) (C := RX12) (T := TX12) (N := 59) hx hb hts inU_X12 hown hK hP _ (mg_200 G Z Y (sI (sI q2.2 200 3 (0 : Int32)) 200 15 ((q2.2.1 200 15) + (1 : Int32)))) rfl 15 (by decide) (hts _ wd_1263) (fun _ h9 => h9) rfl dX12_saying_39 ?_
      refine lv_iconst (v := 1) hx hb dX12_saying_42 (by decide) ?_
      refine lv_isub hx hb dX12_saying_43 ?_
      obtain rfl := Option.some.inj h
      exact W.iret (v := (((q2.2.1 200 15) + (1 : Int32)) - (1 : Int32))) hx hb hr (q_end hK hP hD hS) hS.2.2 dX12_saying_44
    · skip
      have h := f_t c3 h
      refine lv_iconst (v := (-1)) hx hb dX12_saying_21 (by decide) ?_
      obtain rfl := Option.some.inj h
      exact W.iret (v := (-1 : Int32)) hx hb hr (q_end hK hP hD hS) hS.2.2 dX12_saying_22
abbrev rm_X12_isSaying : Room := { frames := 0, cells := 0, slots := 0, locals := 0 }
set_option maxRecDepth 100000 in
set_option maxHeartbeats 8000000 in
theorem c_X12_isSaying (l : Launch) (D : va_G) (G : hG) (Z : hZ) (Y : va_W) (σ0 : hSt) (x1 : Int32) (res : Int32) (h : f_X12_isSaying Z σ0 x1 = some res) : CT l yX12_isSaying cX12_isSaying 2 (some .boolean) rm_X12_isSaying D G 0 0 [.ref (G.2.1 200), .int x1] (mW G Z Y σ0) (mW G Z Y σ0) (some (.int res)) := by
  unfold f_X12_isSaying at h
  refine CT.mk (cc := cX12_isSaying) (maxL := 2) (ret := (some .boolean)) (own := RX12) (plainFor_of_name (by decide)) rfl (Nat.le_of_ble_eq_true rfl) ?_
  intro p e s m args below meth c A ls C0 hnm hA hP hD hl
  obtain ⟨hx, hb, hr, hml, hown, hts, hlocks, hK, hE⟩ := id C0
  have hS : va_S A s.heap s.heap [] := va_S.rf
  have hl : lv_has ls 2 [(0, .ref (G.2.1 200)), (1, .int x1)] := hl
  refine lv_iload_n hx hb dX12_isSaying_0 rfl (lv_at hl 1 rfl) ?_
  refine lv_if_lt (tgt := 16) hx hb dX12_isSaying_1 (by decide) (fun c1 => ?_) (fun c1 => ?_)
  · skip
    have h := f_t c1 h
    refine lv_iconst (v := 0) hx hb dX12_isSaying_16 (by decide) ?_
    obtain rfl := Option.some.inj h
    exact W.zret (v := (0 : Int32)) hx hb hr rfl (q_end hK hP hD hS) hS.2.2 dX12_isSaying_17
  · skip
    have h := f_f c1 h
    refine lv_iload_n hx hb dX12_isSaying_4 rfl (lv_at hl 1 rfl) ?_
    refine lv_aload_n hx hb dX12_isSaying_5 rfl (lv_at hl 0 rfl) ?_
    refine va_get (D := D) (ci := 12) (v := .int (σ0.1 200 15)) (C := RX12) (T := TX12) (N := 59) hx hb hts inU_X12 hown hK hP _ (mg_200 G Z Y σ0) rfl 15 (by decide) (hts _ wd_1263) (fun _ h9 => h9) rfl dX12_isSaying_6 ?_
    refine lv_icmp_ge (tgt := 16) hx hb dX12_isSaying_9 (by decide) (fun c2 => ?_) (fun c2 => ?_)
    · skip
      have h := f_t c2 h
      refine lv_iconst (v := 0) hx hb dX12_isSaying_16 (by decide) ?_
      obtain rfl := Option.some.inj h
      exact W.zret (v := (0 : Int32)) hx hb hr rfl (q_end hK hP hD hS) hS.2.2 dX12_isSaying_17
    · skip
      have h := f_f c2 h
      refine lv_iconst (v := 1) hx hb dX12_isSaying_12 (by decide) ?_
      refine lv_goto (tgt := 17) hx hb dX12_isSaying_13 (by decide) ?_
      obtain rfl := Option.some.inj h
      exact W.zret (v := (1 : Int32)) hx hb hr rfl (q_end hK hP hD hS) hS.2.2 dX12_isSaying_17
abbrev rm_X12_rest : Room := { frames := 0, cells := 0, slots := 0, locals := 0 }
set_option maxRecDepth 100000 in
set_option maxHeartbeats 8000000 in
theorem c_X12_rest (l : Launch) (D : va_G) (G : hG) (w : va_W) (x0 : Int64) (x2 : Int64) (res : Int64) (h : f_X12_rest x0 x2 = some res) : CT l yX12_rest cX12_rest 6 (some .long) rm_X12_rest D G 0 0 [.long x0, .long x2] w w (some (.long res)) := by
  unfold f_X12_rest at h
  refine CT.mk (cc := cX12_rest) (maxL := 6) (ret := (some .long)) (own := RX12) (plainFor_of_name (by decide)) rfl (Nat.le_of_ble_eq_true rfl) ?_
  intro p e s m args below meth c A ls C0 hnm hA hP hD hl
  obtain ⟨hx, hb, hr, hml, hown, hts, hlocks, hK, hE⟩ := id C0
  have hS : va_S A s.heap s.heap [] := va_S.rf
  have hl : lv_has ls 6 [(0, .long x0), (2, .long x2)] := hl
  refine lv_lload_n hx hb dX12_rest_0 rfl (lv_at hl 0 rfl) ?_
  refine lv_lload_n hx hb dX12_rest_1 rfl (lv_at hl 1 rfl) ?_
  obtain ⟨c1, h⟩ := f_n h
  refine lv_lrem hx hb dX12_rest_2 c1 ?_
  refine lv_lstore (lv' := [(4, .long (x0 - x0 / x2 * x2)), (0, .long x0), (2, .long x2)]) hx hb dX12_rest_3 hl (by decide) rfl (fun ls hl => ?_)
  refine lv_lload hx hb dX12_rest_5 (lv_at hl 0 rfl) ?_
  refine lv_lconst (v := 0) hx hb dX12_rest_7 (by decide) ?_
  refine W.lcmp hx hb dX12_rest_8 ?_
  refine lv_if_ge (tgt := 19) hx hb dX12_rest_9 (by decide) (fun c2 => ?_) (fun c2 => ?_)
  · skip
    have c2 := (lg_cmp_ge _ _).mp c2
    have h := f_t c2 h
    refine lv_lload hx hb dX12_rest_19 (lv_at hl 0 rfl) ?_
    obtain rfl := Option.some.inj h
    exact W.lret (v := (x0 - x0 / x2 * x2)) hx hb hr (q_end hK hP hD hS) hS.2.2 dX12_rest_21
  · skip
    have c2 := mt (lg_cmp_ge _ _).mpr c2
    have h := f_f c2 h
    refine lv_lload hx hb dX12_rest_12 (lv_at hl 0 rfl) ?_
    refine lv_lload_n hx hb dX12_rest_14 rfl (lv_at hl 2 rfl) ?_
    refine lv_ladd hx hb dX12_rest_15 ?_
    refine lv_goto (tgt := 21) hx hb dX12_rest_16 (by decide) ?_
    obtain rfl := Option.some.inj h
    exact W.lret (v := ((x0 - x0 / x2 * x2) + x2)) hx hb hr (q_end hK hP hD hS) hS.2.2 dX12_rest_21
abbrev rm_X12_worthAt : Room := { frames := 1, cells := 0, slots := 0, locals := 25 }
set_option maxRecDepth 100000 in
set_option maxHeartbeats 8000000 in
theorem W_X12_worthAt_L6 {p : Program} {e : Env} {s : State} {m : MethodId} {args : Array Value} {below : List Frame} {meth : Method} {c : Code} {A : Nat → Prop} (l : Launch) (D : va_G) (G : hG) (Z : hZ) (Y : va_W) (σ0 : hSt) (F : Nat) (x1 : Int32) (x2 : Int64) (y1 : Int32) (y2 : Int64) (res : (Int64 × hSt)) (C0 : Cx p s m args meth c cX12_worthAt (some .long) RX12 13 D G A) (hA : ∀ q : Nat, s.heap.size ≤ q → A q) : ∀ (n : Nat) (σ1 : hSt) (z4 : Int32) (z5 : Int32), f_X12_worthAt_L6 y1 y2 n σ1 z4 z5 = some res → ∀ (H : Heap) (locs : List Loc) (ls : Array Slot), va_P D vwCl (mW G Z Y σ1) H → va_D A (mW G Z Y σ1) → va_S A s.heap H locs → lv_has ls 13 [(0, .ref (G.2.1 200)), (1, .int y1), (2, .long y2), (4, .int z4), (5, .int z5)] → W p l e rm_X12_worthAt s m args below meth c H locs 0 0 (MQ below (Qg (some (.long res.1)) D (tysG G) (mW G Z Y res.2) A) args s 0 0 A) (F0 m 6 ls []) := by
  obtain ⟨hx, hb, hr, hml, hown, hts, hlocks, hK, hE⟩ := id C0
  intro n
  induction n with
  | zero =>
    intro σ1 z4 z5 h
    cases h
  | succ n ih =>
    intro σ1 z4 z5 h H locs ls hP hD hS hl
    rw [f_X12_worthAt_L6] at h
    refine lv_iload hx hb dX12_worthAt_6 (lv_at hl 4 rfl) ?_
    refine lv_aload_n hx hb dX12_worthAt_8 rfl (lv_at hl 0 rfl) ?_
    refine va_get (D := D) (ci := 12) (v := .ref (G.2.1 203)) (C := RX12) (T := TX12) (N := 59) hx hb hts inU_X12 hown hK hP _ (mg_200 G Z Y σ1) rfl 11 (by decide) (hts _ wd_1259) (fun _ h9 => h9) rfl dX12_worthAt_9 ?_
    refine lv_iload_n hx hb dX12_worthAt_12 rfl (lv_at hl 1 rfl) ?_
    obtain ⟨c1, h⟩ := f_n h
    refine va_ialdE (v := (σ1.1 203 ((y1 : Int32).toNatClampNeg))) hx hb hK hP _ 0 (mg_203 G Z Y σ1) rfl c1 dX12_worthAt_13 rfl ?_
    refine lv_icmp_ge (tgt := 166) hx hb dX12_worthAt_14 (by decide) (fun c2 => ?_) (fun c2 => ?_)
    · skip
      have h := f_t c2 h
      refine lv_aload_n hx hb dX12_worthAt_166 rfl (lv_at hl 0 rfl) ?_
      refine va_get (D := D) (ci := 12) (v := .ref (G.2.1 207)) (C := RX12) (T := TX12) (N := 59) hx hb hts inU_X12 hown hK hP _ (mg_200 G Z Y σ1) rfl 17 (by decide) (hts _ wd_1265) (fun _ h9 => h9) rfl dX12_worthAt_167 ?_
      refine lv_iconst (v := 0) hx hb dX12_worthAt_170 (by decide) ?_
      obtain ⟨c3, h⟩ := f_n h
      refine va_laldE (v := (σ1.2.1 207 (((0 : Int32) : Int32).toNatClampNeg))) hx hb hK hP _ 1 (mg_207 G Z Y σ1) rfl c3 dX12_worthAt_171 rfl ?_
      obtain rfl := Option.some.inj h
      exact W.lret (v := (σ1.2.1 207 (((0 : Int32) : Int32).toNatClampNeg))) hx hb hr (q_end hK hP hD hS) hS.2.2 dX12_worthAt_172
    · skip
      have h := f_f c2 h
      refine lv_aload_n hx hb dX12_worthAt_17 rfl (lv_at hl 0 rfl) ?_
      refine va_get (D := D) (ci := 12) (v := .ref (G.2.1 202)) (C := RX12) (T := TX12) (N := 59) hx hb hts inU_X12 hown hK hP _ (mg_200 G Z Y σ1) rfl 10 (by decide) (hts _ wd_1258) (fun _ h9 => h9) rfl dX12_worthAt_18 ?_
      refine lv_sipush (v := 200) hx hb dX12_worthAt_21 (by decide) ?_
      refine lv_iload_n hx hb dX12_worthAt_24 rfl (lv_at hl 1 rfl) ?_
      refine lv_imul hx hb dX12_worthAt_25 ?_
      refine lv_iload hx hb dX12_worthAt_26 (lv_at hl 4 rfl) ?_
      refine lv_iadd hx hb dX12_worthAt_28 ?_
      obtain ⟨c4, h⟩ := f_n h
      refine va_ialdE (v := (σ1.1 202 (((((200 : Int32) * y1) + z5) : Int32).toNatClampNeg))) hx hb hK hP _ 0 (mg_202 G Z Y σ1) rfl c4 dX12_worthAt_29 rfl ?_
      refine lv_istore (lv' := [(6, .int (σ1.1 202 (((((200 : Int32) * y1) + z5) : Int32).toNatClampNeg))), (0, .ref (G.2.1 200)), (1, .int y1), (2, .long y2), (4, .int z4), (5, .int z5)]) hx hb dX12_worthAt_30 hl (by decide) rfl (fun ls hl => ?_)
      refine lv_iload hx hb dX12_worthAt_32 (lv_at hl 0 rfl) ?_
      refine lv_bipush (v := 6) hx hb dX12_worthAt_34 (by decide) ?_
      refine lv_icmp_ge (tgt := 59) hx hb dX12_worthAt_36 (by decide) (fun c5 => ?_) (fun c5 => ?_)
      · skip
        have h := f_t c5 h
        refine lv_iload hx hb dX12_worthAt_59 (lv_at hl 0 rfl) ?_
        refine lv_bipush (v := 6) hx hb dX12_worthAt_61 (by decide) ?_
        refine lv_icmp_ne (tgt := 93) hx hb dX12_worthAt_63 (by decide) (fun c6 => ?_) (fun c6 => ?_)
        · skip
          have h := f_f c6 h
          refine lv_aload_n hx hb dX12_worthAt_93 rfl (lv_at hl 1 rfl) ?_
          refine va_get (D := D) (ci := 12) (v := .ref (G.2.1 207)) (C := RX12) (T := TX12) (N := 59) hx hb hts inU_X12 hown hK hP _ (mg_200 G Z Y σ1) rfl 17 (by decide) (hts _ wd_1265) (fun _ h9 => h9) rfl dX12_worthAt_94 ?_
          refine lv_iload hx hb dX12_worthAt_97 (lv_at hl 4 rfl) ?_
          refine lv_iconst (v := 2) hx hb dX12_worthAt_99 (by decide) ?_
          refine lv_isub hx hb dX12_worthAt_100 ?_
          obtain ⟨c7, h⟩ := f_n h
          refine va_laldE (v := (σ1.2.1 207 (((z4 - (2 : Int32)) : Int32).toNatClampNeg))) hx hb hK hP _ 1 (mg_207 G Z Y σ1) rfl c7 dX12_worthAt_101 rfl ?_
          refine lv_lstore (lv' := [(7, .long (σ1.2.1 207 (((z4 - (2 : Int32)) : Int32).toNatClampNeg))), (6, .int (σ1.1 202 (((((200 : Int32) * y1) + z5) : Int32).toNatClampNeg))), (0, .ref (G.2.1 200)), (1, .int y1), (2, .long y2), (4, .int z4), (5, .int z5)]) hx hb dX12_worthAt_102 hl (by decide) rfl (fun ls hl => ?_)
          refine lv_aload_n hx hb dX12_worthAt_104 rfl (lv_at hl 2 rfl) ?_
          refine va_get (D := D) (ci := 12) (v := .ref (G.2.1 207)) (C := RX12) (T := TX12) (N := 59) hx hb hts inU_X12 hown hK hP _ (mg_200 G Z Y σ1) rfl 17 (by decide) (hts _ wd_1265) (fun _ h9 => h9) rfl dX12_worthAt_105 ?_
          refine lv_iload hx hb dX12_worthAt_108 (lv_at hl 5 rfl) ?_
          refine lv_iconst (v := 1) hx hb dX12_worthAt_110 (by decide) ?_
          refine lv_isub hx hb dX12_worthAt_111 ?_
          obtain ⟨c8, h⟩ := f_n h
          refine va_laldE (v := (σ1.2.1 207 (((z4 - (1 : Int32)) : Int32).toNatClampNeg))) hx hb hK hP _ 1 (mg_207 G Z Y σ1) rfl c8 dX12_worthAt_112 rfl ?_
          refine lv_lstore (lv' := [(9, .long (σ1.2.1 207 (((z4 - (1 : Int32)) : Int32).toNatClampNeg))), (7, .long (σ1.2.1 207 (((z4 - (2 : Int32)) : Int32).toNatClampNeg))), (6, .int (σ1.1 202 (((((200 : Int32) * y1) + z5) : Int32).toNatClampNeg))), (0, .ref (G.2.1 200)), (1, .int y1), (2, .long y2), (4, .int z4), (5, .int z5)]) hx hb dX12_worthAt_113 hl (by decide) rfl (fun ls hl => ?_)
          refine lv_iinc (v := (z4 + (-1 : Int32))) (lv' := [(4, .int (z4 + (-1 : Int32))), (9, .long (σ1.2.1 207 (((z4 - (1 : Int32)) : Int32).toNatClampNeg))), (7, .long (σ1.2.1 207 (((z4 - (2 : Int32)) : Int32).toNatClampNeg))), (6, .int (σ1.1 202 (((((200 : Int32) * y1) + z5) : Int32).toNatClampNeg))), (0, .ref (G.2.1 200)), (1, .int y1), (2, .long y2), (5, .int z5)]) hx hb dX12_worthAt_115 hl (k := 6) rfl rfl (by decide) rfl (fun ls hl => ?_)
          refine lv_lload hx hb dX12_worthAt_118 (lv_at hl 2 rfl) ?_
          refine lv_lload hx hb dX12_worthAt_120 (lv_at hl 1 rfl) ?_
          refine lv_lmul hx hb dX12_worthAt_122 ?_
          refine lv_lload_n hx hb dX12_worthAt_123 rfl (lv_at hl 6 rfl) ?_
          obtain ⟨c9, h⟩ := f_n h
          refine lv_lrem hx hb dX12_worthAt_124 c9 ?_
          refine lv_lstore (lv' := [(11, .long (((σ1.2.1 207 (((z4 - (2 : Int32)) : Int32).toNatClampNeg)) * (σ1.2.1 207 (((z4 - (1 : Int32)) : Int32).toNatClampNeg))) - ((σ1.2.1 207 (((z4 - (2 : Int32)) : Int32).toNatClampNeg)) * (σ1.2.1 207 (((z4 - (1 : Int32)) : Int32).toNatClampNeg))) / y2 * y2)), (4, .int (z4 + (-1 : Int32))), (9, .long (σ1.2.1 207 (((z4 - (1 : Int32)) : Int32).toNatClampNeg))), (7, .long (σ1.2.1 207 (((z4 - (2 : Int32)) : Int32).toNatClampNeg))), (6, .int (σ1.1 202 (((((200 : Int32) * y1) + z5) : Int32).toNatClampNeg))), (0, .ref (G.2.1 200)), (1, .int y1), (2, .long y2), (5, .int z5)]) hx hb dX12_worthAt_125 hl (by decide) rfl (fun ls hl => ?_)
          refine lv_aload_n hx hb dX12_worthAt_127 rfl (lv_at hl 5 rfl) ?_
          refine va_get (D := D) (ci := 12) (v := .ref (G.2.1 207)) (C := RX12) (T := TX12) (N := 59) hx hb hts inU_X12 hown hK hP _ (mg_200 G Z Y σ1) rfl 17 (by decide) (hts _ wd_1265) (fun _ h9 => h9) rfl dX12_worthAt_128 ?_
          refine lv_iload hx hb dX12_worthAt_131 (lv_at hl 1 rfl) ?_
          refine lv_iconst (v := 1) hx hb dX12_worthAt_133 (by decide) ?_
          refine lv_isub hx hb dX12_worthAt_134 ?_
          refine lv_iload hx hb dX12_worthAt_135 (lv_at hl 4 rfl) ?_
          refine lv_bipush (v := 7) hx hb dX12_worthAt_137 (by decide) ?_
          refine lv_icmp_ne (tgt := 147) hx hb dX12_worthAt_139 (by decide) (fun c10 => ?_) (fun c10 => ?_)
          · skip
            have h := f_f c10 h
            refine lv_lload hx hb dX12_worthAt_147 (lv_at hl 3 rfl) ?_
            refine lv_lload hx hb dX12_worthAt_149 (lv_at hl 2 rfl) ?_
            refine lv_ladd hx hb dX12_worthAt_151 ?_
            refine lv_lload hx hb dX12_worthAt_152 (lv_at hl 0 rfl) ?_
            refine lv_lsub hx hb dX12_worthAt_154 ?_
            refine lv_lload_n hx hb dX12_worthAt_155 rfl (lv_at hl 7 rfl) ?_
            obtain ⟨q11, hq11, h⟩ := f_b h
            refine cl_S (w := (mW G Z Y σ1)) (w' := (mW G Z Y σ1)) (rv := some (.long q11)) (bytes := cX12_rest) (maxL := 6) (ret := (some .long)) (As := [.long (((σ1.2.1 207 (((z4 - (2 : Int32)) : Int32).toNatClampNeg)) + (σ1.2.1 207 (((z4 - (1 : Int32)) : Int32).toNatClampNeg))) - (((σ1.2.1 207 (((z4 - (2 : Int32)) : Int32).toNatClampNeg)) * (σ1.2.1 207 (((z4 - (1 : Int32)) : Int32).toNatClampNeg))) - ((σ1.2.1 207 (((z4 - (2 : Int32)) : Int32).toNatClampNeg)) * (σ1.2.1 207 (((z4 - (1 : Int32)) : Int32).toNatClampNeg))) / y2 * y2)), .long y2]) (rest := [.int ((z4 + (-1 : Int32)) - (1 : Int32)), .ref (G.2.1 207)]) (stk := [.long q11, .int ((z4 + (-1 : Int32)) - (1 : Int32)), .ref (G.2.1 207)]) ⟨hx, hb, hml, hown, hts⟩ hK hE hA hP hD hS (c_X12_rest l D G (mW G Z Y σ1) (((σ1.2.1 207 (((z4 - (2 : Int32)) : Int32).toNatClampNeg)) + (σ1.2.1 207 (((z4 - (1 : Int32)) : Int32).toNatClampNeg))) - (((σ1.2.1 207 (((z4 - (2 : Int32)) : Int32).toNatClampNeg)) * (σ1.2.1 207 (((z4 - (1 : Int32)) : Int32).toNatClampNeg))) - ((σ1.2.1 207 (((z4 - (2 : Int32)) : Int32).toNatClampNeg)) * (σ1.2.1 207 (((z4 - (1 : Int32)) : Int32).toNatClampNeg))) / y2 * y2)) y2 q11 hq11) (mkS hts wd_1514 wd_1515 wd_11 wd_1516 rfl rfl hd_X12_rest ⟨Nat.le_of_ble_eq_true rfl, Nat.le_of_ble_eq_true rfl⟩) rfl hl.1 rfl (Nat.le_of_ble_eq_true rfl) dX12_worthAt_156 ⟨Nat.zero_le _, Nat.zero_le _⟩ rfl (fun H locs hP hD hS => ?_)
            obtain ⟨c12, h⟩ := f_n h
            refine va_last hx hb hK hP hD hS _ 1 (mg_207 G Z Y σ1) rfl c12 dX12_worthAt_159 (fun H locs hP hD hS => ?_)
            have hP := wrP (mp_207 G Z Y σ1 _ _) hP
            have hD := wrD (mp_207 G Z Y σ1 _ _) hD
            refine lv_iinc (v := (z5 + 1)) (lv' := [(5, .int (z5 + 1)), (11, .long (((σ1.2.1 207 (((z4 - (2 : Int32)) : Int32).toNatClampNeg)) * (σ1.2.1 207 (((z4 - (1 : Int32)) : Int32).toNatClampNeg))) - ((σ1.2.1 207 (((z4 - (2 : Int32)) : Int32).toNatClampNeg)) * (σ1.2.1 207 (((z4 - (1 : Int32)) : Int32).toNatClampNeg))) / y2 * y2)), (4, .int (z4 + (-1 : Int32))), (9, .long (σ1.2.1 207 (((z4 - (1 : Int32)) : Int32).toNatClampNeg))), (7, .long (σ1.2.1 207 (((z4 - (2 : Int32)) : Int32).toNatClampNeg))), (6, .int (σ1.1 202 (((((200 : Int32) * y1) + z5) : Int32).toNatClampNeg))), (0, .ref (G.2.1 200)), (1, .int y1), (2, .long y2)]) hx hb dX12_worthAt_160 hl (k := 8) rfl rfl (by decide) rfl (fun ls hl => ?_)
            refine lv_goto (tgt := 6) hx hb dX12_worthAt_163 (by decide) ?_
            exact ih (sJ σ1 207 ((((z4 + (-1 : Int32)) - (1 : Int32)) : Int32).toNatClampNeg) q11) (z4 + (-1 : Int32)) (z5 + 1) h _ _ _ hP hD hS (lv_sub hl [6, 7, 8, 2, 0] rfl)
          · skip
            have h := f_t c10 h
            refine lv_lload hx hb dX12_worthAt_142 (lv_at hl 0 rfl) ?_
            refine lv_goto (tgt := 159) hx hb dX12_worthAt_144 (by decide) ?_
            obtain ⟨c13, h⟩ := f_n h
            refine va_last hx hb hK hP hD hS _ 1 (mg_207 G Z Y σ1) rfl c13 dX12_worthAt_159 (fun H locs hP hD hS => ?_)
            have hP := wrP (mp_207 G Z Y σ1 _ _) hP
            have hD := wrD (mp_207 G Z Y σ1 _ _) hD
            refine lv_iinc (v := (z5 + 1)) (lv' := [(5, .int (z5 + 1)), (11, .long (((σ1.2.1 207 (((z4 - (2 : Int32)) : Int32).toNatClampNeg)) * (σ1.2.1 207 (((z4 - (1 : Int32)) : Int32).toNatClampNeg))) - ((σ1.2.1 207 (((z4 - (2 : Int32)) : Int32).toNatClampNeg)) * (σ1.2.1 207 (((z4 - (1 : Int32)) : Int32).toNatClampNeg))) / y2 * y2)), (4, .int (z4 + (-1 : Int32))), (9, .long (σ1.2.1 207 (((z4 - (1 : Int32)) : Int32).toNatClampNeg))), (7, .long (σ1.2.1 207 (((z4 - (2 : Int32)) : Int32).toNatClampNeg))), (6, .int (σ1.1 202 (((((200 : Int32) * y1) + z5) : Int32).toNatClampNeg))), (0, .ref (G.2.1 200)), (1, .int y1), (2, .long y2)]) hx hb dX12_worthAt_160 hl (k := 8) rfl rfl (by decide) rfl (fun ls hl => ?_)
            refine lv_goto (tgt := 6) hx hb dX12_worthAt_163 (by decide) ?_
            exact ih (sJ σ1 207 ((((z4 + (-1 : Int32)) - (1 : Int32)) : Int32).toNatClampNeg) (((σ1.2.1 207 (((z4 - (2 : Int32)) : Int32).toNatClampNeg)) * (σ1.2.1 207 (((z4 - (1 : Int32)) : Int32).toNatClampNeg))) - ((σ1.2.1 207 (((z4 - (2 : Int32)) : Int32).toNatClampNeg)) * (σ1.2.1 207 (((z4 - (1 : Int32)) : Int32).toNatClampNeg))) / y2 * y2)) (z4 + (-1 : Int32)) (z5 + 1) h _ _ _ hP hD hS (lv_sub hl [6, 7, 8, 2, 0] rfl)
        · skip
          have h := f_t c6 h
          refine lv_aload_n hx hb dX12_worthAt_66 rfl (lv_at hl 1 rfl) ?_
          refine va_get (D := D) (ci := 12) (v := .ref (G.2.1 207)) (C := RX12) (T := TX12) (N := 59) hx hb hts inU_X12 hown hK hP _ (mg_200 G Z Y σ1) rfl 17 (by decide) (hts _ wd_1265) (fun _ h9 => h9) rfl dX12_worthAt_67 ?_
          refine lv_iload hx hb dX12_worthAt_70 (lv_at hl 4 rfl) ?_
          refine lv_iconst (v := 1) hx hb dX12_worthAt_72 (by decide) ?_
          refine lv_isub hx hb dX12_worthAt_73 ?_
          refine lv_lconst (v := 1) hx hb dX12_worthAt_74 (by decide) ?_
          refine lv_aload_n hx hb dX12_worthAt_75 rfl (lv_at hl 1 rfl) ?_
          refine va_get (D := D) (ci := 12) (v := .ref (G.2.1 207)) (C := RX12) (T := TX12) (N := 59) hx hb hts inU_X12 hown hK hP _ (mg_200 G Z Y σ1) rfl 17 (by decide) (hts _ wd_1265) (fun _ h9 => h9) rfl dX12_worthAt_76 ?_
          refine lv_iload hx hb dX12_worthAt_79 (lv_at hl 4 rfl) ?_
          refine lv_iconst (v := 1) hx hb dX12_worthAt_81 (by decide) ?_
          refine lv_isub hx hb dX12_worthAt_82 ?_
          obtain ⟨c14, h⟩ := f_n h
          refine va_laldE (v := (σ1.2.1 207 (((z4 - (1 : Int32)) : Int32).toNatClampNeg))) hx hb hK hP _ 1 (mg_207 G Z Y σ1) rfl c14 dX12_worthAt_83 rfl ?_
          refine lv_lsub hx hb dX12_worthAt_84 ?_
          refine lv_lload_n hx hb dX12_worthAt_85 rfl (lv_at hl 3 rfl) ?_
          obtain ⟨q15, hq15, h⟩ := f_b h
          refine cl_S (w := (mW G Z Y σ1)) (w' := (mW G Z Y σ1)) (rv := some (.long q15)) (bytes := cX12_rest) (maxL := 6) (ret := (some .long)) (As := [.long ((1 : Int64) - (σ1.2.1 207 (((z4 - (1 : Int32)) : Int32).toNatClampNeg))), .long y2]) (rest := [.int (z4 - (1 : Int32)), .ref (G.2.1 207)]) (stk := [.long q15, .int (z4 - (1 : Int32)), .ref (G.2.1 207)]) ⟨hx, hb, hml, hown, hts⟩ hK hE hA hP hD hS (c_X12_rest l D G (mW G Z Y σ1) ((1 : Int64) - (σ1.2.1 207 (((z4 - (1 : Int32)) : Int32).toNatClampNeg))) y2 q15 hq15) (mkS hts wd_1514 wd_1515 wd_11 wd_1516 rfl rfl hd_X12_rest ⟨Nat.le_of_ble_eq_true rfl, Nat.le_of_ble_eq_true rfl⟩) rfl hl.1 rfl (Nat.le_of_ble_eq_true rfl) dX12_worthAt_86 ⟨Nat.zero_le _, Nat.zero_le _⟩ rfl (fun H locs hP hD hS => ?_)
          obtain ⟨c16, h⟩ := f_n h
          refine va_last hx hb hK hP hD hS _ 1 (mg_207 G Z Y σ1) rfl c16 dX12_worthAt_89 (fun H locs hP hD hS => ?_)
          have hP := wrP (mp_207 G Z Y σ1 _ _) hP
          have hD := wrD (mp_207 G Z Y σ1 _ _) hD
          refine lv_goto (tgt := 160) hx hb dX12_worthAt_90 (by decide) ?_
          refine lv_iinc (v := (z5 + 1)) (lv' := [(5, .int (z5 + 1)), (6, .int (σ1.1 202 (((((200 : Int32) * y1) + z5) : Int32).toNatClampNeg))), (0, .ref (G.2.1 200)), (1, .int y1), (2, .long y2), (4, .int z4)]) hx hb dX12_worthAt_160 hl (k := 5) rfl rfl (by decide) rfl (fun ls hl => ?_)
          refine lv_goto (tgt := 6) hx hb dX12_worthAt_163 (by decide) ?_
          exact ih (sJ σ1 207 (((z4 - (1 : Int32)) : Int32).toNatClampNeg) q15) z4 (z5 + 1) h _ _ _ hP hD hS (lv_sub hl [2, 3, 4, 5, 0] rfl)
      · skip
        have h := f_f c5 h
        refine lv_aload_n hx hb dX12_worthAt_39 rfl (lv_at hl 1 rfl) ?_
        refine va_get (D := D) (ci := 12) (v := .ref (G.2.1 207)) (C := RX12) (T := TX12) (N := 59) hx hb hts inU_X12 hown hK hP _ (mg_200 G Z Y σ1) rfl 17 (by decide) (hts _ wd_1265) (fun _ h9 => h9) rfl dX12_worthAt_40 ?_
        refine lv_iload hx hb dX12_worthAt_43 (lv_at hl 4 rfl) ?_
        refine lv_aload_n hx hb dX12_worthAt_45 rfl (lv_at hl 1 rfl) ?_
        refine va_get (D := D) (ci := 12) (v := .ref (G.2.1 208)) (C := RX12) (T := TX12) (N := 59) hx hb hts inU_X12 hown hK hP _ (mg_200 G Z Y σ1) rfl 18 (by decide) (hts _ wd_1266) (fun _ h9 => h9) rfl dX12_worthAt_46 ?_
        refine lv_iload hx hb dX12_worthAt_49 (lv_at hl 0 rfl) ?_
        obtain ⟨c17, h⟩ := f_n h
        refine va_laldE (v := (σ1.2.1 208 (((σ1.1 202 (((((200 : Int32) * y1) + z5) : Int32).toNatClampNeg)) : Int32).toNatClampNeg))) hx hb hK hP _ 1 (mg_208 G Z Y σ1) rfl c17 dX12_worthAt_51 rfl ?_
        obtain ⟨c18, h⟩ := f_n h
        refine va_last hx hb hK hP hD hS _ 1 (mg_207 G Z Y σ1) rfl c18 dX12_worthAt_52 (fun H locs hP hD hS => ?_)
        have hP := wrP (mp_207 G Z Y σ1 _ _) hP
        have hD := wrD (mp_207 G Z Y σ1 _ _) hD
        refine lv_iinc (v := (z4 + 1)) (lv' := [(4, .int (z4 + 1)), (6, .int (σ1.1 202 (((((200 : Int32) * y1) + z5) : Int32).toNatClampNeg))), (0, .ref (G.2.1 200)), (1, .int y1), (2, .long y2), (5, .int z5)]) hx hb dX12_worthAt_53 hl (k := 4) rfl rfl (by decide) rfl (fun ls hl => ?_)
        refine lv_goto (tgt := 160) hx hb dX12_worthAt_56 (by decide) ?_
        refine lv_iinc (v := (z5 + 1)) (lv' := [(5, .int (z5 + 1)), (4, .int (z4 + 1)), (6, .int (σ1.1 202 (((((200 : Int32) * y1) + z5) : Int32).toNatClampNeg))), (0, .ref (G.2.1 200)), (1, .int y1), (2, .long y2)]) hx hb dX12_worthAt_160 hl (k := 5) rfl rfl (by decide) rfl (fun ls hl => ?_)
        refine lv_goto (tgt := 6) hx hb dX12_worthAt_163 (by decide) ?_
        exact ih (sJ σ1 207 ((z4 : Int32).toNatClampNeg) (σ1.2.1 208 (((σ1.1 202 (((((200 : Int32) * y1) + z5) : Int32).toNatClampNeg)) : Int32).toNatClampNeg))) (z4 + 1) (z5 + 1) h _ _ _ hP hD hS (lv_sub hl [3, 4, 5, 1, 0] rfl)
set_option maxRecDepth 100000 in
set_option maxHeartbeats 8000000 in
theorem c_X12_worthAt (l : Launch) (D : va_G) (G : hG) (Z : hZ) (Y : va_W) (σ0 : hSt) (F : Nat) (x1 : Int32) (x2 : Int64) (res : (Int64 × hSt)) (h : f_X12_worthAt F Z σ0 x1 x2 = some res) : CT l yX12_worthAt cX12_worthAt 13 (some .long) rm_X12_worthAt D G 0 0 [.ref (G.2.1 200), .int x1, .long x2] (mW G Z Y σ0) (mW G Z Y res.2) (some (.long res.1)) := by
  unfold f_X12_worthAt at h
  refine CT.mk (cc := cX12_worthAt) (maxL := 13) (ret := (some .long)) (own := RX12) (plainFor_of_name (by decide)) rfl (Nat.le_of_ble_eq_true rfl) ?_
  intro p e s m args below meth c A ls C0 hnm hA hP hD hl
  obtain ⟨hx, hb, hr, hml, hown, hts, hlocks, hK, hE⟩ := id C0
  have hS : va_S A s.heap s.heap [] := va_S.rf
  have hl : lv_has ls 13 [(0, .ref (G.2.1 200)), (1, .int x1), (2, .long x2)] := hl
  refine lv_iconst (v := 0) hx hb dX12_worthAt_0 (by decide) ?_
  refine lv_istore (lv' := [(4, .int (0 : Int32)), (0, .ref (G.2.1 200)), (1, .int x1), (2, .long x2)]) hx hb dX12_worthAt_1 hl (by decide) rfl (fun ls hl => ?_)
  refine lv_iconst (v := 0) hx hb dX12_worthAt_3 (by decide) ?_
  refine lv_istore (lv' := [(5, .int (0 : Int32)), (4, .int (0 : Int32)), (0, .ref (G.2.1 200)), (1, .int x1), (2, .long x2)]) hx hb dX12_worthAt_4 hl (by decide) rfl (fun ls hl => ?_)
  refine W_X12_worthAt_L6 l D G Z Y σ0 F x1 x2 x1 x2 res C0 hA F σ0 (0 : Int32) (0 : Int32) h _ _ _ hP hD hS (lv_sub hl [2, 3, 4, 1, 0] rfl)
def rmG_Ms (d : Nat) : Room := { frames := 2 + d, cells := 0, slots := 0, locals := 57 + d * 26 }
set_option maxRecDepth 100000 in
set_option maxHeartbeats 8000000 in
theorem o_X12_sumFrom (l : Launch) (D : va_G) (G : hG) (Z : hZ) (Y : va_W) (F : Nat) (d : Nat) (u_X12_sumFrom : (hSt → Int32 → Int32 → Int64 → Option (Int64 × hSt))) (hu_X12_sumFrom : ∀ (σ0 : hSt) (x1 : Int32) (x2 : Int32) (x3 : Int64) (res : (Int64 × hSt)), u_X12_sumFrom σ0 x1 x2 x3 = some res → CT l yX12_sumFrom cX12_sumFrom 7 (some .long) (rmG_Ms d) D G 0 0 [.ref (G.2.1 200), .int x1, .int x2, .long x3] (mW G Z Y σ0) (mW G Z Y res.2) (some (.long res.1))) (σ0 : hSt) (x1 : Int32) (x2 : Int32) (x3 : Int64) (res : (Int64 × hSt)) (h : b_X12_sumFrom F Z u_X12_sumFrom σ0 x1 x2 x3 = some res) : CT l yX12_sumFrom cX12_sumFrom 7 (some .long) (rmG_Ms (d + 1)) D G 0 0 [.ref (G.2.1 200), .int x1, .int x2, .long x3] (mW G Z Y σ0) (mW G Z Y res.2) (some (.long res.1)) := by
  unfold b_X12_sumFrom at h
  refine CT.mk (cc := cX12_sumFrom) (maxL := 7) (ret := (some .long)) (own := RX12) (plainFor_of_name (by decide)) rfl (Nat.le_of_ble_eq_true rfl) ?_
  intro p e s m args below meth c A ls C0 hnm hA hP hD hl
  obtain ⟨hx, hb, hr, hml, hown, hts, hlocks, hK, hE⟩ := id C0
  have hS : va_S A s.heap s.heap [] := va_S.rf
  have hl : lv_has ls 7 [(0, .ref (G.2.1 200)), (1, .int x1), (2, .int x2), (3, .long x3)] := hl
  refine lv_iload_n hx hb dX12_sumFrom_0 rfl (lv_at hl 2 rfl) ?_
  refine lv_aload_n hx hb dX12_sumFrom_1 rfl (lv_at hl 0 rfl) ?_
  refine va_get (D := D) (ci := 12) (v := .ref (G.2.1 204)) (C := RX12) (T := TX12) (N := 59) hx hb hts inU_X12 hown hK hP _ (mg_200 G Z Y σ0) rfl 12 (by decide) (hts _ wd_1260) (fun _ h9 => h9) rfl dX12_sumFrom_2 ?_
  refine lv_iload_n hx hb dX12_sumFrom_5 rfl (lv_at hl 1 rfl) ?_
  obtain ⟨c1, h⟩ := f_n h
  refine va_ialdE (v := (σ0.1 204 ((x1 : Int32).toNatClampNeg))) hx hb hK hP _ 0 (mg_204 G Z Y σ0) rfl c1 dX12_sumFrom_6 rfl ?_
  refine lv_icmp_lt (tgt := 17) hx hb dX12_sumFrom_7 (by decide) (fun c2 => ?_) (fun c2 => ?_)
  · skip
    have h := f_t c2 h
    refine lv_aload_n hx hb dX12_sumFrom_17 rfl (lv_at hl 0 rfl) ?_
    refine va_get (D := D) (ci := 12) (v := .ref (G.2.1 208)) (C := RX12) (T := TX12) (N := 59) hx hb hts inU_X12 hown hK hP _ (mg_200 G Z Y σ0) rfl 18 (by decide) (hts _ wd_1266) (fun _ h9 => h9) rfl dX12_sumFrom_18 ?_
    refine lv_iload_n hx hb dX12_sumFrom_21 rfl (lv_at hl 2 rfl) ?_
    refine lv_lconst (v := 0) hx hb dX12_sumFrom_22 (by decide) ?_
    obtain ⟨c3, h⟩ := f_n h
    refine va_last hx hb hK hP hD hS _ 1 (mg_208 G Z Y σ0) rfl c3 dX12_sumFrom_23 (fun H locs hP hD hS => ?_)
    have hP := wrP (mp_208 G Z Y σ0 _ _) hP
    have hD := wrD (mp_208 G Z Y σ0 _ _) hD
    refine lv_aload_n hx hb dX12_sumFrom_24 rfl (lv_at hl 0 rfl) ?_
    refine lv_iload_n hx hb dX12_sumFrom_25 rfl (lv_at hl 1 rfl) ?_
    refine lv_iload_n hx hb dX12_sumFrom_26 rfl (lv_at hl 2 rfl) ?_
    refine lv_iconst (v := 1) hx hb dX12_sumFrom_27 (by decide) ?_
    refine lv_iadd hx hb dX12_sumFrom_28 ?_
    refine lv_lload_n hx hb dX12_sumFrom_29 rfl (lv_at hl 3 rfl) ?_
    obtain ⟨q4, hq4, h⟩ := f_b h
    refine cl_V (w := (mW G Z Y (sJ σ0 208 ((x2 : Int32).toNatClampNeg) (0 : Int64)))) (w' := (mW G Z Y q4.2)) (rv := some (.long q4.1)) (bytes := cX12_sumFrom) (maxL := 7) (ret := (some .long)) (C := RX12) (As := [.int x1, .int (x2 + (1 : Int32)), .long x3]) (rest := []) (stk := [.long q4.1]) ⟨hx, hb, hml, hown, hts⟩ hK hE hA hP hD hS (hu_X12_sumFrom (sJ σ0 208 ((x2 : Int32).toNatClampNeg) (0 : Int64)) x1 (x2 + (1 : Int32)) x3 q4 hq4) (cwV 3 hts (gwV wd_1506 wd_1508 wp_59 wd_11 wd_1509) rfl rfl rfl hd_X12_sumFrom ⟨by show 2 + d + 1 ≤ 2 + (d + 1); omega, by show 8 + (7 + 11) + (57 + d * 26) ≤ 57 + (d + 1) * 26; omega⟩) (mg_200 G Z Y (sJ σ0 208 ((x2 : Int32).toNatClampNeg) (0 : Int64))) rfl rfl rfl hl.1 rfl (Nat.le_of_ble_eq_true rfl) dX12_sumFrom_30 ⟨Nat.zero_le _, Nat.zero_le _⟩ rfl (fun H locs hP hD hS => ?_)
    refine lv_lstore (lv' := [(5, .long q4.1), (0, .ref (G.2.1 200)), (1, .int x1), (2, .int x2), (3, .long x3)]) hx hb dX12_sumFrom_33 hl (by decide) rfl (fun ls hl => ?_)
    refine lv_aload_n hx hb dX12_sumFrom_35 rfl (lv_at hl 1 rfl) ?_
    refine va_get (D := D) (ci := 12) (v := .ref (G.2.1 208)) (C := RX12) (T := TX12) (N := 59) hx hb hts inU_X12 hown hK hP _ (mg_200 G Z Y q4.2) rfl 18 (by decide) (hts _ wd_1266) (fun _ h9 => h9) rfl dX12_sumFrom_36 ?_
    refine lv_iload_n hx hb dX12_sumFrom_39 rfl (lv_at hl 3 rfl) ?_
    refine lv_lconst (v := 1) hx hb dX12_sumFrom_40 (by decide) ?_
    obtain ⟨c5, h⟩ := f_n h
    refine va_last hx hb hK hP hD hS _ 1 (mg_208 G Z Y q4.2) rfl c5 dX12_sumFrom_41 (fun H locs hP hD hS => ?_)
    have hP := wrP (mp_208 G Z Y q4.2 _ _) hP
    have hD := wrD (mp_208 G Z Y q4.2 _ _) hD
    refine lv_lload hx hb dX12_sumFrom_42 (lv_at hl 0 rfl) ?_
    refine lv_aload_n hx hb dX12_sumFrom_44 rfl (lv_at hl 1 rfl) ?_
    refine lv_iload_n hx hb dX12_sumFrom_45 rfl (lv_at hl 2 rfl) ?_
    refine lv_iload_n hx hb dX12_sumFrom_46 rfl (lv_at hl 3 rfl) ?_
    refine lv_iconst (v := 1) hx hb dX12_sumFrom_47 (by decide) ?_
    refine lv_iadd hx hb dX12_sumFrom_48 ?_
    refine lv_lload_n hx hb dX12_sumFrom_49 rfl (lv_at hl 4 rfl) ?_
    obtain ⟨q6, hq6, h⟩ := f_b h
    refine cl_V (w := (mW G Z Y (sJ q4.2 208 ((x2 : Int32).toNatClampNeg) (1 : Int64)))) (w' := (mW G Z Y q6.2)) (rv := some (.long q6.1)) (bytes := cX12_sumFrom) (maxL := 7) (ret := (some .long)) (C := RX12) (As := [.int x1, .int (x2 + (1 : Int32)), .long x3]) (rest := [.long q4.1]) (stk := [.long q6.1, .long q4.1]) ⟨hx, hb, hml, hown, hts⟩ hK hE hA hP hD hS (hu_X12_sumFrom (sJ q4.2 208 ((x2 : Int32).toNatClampNeg) (1 : Int64)) x1 (x2 + (1 : Int32)) x3 q6 hq6) (cwV 3 hts (gwV wd_1506 wd_1508 wp_59 wd_11 wd_1509) rfl rfl rfl hd_X12_sumFrom ⟨by show 2 + d + 1 ≤ 2 + (d + 1); omega, by show 8 + (7 + 11) + (57 + d * 26) ≤ 57 + (d + 1) * 26; omega⟩) (mg_200 G Z Y (sJ q4.2 208 ((x2 : Int32).toNatClampNeg) (1 : Int64))) rfl rfl rfl hl.1 rfl (Nat.le_of_ble_eq_true rfl) dX12_sumFrom_50 ⟨Nat.zero_le _, Nat.zero_le _⟩ rfl (fun H locs hP hD hS => ?_)
    refine lv_ladd hx hb dX12_sumFrom_53 ?_
    refine lv_lload_n hx hb dX12_sumFrom_54 rfl (lv_at hl 4 rfl) ?_
    obtain ⟨c7, h⟩ := f_n h
    refine lv_lrem hx hb dX12_sumFrom_55 c7 ?_
    obtain rfl := Option.some.inj h
    exact W.lret (v := ((q4.1 + q6.1) - (q4.1 + q6.1) / x3 * x3)) hx hb hr (q_end hK hP hD hS) hS.2.2 dX12_sumFrom_56
  · skip
    have h := f_f c2 h
    refine lv_aload_n hx hb dX12_sumFrom_10 rfl (lv_at hl 0 rfl) ?_
    refine lv_iload_n hx hb dX12_sumFrom_11 rfl (lv_at hl 1 rfl) ?_
    refine lv_lload_n hx hb dX12_sumFrom_12 rfl (lv_at hl 3 rfl) ?_
    obtain ⟨q8, hq8, h⟩ := f_b h
    refine cl_V (w := (mW G Z Y σ0)) (w' := (mW G Z Y q8.2)) (rv := some (.long q8.1)) (bytes := cX12_worthAt) (maxL := 13) (ret := (some .long)) (C := RX12) (As := [.int x1, .long x3]) (rest := []) (stk := [.long q8.1]) ⟨hx, hb, hml, hown, hts⟩ hK hE hA hP hD hS (c_X12_worthAt l D G Z Y σ0 F x1 x3 q8 hq8) (cwV 2 hts (gwV wd_1510 wd_1512 wp_60 wd_11 wd_1513) rfl rfl rfl hd_X12_worthAt ⟨by show 1 + 1 ≤ 2 + (d + 1); omega, by show 8 + (13 + 11) + 25 ≤ 57 + (d + 1) * 26; omega⟩) (mg_200 G Z Y σ0) rfl rfl rfl hl.1 rfl (Nat.le_of_ble_eq_true rfl) dX12_sumFrom_13 ⟨Nat.zero_le _, Nat.zero_le _⟩ rfl (fun H locs hP hD hS => ?_)
    obtain rfl := Option.some.inj h
    exact W.lret (v := q8.1) hx hb hr (q_end hK hP hD hS) hS.2.2 dX12_sumFrom_16
set_option maxRecDepth 100000 in
set_option maxHeartbeats 8000000 in
theorem c_G_Ms (l : Launch) (D : va_G) (G : hG) (Z : hZ) (Y : va_W) (F : Nat) : ∀ d : Nat, (∀ (σ0 : hSt) (x1 : Int32) (x2 : Int32) (x3 : Int64) (res : (Int64 × hSt)), (G_Ms F Z d) σ0 x1 x2 x3 = some res → CT l yX12_sumFrom cX12_sumFrom 7 (some .long) (rmG_Ms d) D G 0 0 [.ref (G.2.1 200), .int x1, .int x2, .long x3] (mW G Z Y σ0) (mW G Z Y res.2) (some (.long res.1))) := by
  intro d
  induction d with
  | zero =>
    exact fun σ0 x1 x2 x3 res h => by
        have h1 : (none : Option (Int64 × hSt)) = some res := h
        cases h1
  | succ d ih =>
    have i_X12_sumFrom := ih
    exact fun σ0 x1 x2 x3 res h => o_X12_sumFrom l D G Z Y F d _ i_X12_sumFrom σ0 x1 x2 x3 res h
abbrev rm_X12_sumFrom : Room := rmG_Ms 8
theorem c_X12_sumFrom (l : Launch) (D : va_G) (G : hG) (Z : hZ) (Y : va_W) (σ0 : hSt) (F : Nat) (x1 : Int32) (x2 : Int32) (x3 : Int64) (res : (Int64 × hSt)) (h : f_X12_sumFrom F Z σ0 x1 x2 x3 = some res) : CT l yX12_sumFrom cX12_sumFrom 7 (some .long) rm_X12_sumFrom D G 0 0 [.ref (G.2.1 200), .int x1, .int x2, .long x3] (mW G Z Y σ0) (mW G Z Y res.2) (some (.long res.1)) := (c_G_Ms l D G Z Y F 8) σ0 x1 x2 x3 res h
abbrev rm_X12_countOf : Room := { frames := 11, cells := 0, slots := 0, locals := 291 }
set_option maxRecDepth 100000 in
set_option maxHeartbeats 8000000 in
theorem c_X12_countOf (l : Launch) (D : va_G) (G : hG) (Z : hZ) (Y : va_W) (σ0 : hSt) (F : Nat) (x1 : Int32) (res : (Int32 × hSt)) (h : f_X12_countOf F Z σ0 x1 = some res) : CT l yX12_countOf cX12_countOf 2 (some .int) rm_X12_countOf D G 0 0 [.ref (G.2.1 200), .int x1] (mW G Z Y σ0) (mW G Z Y res.2) (some (.int res.1)) := by
  unfold f_X12_countOf at h
  refine CT.mk (cc := cX12_countOf) (maxL := 2) (ret := (some .int)) (own := RX12) (plainFor_of_name (by decide)) rfl (Nat.le_of_ble_eq_true rfl) ?_
  intro p e s m args below meth c A ls C0 hnm hA hP hD hl
  obtain ⟨hx, hb, hr, hml, hown, hts, hlocks, hK, hE⟩ := id C0
  have hS : va_S A s.heap s.heap [] := va_S.rf
  have hl : lv_has ls 2 [(0, .ref (G.2.1 200)), (1, .int x1)] := hl
  refine lv_aload_n hx hb dX12_countOf_0 rfl (lv_at hl 0 rfl) ?_
  refine lv_iload_n hx hb dX12_countOf_1 rfl (lv_at hl 1 rfl) ?_
  refine lv_iconst (v := 0) hx hb dX12_countOf_2 (by decide) ?_
  refine lv_ldc2 (v := 1000000007) hx hb hown (hts _ wd_1505) dX12_countOf_3 ?_
  obtain ⟨q1, hq1, h⟩ := f_b h
  refine cl_V (w := (mW G Z Y σ0)) (w' := (mW G Z Y q1.2)) (rv := some (.long q1.1)) (bytes := cX12_sumFrom) (maxL := 7) (ret := (some .long)) (C := RX12) (As := [.int x1, .int (0 : Int32), .long (1000000007 : Int64)]) (rest := []) (stk := [.long q1.1]) ⟨hx, hb, hml, hown, hts⟩ hK hE hA hP hD hS (c_X12_sumFrom l D G Z Y σ0 F x1 (0 : Int32) (1000000007 : Int64) q1 hq1) (cwV 3 hts (gwV wd_1506 wd_1508 wp_59 wd_11 wd_1509) rfl rfl rfl hd_X12_sumFrom ⟨Nat.le_of_ble_eq_true rfl, Nat.le_of_ble_eq_true rfl⟩) (mg_200 G Z Y σ0) rfl rfl rfl hl.1 rfl (Nat.le_of_ble_eq_true rfl) dX12_countOf_6 ⟨Nat.zero_le _, Nat.zero_le _⟩ rfl (fun H locs hP hD hS => ?_)
  refine lv_l2i (v := (q1.1 : Int64).toInt32) hx hb dX12_countOf_9 rfl ?_
  obtain rfl := Option.some.inj h
  exact W.iret (v := (q1.1 : Int64).toInt32) hx hb hr (q_end hK hP hD hS) hS.2.2 dX12_countOf_10
abbrev rm_X12_said : Room := { frames := 12, cells := 0, slots := 0, locals := 312 }
set_option maxRecDepth 100000 in
set_option maxHeartbeats 8000000 in
theorem c_X12_said (l : Launch) (D : va_G) (G : hG) (Z : hZ) (Y : va_W) (σ0 : hSt) (F : Nat) (x1 : Int32) (x2 : Int32) (res : (Int32 × hSt)) (h : f_X12_said F Z σ0 x1 x2 = some res) : CT l yX12_said cX12_said 3 (some .int) rm_X12_said D G 0 0 [.ref (G.2.1 200), .int x1, .int x2] (mW G Z Y σ0) (mW G Z Y res.2) (some (.int res.1)) := by
  unfold f_X12_said at h
  refine CT.mk (cc := cX12_said) (maxL := 3) (ret := (some .int)) (own := RX12) (plainFor_of_name (by decide)) rfl (Nat.le_of_ble_eq_true rfl) ?_
  intro p e s m args below meth c A ls C0 hnm hA hP hD hl
  obtain ⟨hx, hb, hr, hml, hown, hts, hlocks, hK, hE⟩ := id C0
  have hS : va_S A s.heap s.heap [] := va_S.rf
  have hl : lv_has ls 3 [(0, .ref (G.2.1 200)), (1, .int x1), (2, .int x2)] := hl
  refine lv_aload_n hx hb dX12_said_0 rfl (lv_at hl 0 rfl) ?_
  refine lv_iconst (v := 0) hx hb dX12_said_1 (by decide) ?_
  refine va_put (D := D) (ci := 12) (v := .int (0 : Int32)) (ty := .int) (C := RX12) (T := TX12) (N := 59) hx hb hts inU_X12 tyX12 tyX12_ok nmX12 hown hK hP hD hS _ (mg_200 G Z Y σ0) rfl 0 (by decide) (hts _ wd_1248) (fun _ h9 => h9) rfl (by decide +kernel) rfl rfl (Nat.le_of_ble_eq_true rfl) dX12_said_2 (fun H locs hP hD hS => ?_)
  have hP := wrP (mp_200_0 G Z Y σ0 (0 : Int32)) hP
  have hD := wrD (mp_200_0 G Z Y σ0 (0 : Int32)) hD
  refine lv_aload_n hx hb dX12_said_5 rfl (lv_at hl 0 rfl) ?_
  refine lv_iload_n hx hb dX12_said_6 rfl (lv_at hl 1 rfl) ?_
  obtain ⟨q1, hq1, h⟩ := f_b h
  refine cl_V (w := (mW G Z Y (sI σ0 200 0 (0 : Int32)))) (w' := (mW G Z Y (sI σ0 200 0 (0 : Int32)))) (rv := some (.int q1)) (bytes := cX12_isSaying) (maxL := 2) (ret := (some .boolean)) (C := RX12) (As := [.int x1]) (rest := []) (stk := [.int q1]) ⟨hx, hb, hml, hown, hts⟩ hK hE hA hP hD hS (c_X12_isSaying l D G Z Y (sI σ0 200 0 (0 : Int32)) x1 q1 hq1) (cwV 1 hts (gwV wd_1493 wd_1495 wp_57 wd_11 wd_1496) rfl rfl rfl hd_X12_isSaying ⟨Nat.le_of_ble_eq_true rfl, Nat.le_of_ble_eq_true rfl⟩) (mg_200 G Z Y (sI σ0 200 0 (0 : Int32))) rfl rfl rfl hl.1 rfl (Nat.le_of_ble_eq_true rfl) dX12_said_7 ⟨Nat.zero_le _, Nat.zero_le _⟩ rfl (fun H locs hP hD hS => ?_)
  refine lv_if_eq (tgt := 25) hx hb dX12_said_10 (by decide) (fun c2 => ?_) (fun c2 => ?_)
  · skip
    have h := f_t c2 h
    refine lv_iconst (v := (-1)) hx hb dX12_said_25 (by decide) ?_
    obtain rfl := Option.some.inj h
    exact W.iret (v := (-1 : Int32)) hx hb hr (q_end hK hP hD hS) hS.2.2 dX12_said_26
  · skip
    have h := f_f c2 h
    refine lv_iload_n hx hb dX12_said_13 rfl (lv_at hl 2 rfl) ?_
    refine lv_i2l (v := (x2 : Int32).toInt64) hx hb dX12_said_14 rfl ?_
    refine lv_lconst (v := 0) hx hb dX12_said_15 (by decide) ?_
    refine lv_ldc2 (v := 8) hx hb hown (hts _ wd_1497) dX12_said_16 ?_
    obtain ⟨q3, hq3, h⟩ := f_b h
    refine cl_S (w := (mW G Z Y (sI σ0 200 0 (0 : Int32)))) (w' := (mW G Z Y (sI σ0 200 0 (0 : Int32)))) (rv := some (.int q3)) (bytes := cX12_isIn) (maxL := 6) (ret := (some .boolean)) (As := [.long (x2 : Int32).toInt64, .long (0 : Int64), .long (8 : Int64)]) (rest := []) (stk := [.int q3]) ⟨hx, hb, hml, hown, hts⟩ hK hE hA hP hD hS (c_X12_isIn l D G (mW G Z Y (sI σ0 200 0 (0 : Int32))) ((x2 : Int32).toInt64) (0 : Int64) (8 : Int64) q3 hq3) (mkS hts wd_1498 wd_1499 wd_11 wd_1500 rfl rfl hd_X12_isIn ⟨Nat.le_of_ble_eq_true rfl, Nat.le_of_ble_eq_true rfl⟩) rfl hl.1 rfl (Nat.le_of_ble_eq_true rfl) dX12_said_19 ⟨Nat.zero_le _, Nat.zero_le _⟩ rfl (fun H locs hP hD hS => ?_)
    refine lv_if_ne (tgt := 27) hx hb dX12_said_22 (by decide) (fun c4 => ?_) (fun c4 => ?_)
    · skip
      have h := f_f c4 h
      refine lv_iload_n hx hb dX12_said_27 rfl (lv_at hl 2 rfl) ?_
      refine lv_if_ne (tgt := 40) hx hb dX12_said_28 (by decide) (fun c5 => ?_) (fun c5 => ?_)
      · skip
        have h := f_f c5 h
        refine lv_iload_n hx hb dX12_said_40 rfl (lv_at hl 2 rfl) ?_
        refine lv_iconst (v := 1) hx hb dX12_said_41 (by decide) ?_
        refine lv_icmp_ne (tgt := 54) hx hb dX12_said_42 (by decide) (fun c6 => ?_) (fun c6 => ?_)
        · skip
          have h := f_f c6 h
          refine lv_iload_n hx hb dX12_said_54 rfl (lv_at hl 2 rfl) ?_
          refine lv_iconst (v := 2) hx hb dX12_said_55 (by decide) ?_
          refine lv_icmp_ne (tgt := 67) hx hb dX12_said_56 (by decide) (fun c7 => ?_) (fun c7 => ?_)
          · skip
            have h := f_f c7 h
            refine lv_aload_n hx hb dX12_said_67 rfl (lv_at hl 0 rfl) ?_
            refine va_get (D := D) (ci := 12) (v := .ref (G.2.1 205)) (C := RX12) (T := TX12) (N := 59) hx hb hts inU_X12 hown hK hP _ (mg_200 G Z Y (sI σ0 200 0 (0 : Int32))) rfl 13 (by decide) (hts _ wd_1261) (fun _ h9 => h9) rfl dX12_said_68 ?_
            refine lv_bipush (v := 6) hx hb dX12_said_71 (by decide) ?_
            refine lv_iload_n hx hb dX12_said_73 rfl (lv_at hl 1 rfl) ?_
            refine lv_imul hx hb dX12_said_74 ?_
            refine lv_iload_n hx hb dX12_said_75 rfl (lv_at hl 2 rfl) ?_
            refine lv_iadd hx hb dX12_said_76 ?_
            refine lv_iconst (v := 3) hx hb dX12_said_77 (by decide) ?_
            refine lv_isub hx hb dX12_said_78 ?_
            obtain ⟨c8, h⟩ := f_n h
            refine va_ialdE (v := (σ0.1 205 ((((((6 : Int32) * x1) + x2) - (3 : Int32)) : Int32).toNatClampNeg))) hx hb hK hP _ 0 (mg_205 G Z Y (sI σ0 200 0 (0 : Int32))) rfl c8 dX12_said_79 rfl ?_
            obtain rfl := Option.some.inj h
            exact W.iret (v := (σ0.1 205 ((((((6 : Int32) * x1) + x2) - (3 : Int32)) : Int32).toNatClampNeg))) hx hb hr (q_end hK hP hD hS) hS.2.2 dX12_said_80
          · skip
            have h := f_t c7 h
            refine lv_aload_n hx hb dX12_said_59 rfl (lv_at hl 0 rfl) ?_
            refine lv_iload_n hx hb dX12_said_60 rfl (lv_at hl 1 rfl) ?_
            obtain ⟨q9, hq9, h⟩ := f_b h
            refine cl_V (w := (mW G Z Y (sI σ0 200 0 (0 : Int32)))) (w' := (mW G Z Y q9.2)) (rv := some (.int q9.1)) (bytes := cX12_countOf) (maxL := 2) (ret := (some .int)) (C := RX12) (As := [.int x1]) (rest := []) (stk := [.int q9.1]) ⟨hx, hb, hml, hown, hts⟩ hK hE hA hP hD hS (c_X12_countOf l D G Z Y (sI σ0 200 0 (0 : Int32)) F x1 q9 hq9) (cwV 1 hts (gwV wd_1501 wd_1503 wp_58 wd_11 wd_1504) rfl rfl rfl hd_X12_countOf ⟨Nat.le_of_ble_eq_true rfl, Nat.le_of_ble_eq_true rfl⟩) (mg_200 G Z Y (sI σ0 200 0 (0 : Int32))) rfl rfl rfl hl.1 rfl (Nat.le_of_ble_eq_true rfl) dX12_said_61 ⟨Nat.zero_le _, Nat.zero_le _⟩ rfl (fun H locs hP hD hS => ?_)
            refine lv_goto (tgt := 80) hx hb dX12_said_64 (by decide) ?_
            obtain rfl := Option.some.inj h
            exact W.iret (v := q9.1) hx hb hr (q_end hK hP hD hS) hS.2.2 dX12_said_80
        · skip
          have h := f_t c6 h
          refine lv_aload_n hx hb dX12_said_45 rfl (lv_at hl 0 rfl) ?_
          refine va_get (D := D) (ci := 12) (v := .ref (G.2.1 206)) (C := RX12) (T := TX12) (N := 59) hx hb hts inU_X12 hown hK hP _ (mg_200 G Z Y (sI σ0 200 0 (0 : Int32))) rfl 14 (by decide) (hts _ wd_1262) (fun _ h9 => h9) rfl dX12_said_46 ?_
          refine lv_iload_n hx hb dX12_said_49 rfl (lv_at hl 1 rfl) ?_
          obtain ⟨c10, h⟩ := f_n h
          refine va_ialdE (v := (σ0.1 206 ((x1 : Int32).toNatClampNeg))) hx hb hK hP _ 0 (mg_206 G Z Y (sI σ0 200 0 (0 : Int32))) rfl c10 dX12_said_50 rfl ?_
          refine lv_goto (tgt := 80) hx hb dX12_said_51 (by decide) ?_
          obtain rfl := Option.some.inj h
          exact W.iret (v := (σ0.1 206 ((x1 : Int32).toNatClampNeg))) hx hb hr (q_end hK hP hD hS) hS.2.2 dX12_said_80
      · skip
        have h := f_t c5 h
        refine lv_aload_n hx hb dX12_said_31 rfl (lv_at hl 0 rfl) ?_
        refine va_get (D := D) (ci := 12) (v := .ref (G.2.1 204)) (C := RX12) (T := TX12) (N := 59) hx hb hts inU_X12 hown hK hP _ (mg_200 G Z Y (sI σ0 200 0 (0 : Int32))) rfl 12 (by decide) (hts _ wd_1260) (fun _ h9 => h9) rfl dX12_said_32 ?_
        refine lv_iload_n hx hb dX12_said_35 rfl (lv_at hl 1 rfl) ?_
        obtain ⟨c11, h⟩ := f_n h
        refine va_ialdE (v := (σ0.1 204 ((x1 : Int32).toNatClampNeg))) hx hb hK hP _ 0 (mg_204 G Z Y (sI σ0 200 0 (0 : Int32))) rfl c11 dX12_said_36 rfl ?_
        refine lv_goto (tgt := 80) hx hb dX12_said_37 (by decide) ?_
        obtain rfl := Option.some.inj h
        exact W.iret (v := (σ0.1 204 ((x1 : Int32).toNatClampNeg))) hx hb hr (q_end hK hP hD hS) hS.2.2 dX12_said_80
    · skip
      have h := f_t c4 h
      refine lv_iconst (v := (-1)) hx hb dX12_said_25 (by decide) ?_
      obtain rfl := Option.some.inj h
      exact W.iret (v := (-1 : Int32)) hx hb hr (q_end hK hP hD hS) hS.2.2 dX12_said_26
abbrev rm_X12_isTrue : Room := { frames := 2, cells := 0, slots := 0, locals := 57 }
set_option maxRecDepth 100000 in
set_option maxHeartbeats 8000000 in
theorem W_X12_isTrue_L2 {p : Program} {e : Env} {s : State} {m : MethodId} {args : Array Value} {below : List Frame} {meth : Method} {c : Code} {A : Nat → Prop} (l : Launch) (D : va_G) (G : hG) (Z : hZ) (Y : va_W) (σ0 : hSt) (F : Nat) (x1 : Int32) (x2 : Int32) (y1 : Int32) (y2 : Int32) (res : (Int32 × hSt)) (C0 : Cx p s m args meth c cX12_isTrue (some .boolean) RX12 4 D G A) (hA : ∀ q : Nat, s.heap.size ≤ q → A q) (k26 : hSt → Option (Int32 × hSt)) (hk26 : ∀ (σ1 : hSt), k26 σ1 = some res → ∀ (H : Heap) (locs : List Loc) (ls : Array Slot), va_P D vwCl (mW G Z Y σ1) H → va_D A (mW G Z Y σ1) → va_S A s.heap H locs → lv_has ls 4 [(0, .ref (G.2.1 200)), (1, .int y1)] → W p l e rm_X12_isTrue s m args below meth c H locs 0 0 (MQ below (Qg (some (.int res.1)) D (tysG G) (mW G Z Y res.2) A) args s 0 0 A) (F0 m 26 ls [])) : ∀ (n : Nat) (σ1 : hSt) (z3 : Int32), f_X12_isTrue_L2 y1 y2 k26 n σ1 z3 = some res → ∀ (H : Heap) (locs : List Loc) (ls : Array Slot), va_P D vwCl (mW G Z Y σ1) H → va_D A (mW G Z Y σ1) → va_S A s.heap H locs → lv_has ls 4 [(0, .ref (G.2.1 200)), (1, .int y1), (2, .int y2), (3, .int z3)] → W p l e rm_X12_isTrue s m args below meth c H locs 0 0 (MQ below (Qg (some (.int res.1)) D (tysG G) (mW G Z Y res.2) A) args s 0 0 A) (F0 m 2 ls []) := by
  obtain ⟨hx, hb, hr, hml, hown, hts, hlocks, hK, hE⟩ := id C0
  intro n
  induction n with
  | zero =>
    intro σ1 z3 h
    cases h
  | succ n ih =>
    intro σ1 z3 h H locs ls hP hD hS hl
    rw [f_X12_isTrue_L2] at h
    refine lv_iload_n hx hb dX12_isTrue_2 rfl (lv_at hl 3 rfl) ?_
    refine lv_bipush (v := 6) hx hb dX12_isTrue_3 (by decide) ?_
    refine lv_icmp_ge (tgt := 26) hx hb dX12_isTrue_5 (by decide) (fun c1 => ?_) (fun c1 => ?_)
    · skip
      have h := f_t c1 h
      exact hk26 σ1 h _ _ _ hP hD hS (lv_sub hl [0, 1] rfl)
    · skip
      have h := f_f c1 h
      refine lv_aload_n hx hb dX12_isTrue_8 rfl (lv_at hl 0 rfl) ?_
      refine va_get (D := D) (ci := 12) (v := .ref (G.2.1 208)) (C := RX12) (T := TX12) (N := 59) hx hb hts inU_X12 hown hK hP _ (mg_200 G Z Y σ1) rfl 18 (by decide) (hts _ wd_1266) (fun _ h9 => h9) rfl dX12_isTrue_9 ?_
      refine lv_iload_n hx hb dX12_isTrue_12 rfl (lv_at hl 3 rfl) ?_
      refine lv_iload_n hx hb dX12_isTrue_13 rfl (lv_at hl 2 rfl) ?_
      refine lv_iload_n hx hb dX12_isTrue_14 rfl (lv_at hl 3 rfl) ?_
      refine lv_ishr hx hb dX12_isTrue_15 ?_
      refine lv_iconst (v := 1) hx hb dX12_isTrue_16 (by decide) ?_
      refine lv_iand hx hb dX12_isTrue_17 ?_
      refine lv_i2l (v := (((y2 >>> (z3 &&& 31)) &&& (1 : Int32)) : Int32).toInt64) hx hb dX12_isTrue_18 rfl ?_
      obtain ⟨c2, h⟩ := f_n h
      refine va_last hx hb hK hP hD hS _ 1 (mg_208 G Z Y σ1) rfl c2 dX12_isTrue_19 (fun H locs hP hD hS => ?_)
      have hP := wrP (mp_208 G Z Y σ1 _ _) hP
      have hD := wrD (mp_208 G Z Y σ1 _ _) hD
      refine lv_iinc (v := (z3 + 1)) (lv' := [(3, .int (z3 + 1)), (0, .ref (G.2.1 200)), (1, .int y1), (2, .int y2)]) hx hb dX12_isTrue_20 hl (k := 3) rfl rfl (by decide) rfl (fun ls hl => ?_)
      refine lv_goto (tgt := 2) hx hb dX12_isTrue_23 (by decide) ?_
      exact ih (sJ σ1 208 ((z3 : Int32).toNatClampNeg) ((((y2 >>> (z3 &&& 31)) &&& (1 : Int32)) : Int32).toInt64)) (z3 + 1) h _ _ _ hP hD hS (lv_sub hl [1, 2, 3, 0] rfl)
set_option maxRecDepth 100000 in
set_option maxHeartbeats 8000000 in
theorem c_X12_isTrue (l : Launch) (D : va_G) (G : hG) (Z : hZ) (Y : va_W) (σ0 : hSt) (F : Nat) (x1 : Int32) (x2 : Int32) (res : (Int32 × hSt)) (h : f_X12_isTrue F Z σ0 x1 x2 = some res) : CT l yX12_isTrue cX12_isTrue 4 (some .boolean) rm_X12_isTrue D G 0 0 [.ref (G.2.1 200), .int x1, .int x2] (mW G Z Y σ0) (mW G Z Y res.2) (some (.int res.1)) := by
  unfold f_X12_isTrue at h
  refine CT.mk (cc := cX12_isTrue) (maxL := 4) (ret := (some .boolean)) (own := RX12) (plainFor_of_name (by decide)) rfl (Nat.le_of_ble_eq_true rfl) ?_
  intro p e s m args below meth c A ls C0 hnm hA hP hD hl
  obtain ⟨hx, hb, hr, hml, hown, hts, hlocks, hK, hE⟩ := id C0
  have hS : va_S A s.heap s.heap [] := va_S.rf
  have hl : lv_has ls 4 [(0, .ref (G.2.1 200)), (1, .int x1), (2, .int x2)] := hl
  refine lv_iconst (v := 0) hx hb dX12_isTrue_0 (by decide) ?_
  refine lv_istore_n (lv' := [(3, .int (0 : Int32)), (0, .ref (G.2.1 200)), (1, .int x1), (2, .int x2)]) hx hb dX12_isTrue_1 rfl hl (by decide) rfl (fun ls hl => ?_)
  refine W_X12_isTrue_L2 l D G Z Y σ0 F x1 x2 x1 x2 res C0 hA _ ?_ F σ0 (0 : Int32) h _ _ _ hP hD hS (lv_sub hl [1, 2, 3, 0] rfl)
  · intro σ1 h H locs ls hP hD hS hl
    refine lv_aload_n hx hb dX12_isTrue_26 rfl (lv_at hl 0 rfl) ?_
    refine lv_iload_n hx hb dX12_isTrue_27 rfl (lv_at hl 1 rfl) ?_
    refine lv_ldc2 (v := 1000000007) hx hb hown (hts _ wd_1505) dX12_isTrue_28 ?_
    obtain ⟨q3, hq3, h⟩ := f_b h
    refine cl_V (w := (mW G Z Y σ1)) (w' := (mW G Z Y q3.2)) (rv := some (.long q3.1)) (bytes := cX12_worthAt) (maxL := 13) (ret := (some .long)) (C := RX12) (As := [.int x1, .long (1000000007 : Int64)]) (rest := []) (stk := [.long q3.1]) ⟨hx, hb, hml, hown, hts⟩ hK hE hA hP hD hS (c_X12_worthAt l D G Z Y σ1 F x1 (1000000007 : Int64) q3 hq3) (cwV 2 hts (gwV wd_1510 wd_1512 wp_60 wd_11 wd_1513) rfl rfl rfl hd_X12_worthAt ⟨Nat.le_of_ble_eq_true rfl, Nat.le_of_ble_eq_true rfl⟩) (mg_200 G Z Y σ1) rfl rfl rfl hl.1 rfl (Nat.le_of_ble_eq_true rfl) dX12_isTrue_31 ⟨Nat.zero_le _, Nat.zero_le _⟩ rfl (fun H locs hP hD hS => ?_)
    refine lv_lconst (v := 1) hx hb dX12_isTrue_34 (by decide) ?_
    refine W.lcmp hx hb dX12_isTrue_35 ?_
    refine lv_if_ne (tgt := 43) hx hb dX12_isTrue_36 (by decide) (fun c4 => ?_) (fun c4 => ?_)
    · skip
      have c4 := mt (lg_cmp_eq _ _).mpr c4
      have h := f_f c4 h
      refine lv_iconst (v := 0) hx hb dX12_isTrue_43 (by decide) ?_
      obtain rfl := Option.some.inj h
      exact W.zret (v := (0 : Int32)) hx hb hr rfl (q_end hK hP hD hS) hS.2.2 dX12_isTrue_44
    · skip
      have c4 := (lg_cmp_eq _ _).mp c4
      have h := f_t c4 h
      refine lv_iconst (v := 1) hx hb dX12_isTrue_39 (by decide) ?_
      refine lv_goto (tgt := 44) hx hb dX12_isTrue_40 (by decide) ?_
      obtain rfl := Option.some.inj h
      exact W.zret (v := (1 : Int32)) hx hb hr rfl (q_end hK hP hD hS) hS.2.2 dX12_isTrue_44
abbrev rm_X12_truth : Room := { frames := 3, cells := 0, slots := 0, locals := 80 }
set_option maxRecDepth 100000 in
set_option maxHeartbeats 8000000 in
theorem c_X12_truth (l : Launch) (D : va_G) (G : hG) (Z : hZ) (Y : va_W) (σ0 : hSt) (F : Nat) (x1 : Int32) (x2 : Int32) (res : (Int32 × hSt)) (h : f_X12_truth F Z σ0 x1 x2 = some res) : CT l yX12_truth cX12_truth 3 (some .int) rm_X12_truth D G 0 0 [.ref (G.2.1 200), .int x1, .int x2] (mW G Z Y σ0) (mW G Z Y res.2) (some (.int res.1)) := by
  unfold f_X12_truth at h
  refine CT.mk (cc := cX12_truth) (maxL := 3) (ret := (some .int)) (own := RX12) (plainFor_of_name (by decide)) rfl (Nat.le_of_ble_eq_true rfl) ?_
  intro p e s m args below meth c A ls C0 hnm hA hP hD hl
  obtain ⟨hx, hb, hr, hml, hown, hts, hlocks, hK, hE⟩ := id C0
  have hS : va_S A s.heap s.heap [] := va_S.rf
  have hl : lv_has ls 3 [(0, .ref (G.2.1 200)), (1, .int x1), (2, .int x2)] := hl
  refine lv_aload_n hx hb dX12_truth_0 rfl (lv_at hl 0 rfl) ?_
  refine lv_iconst (v := 0) hx hb dX12_truth_1 (by decide) ?_
  refine va_put (D := D) (ci := 12) (v := .int (0 : Int32)) (ty := .int) (C := RX12) (T := TX12) (N := 59) hx hb hts inU_X12 tyX12 tyX12_ok nmX12 hown hK hP hD hS _ (mg_200 G Z Y σ0) rfl 0 (by decide) (hts _ wd_1248) (fun _ h9 => h9) rfl (by decide +kernel) rfl rfl (Nat.le_of_ble_eq_true rfl) dX12_truth_2 (fun H locs hP hD hS => ?_)
  have hP := wrP (mp_200_0 G Z Y σ0 (0 : Int32)) hP
  have hD := wrD (mp_200_0 G Z Y σ0 (0 : Int32)) hD
  refine lv_aload_n hx hb dX12_truth_5 rfl (lv_at hl 0 rfl) ?_
  refine lv_iload_n hx hb dX12_truth_6 rfl (lv_at hl 1 rfl) ?_
  obtain ⟨q1, hq1, h⟩ := f_b h
  refine cl_V (w := (mW G Z Y (sI σ0 200 0 (0 : Int32)))) (w' := (mW G Z Y (sI σ0 200 0 (0 : Int32)))) (rv := some (.int q1)) (bytes := cX12_isSaying) (maxL := 2) (ret := (some .boolean)) (C := RX12) (As := [.int x1]) (rest := []) (stk := [.int q1]) ⟨hx, hb, hml, hown, hts⟩ hK hE hA hP hD hS (c_X12_isSaying l D G Z Y (sI σ0 200 0 (0 : Int32)) x1 q1 hq1) (cwV 1 hts (gwV wd_1493 wd_1495 wp_57 wd_11 wd_1496) rfl rfl rfl hd_X12_isSaying ⟨Nat.le_of_ble_eq_true rfl, Nat.le_of_ble_eq_true rfl⟩) (mg_200 G Z Y (sI σ0 200 0 (0 : Int32))) rfl rfl rfl hl.1 rfl (Nat.le_of_ble_eq_true rfl) dX12_truth_7 ⟨Nat.zero_le _, Nat.zero_le _⟩ rfl (fun H locs hP hD hS => ?_)
  refine lv_if_eq (tgt := 25) hx hb dX12_truth_10 (by decide) (fun c2 => ?_) (fun c2 => ?_)
  · skip
    have h := f_t c2 h
    refine lv_iconst (v := (-1)) hx hb dX12_truth_25 (by decide) ?_
    refine lv_goto (tgt := 43) hx hb dX12_truth_26 (by decide) ?_
    obtain rfl := Option.some.inj h
    exact W.iret (v := (-1 : Int32)) hx hb hr (q_end hK hP hD hS) hS.2.2 dX12_truth_43
  · skip
    have h := f_f c2 h
    refine lv_iload_n hx hb dX12_truth_13 rfl (lv_at hl 2 rfl) ?_
    refine lv_i2l (v := (x2 : Int32).toInt64) hx hb dX12_truth_14 rfl ?_
    refine lv_lconst (v := 0) hx hb dX12_truth_15 (by decide) ?_
    refine lv_ldc2 (v := 63) hx hb hown (hts _ wd_1521) dX12_truth_16 ?_
    obtain ⟨q3, hq3, h⟩ := f_b h
    refine cl_S (w := (mW G Z Y (sI σ0 200 0 (0 : Int32)))) (w' := (mW G Z Y (sI σ0 200 0 (0 : Int32)))) (rv := some (.int q3)) (bytes := cX12_isIn) (maxL := 6) (ret := (some .boolean)) (As := [.long (x2 : Int32).toInt64, .long (0 : Int64), .long (63 : Int64)]) (rest := []) (stk := [.int q3]) ⟨hx, hb, hml, hown, hts⟩ hK hE hA hP hD hS (c_X12_isIn l D G (mW G Z Y (sI σ0 200 0 (0 : Int32))) ((x2 : Int32).toInt64) (0 : Int64) (63 : Int64) q3 hq3) (mkS hts wd_1498 wd_1499 wd_11 wd_1500 rfl rfl hd_X12_isIn ⟨Nat.le_of_ble_eq_true rfl, Nat.le_of_ble_eq_true rfl⟩) rfl hl.1 rfl (Nat.le_of_ble_eq_true rfl) dX12_truth_19 ⟨Nat.zero_le _, Nat.zero_le _⟩ rfl (fun H locs hP hD hS => ?_)
    refine lv_if_ne (tgt := 29) hx hb dX12_truth_22 (by decide) (fun c4 => ?_) (fun c4 => ?_)
    · skip
      have h := f_f c4 h
      refine lv_aload_n hx hb dX12_truth_29 rfl (lv_at hl 0 rfl) ?_
      refine lv_iload_n hx hb dX12_truth_30 rfl (lv_at hl 1 rfl) ?_
      refine lv_iload_n hx hb dX12_truth_31 rfl (lv_at hl 2 rfl) ?_
      obtain ⟨q5, hq5, h⟩ := f_b h
      refine cl_V (w := (mW G Z Y (sI σ0 200 0 (0 : Int32)))) (w' := (mW G Z Y q5.2)) (rv := some (.int q5.1)) (bytes := cX12_isTrue) (maxL := 4) (ret := (some .boolean)) (C := RX12) (As := [.int x1, .int x2]) (rest := []) (stk := [.int q5.1]) ⟨hx, hb, hml, hown, hts⟩ hK hE hA hP hD hS (c_X12_isTrue l D G Z Y (sI σ0 200 0 (0 : Int32)) F x1 x2 q5 hq5) (cwV 2 hts (gwV wd_1522 wd_1524 wp_61 wd_11 wd_1525) rfl rfl rfl hd_X12_isTrue ⟨Nat.le_of_ble_eq_true rfl, Nat.le_of_ble_eq_true rfl⟩) (mg_200 G Z Y (sI σ0 200 0 (0 : Int32))) rfl rfl rfl hl.1 rfl (Nat.le_of_ble_eq_true rfl) dX12_truth_32 ⟨Nat.zero_le _, Nat.zero_le _⟩ rfl (fun H locs hP hD hS => ?_)
      refine lv_if_eq (tgt := 42) hx hb dX12_truth_35 (by decide) (fun c6 => ?_) (fun c6 => ?_)
      · skip
        have h := f_t c6 h
        refine lv_iconst (v := 0) hx hb dX12_truth_42 (by decide) ?_
        obtain rfl := Option.some.inj h
        exact W.iret (v := (0 : Int32)) hx hb hr (q_end hK hP hD hS) hS.2.2 dX12_truth_43
      · skip
        have h := f_f c6 h
        refine lv_iconst (v := 1) hx hb dX12_truth_38 (by decide) ?_
        refine lv_goto (tgt := 43) hx hb dX12_truth_39 (by decide) ?_
        obtain rfl := Option.some.inj h
        exact W.iret (v := (1 : Int32)) hx hb hr (q_end hK hP hD hS) hS.2.2 dX12_truth_43
    · skip
      have h := f_t c4 h
      refine lv_iconst (v := (-1)) hx hb dX12_truth_25 (by decide) ?_
      refine lv_goto (tgt := 43) hx hb dX12_truth_26 (by decide) ?_
      obtain rfl := Option.some.inj h
      exact W.iret (v := (-1 : Int32)) hx hb hr (q_end hK hP hD hS) hS.2.2 dX12_truth_43
abbrev rm_X12_lay : Room := { frames := 0, cells := 0, slots := 0, locals := 0 }
set_option maxRecDepth 100000 in
set_option maxHeartbeats 8000000 in
theorem c_X12_lay (l : Launch) (D : va_G) (G : hG) (Z : hZ) (Y : va_W) (σ0 : hSt) (x1 : Int32) (res : (Int32 × hSt)) (h : f_X12_lay Z σ0 x1 = some res) : CT l yX12_lay cX12_lay 2 (some .int) rm_X12_lay D G 0 0 [.ref (G.2.1 200), .int x1] (mW G Z Y σ0) (mW G Z Y res.2) (some (.int res.1)) := by
  unfold f_X12_lay at h
  refine CT.mk (cc := cX12_lay) (maxL := 2) (ret := (some .int)) (own := RX12) (plainFor_of_name (by decide)) rfl (Nat.le_of_ble_eq_true rfl) ?_
  intro p e s m args below meth c A ls C0 hnm hA hP hD hl
  obtain ⟨hx, hb, hr, hml, hown, hts, hlocks, hK, hE⟩ := id C0
  have hS : va_S A s.heap s.heap [] := va_S.rf
  have hl : lv_has ls 2 [(0, .ref (G.2.1 200)), (1, .int x1)] := hl
  refine lv_aload_n hx hb dX12_lay_0 rfl (lv_at hl 0 rfl) ?_
  refine lv_iconst (v := 0) hx hb dX12_lay_1 (by decide) ?_
  refine va_put (D := D) (ci := 12) (v := .int (0 : Int32)) (ty := .int) (C := RX12) (T := TX12) (N := 59) hx hb hts inU_X12 tyX12 tyX12_ok nmX12 hown hK hP hD hS _ (mg_200 G Z Y σ0) rfl 0 (by decide) (hts _ wd_1248) (fun _ h9 => h9) rfl (by decide +kernel) rfl rfl (Nat.le_of_ble_eq_true rfl) dX12_lay_2 (fun H locs hP hD hS => ?_)
  have hP := wrP (mp_200_0 G Z Y σ0 (0 : Int32)) hP
  have hD := wrD (mp_200_0 G Z Y σ0 (0 : Int32)) hD
  refine lv_iload_n hx hb dX12_lay_5 rfl (lv_at hl 1 rfl) ?_
  refine lv_if_lt (tgt := 18) hx hb dX12_lay_6 (by decide) (fun c1 => ?_) (fun c1 => ?_)
  · skip
    have h := f_t c1 h
    refine lv_iconst (v := (-1)) hx hb dX12_lay_18 (by decide) ?_
    obtain rfl := Option.some.inj h
    exact W.iret (v := (-1 : Int32)) hx hb hr (q_end hK hP hD hS) hS.2.2 dX12_lay_19
  · skip
    have h := f_f c1 h
    refine lv_aload_n hx hb dX12_lay_9 rfl (lv_at hl 0 rfl) ?_
    refine va_get (D := D) (ci := 12) (v := .int (σ0.1 200 20)) (C := RX12) (T := TX12) (N := 59) hx hb hts inU_X12 hown hK hP _ (mg_200 G Z Y (sI σ0 200 0 (0 : Int32))) rfl 20 (by decide) (hts _ wd_1268) (fun _ h9 => h9) rfl dX12_lay_10 ?_
    refine lv_bipush (v := 6) hx hb dX12_lay_13 (by decide) ?_
    refine lv_icmp_ne (tgt := 20) hx hb dX12_lay_15 (by decide) (fun c2 => ?_) (fun c2 => ?_)
    · skip
      have h := f_f c2 h
      refine lv_aload_n hx hb dX12_lay_20 rfl (lv_at hl 0 rfl) ?_
      refine va_get (D := D) (ci := 12) (v := .ref (G.2.1 209)) (C := RX12) (T := TX12) (N := 59) hx hb hts inU_X12 hown hK hP _ (mg_200 G Z Y (sI σ0 200 0 (0 : Int32))) rfl 19 (by decide) (hts _ wd_1267) (fun _ h9 => h9) rfl dX12_lay_21 ?_
      refine lv_aload_n hx hb dX12_lay_24 rfl (lv_at hl 0 rfl) ?_
      refine va_get (D := D) (ci := 12) (v := .int (σ0.1 200 20)) (C := RX12) (T := TX12) (N := 59) hx hb hts inU_X12 hown hK hP _ (mg_200 G Z Y (sI σ0 200 0 (0 : Int32))) rfl 20 (by decide) (hts _ wd_1268) (fun _ h9 => h9) rfl dX12_lay_25 ?_
      refine lv_iload_n hx hb dX12_lay_28 rfl (lv_at hl 1 rfl) ?_
      obtain ⟨c3, h⟩ := f_n h
      refine va_iast hx hb hK hP hD hS _ 0 (mg_209 G Z Y (sI σ0 200 0 (0 : Int32))) rfl c3 dX12_lay_29 (fun H locs hP hD hS => ?_)
      have hP := wrP (mp_209 G Z Y (sI σ0 200 0 (0 : Int32)) _ _) hP
      have hD := wrD (mp_209 G Z Y (sI σ0 200 0 (0 : Int32)) _ _) hD
      refine lv_aload_n hx hb dX12_lay_30 rfl (lv_at hl 0 rfl) ?_
      refine lv_dup hx hb dX12_lay_31 rfl ?_
      refine va_get (D := D) (ci := 12) (v := .int (σ0.1 200 20)) (C := RX12) (T := TX12) (N := 59) hx hb hts inU_X12 hown hK hP _ (mg_200 G Z Y (sI (sI σ0 200 0 (0 : Int32)) 209 (((σ0.1 200 20) : Int32).toNatClampNeg) x1)) rfl 20 (by decide) (hts _ wd_1268) (fun _ h9 => h9) rfl dX12_lay_32 ?_
      refine lv_iconst (v := 1) hx hb dX12_lay_35 (by decide) ?_
      refine lv_iadd hx hb dX12_lay_36 ?_
      refine va_put (D := D) (ci := 12) (v := .int ((σ0.1 200 20) + (1 : Int32))) (ty := .int) (C := RX12) (T := TX12) (N := 59) hx hb hts inU_X12 tyX12 tyX12_ok nmX12 hown hK hP hD hS _ (mg_200 G Z Y (sI (sI σ0 200 0 (0 : Int32)) 209 (((σ0.1 200 20) : Int32).toNatClampNeg) x1)) rfl 20 (by decide) (hts _ wd_1268) (fun _ h9 => h9) rfl (by decide +kernel) rfl rfl (Nat.le_of_ble_eq_true rfl) dX12_lay_37 (fun H locs hP hD hS => ?_)
      have hP := wrP (mp_200_20 G Z Y (sI (sI σ0 200 0 (0 : Int32)) 209 (((σ0.1 200 20) : Int32).toNatClampNeg) x1) ((σ0.1 200 20) + (1 : Int32))) hP
      have hD := wrD (mp_200_20 G Z Y (sI (sI σ0 200 0 (0 : Int32)) 209 (((σ0.1 200 20) : Int32).toNatClampNeg) x1) ((σ0.1 200 20) + (1 : Int32))) hD
      refine lv_aload_n hx hb dX12_lay_40 rfl (lv_at hl 0 rfl) ?_
      refine va_get (D := D) (ci := 12) (v := .int ((σ0.1 200 20) + (1 : Int32))) (C := RX12) (T := TX12) (N := 59) hx hb hts inU_X12 hown hK hP _ (mg_200 G Z Y (sI (sI (sI σ0 200 0 (0 : Int32)) 209 (((σ0.1 200 20) : Int32).toNatClampNeg) x1) 200 20 ((σ0.1 200 20) + (1 : Int32)))) rfl 20 (by decide) (hts _ wd_1268) (fun _ h9 => h9) rfl dX12_lay_41 ?_
      refine lv_iconst (v := 1) hx hb dX12_lay_44 (by decide) ?_
      refine lv_isub hx hb dX12_lay_45 ?_
      obtain rfl := Option.some.inj h
      exact W.iret (v := (((σ0.1 200 20) + (1 : Int32)) - (1 : Int32))) hx hb hr (q_end hK hP hD hS) hS.2.2 dX12_lay_46
    · skip
      have h := f_t c2 h
      refine lv_iconst (v := (-1)) hx hb dX12_lay_18 (by decide) ?_
      obtain rfl := Option.some.inj h
      exact W.iret (v := (-1 : Int32)) hx hb hr (q_end hK hP hD hS) hS.2.2 dX12_lay_19
abbrev rm_X12_clear : Room := { frames := 0, cells := 0, slots := 0, locals := 0 }
set_option maxRecDepth 100000 in
set_option maxHeartbeats 8000000 in
theorem c_X12_clear (l : Launch) (D : va_G) (G : hG) (Z : hZ) (Y : va_W) (σ0 : hSt) (res : (Int32 × hSt)) (h : f_X12_clear Z σ0 = some res) : CT l yX12_clear cX12_clear 2 (some .int) rm_X12_clear D G 0 0 [.ref (G.2.1 200)] (mW G Z Y σ0) (mW G Z Y res.2) (some (.int res.1)) := by
  unfold f_X12_clear at h
  refine CT.mk (cc := cX12_clear) (maxL := 2) (ret := (some .int)) (own := RX12) (plainFor_of_name (by decide)) rfl (Nat.le_of_ble_eq_true rfl) ?_
  intro p e s m args below meth c A ls C0 hnm hA hP hD hl
  obtain ⟨hx, hb, hr, hml, hown, hts, hlocks, hK, hE⟩ := id C0
  have hS : va_S A s.heap s.heap [] := va_S.rf
  have hl : lv_has ls 2 [(0, .ref (G.2.1 200))] := hl
  refine lv_aload_n hx hb dX12_clear_0 rfl (lv_at hl 0 rfl) ?_
  refine lv_iconst (v := 0) hx hb dX12_clear_1 (by decide) ?_
  refine va_put (D := D) (ci := 12) (v := .int (0 : Int32)) (ty := .int) (C := RX12) (T := TX12) (N := 59) hx hb hts inU_X12 tyX12 tyX12_ok nmX12 hown hK hP hD hS _ (mg_200 G Z Y σ0) rfl 0 (by decide) (hts _ wd_1248) (fun _ h9 => h9) rfl (by decide +kernel) rfl rfl (Nat.le_of_ble_eq_true rfl) dX12_clear_2 (fun H locs hP hD hS => ?_)
  have hP := wrP (mp_200_0 G Z Y σ0 (0 : Int32)) hP
  have hD := wrD (mp_200_0 G Z Y σ0 (0 : Int32)) hD
  refine lv_aload_n hx hb dX12_clear_5 rfl (lv_at hl 0 rfl) ?_
  refine va_get (D := D) (ci := 12) (v := .int (σ0.1 200 20)) (C := RX12) (T := TX12) (N := 59) hx hb hts inU_X12 hown hK hP _ (mg_200 G Z Y (sI σ0 200 0 (0 : Int32))) rfl 20 (by decide) (hts _ wd_1268) (fun _ h9 => h9) rfl dX12_clear_6 ?_
  refine lv_istore_n (lv' := [(1, .int (σ0.1 200 20)), (0, .ref (G.2.1 200))]) hx hb dX12_clear_9 rfl hl (by decide) rfl (fun ls hl => ?_)
  refine lv_aload_n hx hb dX12_clear_10 rfl (lv_at hl 1 rfl) ?_
  refine lv_iconst (v := 0) hx hb dX12_clear_11 (by decide) ?_
  refine va_put (D := D) (ci := 12) (v := .int (0 : Int32)) (ty := .int) (C := RX12) (T := TX12) (N := 59) hx hb hts inU_X12 tyX12 tyX12_ok nmX12 hown hK hP hD hS _ (mg_200 G Z Y (sI σ0 200 0 (0 : Int32))) rfl 20 (by decide) (hts _ wd_1268) (fun _ h9 => h9) rfl (by decide +kernel) rfl rfl (Nat.le_of_ble_eq_true rfl) dX12_clear_12 (fun H locs hP hD hS => ?_)
  have hP := wrP (mp_200_20 G Z Y (sI σ0 200 0 (0 : Int32)) (0 : Int32)) hP
  have hD := wrD (mp_200_20 G Z Y (sI σ0 200 0 (0 : Int32)) (0 : Int32)) hD
  refine lv_iload_n hx hb dX12_clear_15 rfl (lv_at hl 0 rfl) ?_
  obtain rfl := Option.some.inj h
  exact W.iret (v := (σ0.1 200 20)) hx hb hr (q_end hK hP hD hS) hS.2.2 dX12_clear_16
abbrev rm_X12_isPrime : Room := { frames := 0, cells := 0, slots := 0, locals := 0 }
set_option maxRecDepth 100000 in
set_option maxHeartbeats 8000000 in
theorem W_X12_isPrime_L11 {p : Program} {e : Env} {s : State} {m : MethodId} {args : Array Value} {below : List Frame} {meth : Method} {c : Code} {A : Nat → Prop} (l : Launch) (D : va_G) (G : hG) (w : va_W) (F : Nat) (x0 : Int32) (y0 : Int32) (res : Int32) (C0 : Cx p s m args meth c cX12_isPrime (some .boolean) RX12 3 D G A) (hA : ∀ q : Nat, s.heap.size ≤ q → A q) : ∀ (n : Nat) (z1 : Int64), f_X12_isPrime_L11 y0 n z1 = some res → ∀ (H : Heap) (locs : List Loc) (ls : Array Slot), va_P D vwCl w H → va_D A w → va_S A s.heap H locs → lv_has ls 3 [(0, .int y0), (1, .long z1)] → W p l e rm_X12_isPrime s m args below meth c H locs 0 0 (MQ below (Qg (some (.int res)) D (tysG G) w A) args s 0 0 A) (F0 m 11 ls []) := by
  obtain ⟨hx, hb, hr, hml, hown, hts, hlocks, hK, hE⟩ := id C0
  intro n
  induction n with
  | zero =>
    intro z1 h
    cases h
  | succ n ih =>
    intro z1 h H locs ls hP hD hS hl
    rw [f_X12_isPrime_L11] at h
    refine lv_lload_n hx hb dX12_isPrime_11 rfl (lv_at hl 1 rfl) ?_
    refine lv_lload_n hx hb dX12_isPrime_12 rfl (lv_at hl 1 rfl) ?_
    refine lv_lmul hx hb dX12_isPrime_13 ?_
    refine lv_iload_n hx hb dX12_isPrime_14 rfl (lv_at hl 0 rfl) ?_
    refine lv_i2l (v := (y0 : Int32).toInt64) hx hb dX12_isPrime_15 rfl ?_
    refine W.lcmp hx hb dX12_isPrime_16 ?_
    refine lv_if_gt (tgt := 38) hx hb dX12_isPrime_17 (by decide) (fun c2 => ?_) (fun c2 => ?_)
    · skip
      have c2 := (lg_cmp_gt _ _).mp c2
      have h := f_t c2 h
      refine lv_iconst (v := 1) hx hb dX12_isPrime_38 (by decide) ?_
      obtain rfl := Option.some.inj h
      exact W.zret (v := (1 : Int32)) hx hb hr rfl (q_end hK hP hD hS) hS.2.2 dX12_isPrime_39
    · skip
      have c2 := mt (lg_cmp_gt _ _).mpr c2
      have h := f_f c2 h
      refine lv_iload_n hx hb dX12_isPrime_20 rfl (lv_at hl 0 rfl) ?_
      refine lv_i2l (v := (y0 : Int32).toInt64) hx hb dX12_isPrime_21 rfl ?_
      refine lv_lload_n hx hb dX12_isPrime_22 rfl (lv_at hl 1 rfl) ?_
      obtain ⟨c3, h⟩ := f_n h
      refine lv_lrem hx hb dX12_isPrime_23 c3 ?_
      refine lv_lconst (v := 0) hx hb dX12_isPrime_24 (by decide) ?_
      refine W.lcmp hx hb dX12_isPrime_25 ?_
      refine lv_if_ne (tgt := 31) hx hb dX12_isPrime_26 (by decide) (fun c4 => ?_) (fun c4 => ?_)
      · skip
        have c4 := mt (lg_cmp_eq _ _).mpr c4
        have h := f_f c4 h
        refine lv_lload_n hx hb dX12_isPrime_31 rfl (lv_at hl 1 rfl) ?_
        refine lv_lconst (v := 1) hx hb dX12_isPrime_32 (by decide) ?_
        refine lv_ladd hx hb dX12_isPrime_33 ?_
        refine lv_lstore_n (lv' := [(1, .long (z1 + (1 : Int64))), (0, .int y0)]) hx hb dX12_isPrime_34 rfl hl (by decide) rfl (fun ls hl => ?_)
        refine lv_goto (tgt := 11) hx hb dX12_isPrime_35 (by decide) ?_
        exact ih (z1 + (1 : Int64)) h _ _ _ hP hD hS (lv_sub hl [1, 0] rfl)
      · skip
        have c4 := (lg_cmp_eq _ _).mp c4
        have h := f_t c4 h
        refine lv_iconst (v := 0) hx hb dX12_isPrime_29 (by decide) ?_
        obtain rfl := Option.some.inj h
        exact W.zret (v := (0 : Int32)) hx hb hr rfl (q_end hK hP hD hS) hS.2.2 dX12_isPrime_30
set_option maxRecDepth 100000 in
set_option maxHeartbeats 8000000 in
theorem c_X12_isPrime (l : Launch) (D : va_G) (G : hG) (w : va_W) (F : Nat) (x0 : Int32) (res : Int32) (h : f_X12_isPrime F x0 = some res) : CT l yX12_isPrime cX12_isPrime 3 (some .boolean) rm_X12_isPrime D G 0 0 [.int x0] w w (some (.int res)) := by
  unfold f_X12_isPrime at h
  refine CT.mk (cc := cX12_isPrime) (maxL := 3) (ret := (some .boolean)) (own := RX12) (plainFor_of_name (by decide)) rfl (Nat.le_of_ble_eq_true rfl) ?_
  intro p e s m args below meth c A ls C0 hnm hA hP hD hl
  obtain ⟨hx, hb, hr, hml, hown, hts, hlocks, hK, hE⟩ := id C0
  have hS : va_S A s.heap s.heap [] := va_S.rf
  have hl : lv_has ls 3 [(0, .int x0)] := hl
  refine lv_iload_n hx hb dX12_isPrime_0 rfl (lv_at hl 0 rfl) ?_
  refine lv_iconst (v := 2) hx hb dX12_isPrime_1 (by decide) ?_
  refine lv_icmp_ge (tgt := 7) hx hb dX12_isPrime_2 (by decide) (fun c1 => ?_) (fun c1 => ?_)
  · skip
    have h := f_t c1 h
    refine lv_ldc2 (v := 2) hx hb hown (hts _ wd_1541) dX12_isPrime_7 ?_
    refine lv_lstore_n (lv' := [(1, .long (2 : Int64)), (0, .int x0)]) hx hb dX12_isPrime_10 rfl hl (by decide) rfl (fun ls hl => ?_)
    refine W_X12_isPrime_L11 l D G w F x0 x0 res C0 hA F (2 : Int64) h _ _ _ hP hD hS (lv_sub hl [1, 0] rfl)
  · skip
    have h := f_f c1 h
    refine lv_iconst (v := 0) hx hb dX12_isPrime_5 (by decide) ?_
    obtain rfl := Option.some.inj h
    exact W.zret (v := (0 : Int32)) hx hb hr rfl (q_end hK hP hD hS) hS.2.2 dX12_isPrime_6
abbrev rm_X12_isRing : Room := { frames := 1, cells := 0, slots := 0, locals := 25 }
set_option maxRecDepth 100000 in
set_option maxHeartbeats 8000000 in
theorem c_X12_isRing (l : Launch) (D : va_G) (G : hG) (w : va_W) (F : Nat) (x0 : Int32) (res : Int32) (h : f_X12_isRing F x0 = some res) : CT l yX12_isRing cX12_isRing 1 (some .boolean) rm_X12_isRing D G 0 0 [.int x0] w w (some (.int res)) := by
  unfold f_X12_isRing at h
  refine CT.mk (cc := cX12_isRing) (maxL := 1) (ret := (some .boolean)) (own := RX12) (plainFor_of_name (by decide)) rfl (Nat.le_of_ble_eq_true rfl) ?_
  intro p e s m args below meth c A ls C0 hnm hA hP hD hl
  obtain ⟨hx, hb, hr, hml, hown, hts, hlocks, hK, hE⟩ := id C0
  have hS : va_S A s.heap s.heap [] := va_S.rf
  have hl : lv_has ls 1 [(0, .int x0)] := hl
  refine lv_iload_n hx hb dX12_isRing_0 rfl (lv_at hl 0 rfl) ?_
  refine lv_i2l (v := (x0 : Int32).toInt64) hx hb dX12_isRing_1 rfl ?_
  refine lv_ldc2 (v := 3) hx hb hown (hts _ wd_1549) dX12_isRing_2 ?_
  refine lv_ldc2 (v := 1000000007) hx hb hown (hts _ wd_1505) dX12_isRing_5 ?_
  obtain ⟨q1, hq1, h⟩ := f_b h
  refine cl_S (w := w) (w' := w) (rv := some (.int q1)) (bytes := cX12_isIn) (maxL := 6) (ret := (some .boolean)) (As := [.long (x0 : Int32).toInt64, .long (3 : Int64), .long (1000000007 : Int64)]) (rest := []) (stk := [.int q1]) ⟨hx, hb, hml, hown, hts⟩ hK hE hA hP hD hS (c_X12_isIn l D G w ((x0 : Int32).toInt64) (3 : Int64) (1000000007 : Int64) q1 hq1) (mkS hts wd_1498 wd_1499 wd_11 wd_1500 rfl rfl hd_X12_isIn ⟨Nat.le_of_ble_eq_true rfl, Nat.le_of_ble_eq_true rfl⟩) rfl hl.1 rfl (Nat.le_of_ble_eq_true rfl) dX12_isRing_8 ⟨Nat.zero_le _, Nat.zero_le _⟩ rfl (fun H locs hP hD hS => ?_)
  refine lv_if_eq (tgt := 25) hx hb dX12_isRing_11 (by decide) (fun c2 => ?_) (fun c2 => ?_)
  · skip
    have h := f_t c2 h
    refine lv_iconst (v := 0) hx hb dX12_isRing_25 (by decide) ?_
    obtain rfl := Option.some.inj h
    exact W.zret (v := (0 : Int32)) hx hb hr rfl (q_end hK hP hD hS) hS.2.2 dX12_isRing_26
  · skip
    have h := f_f c2 h
    refine lv_iload_n hx hb dX12_isRing_14 rfl (lv_at hl 0 rfl) ?_
    obtain ⟨q3, hq3, h⟩ := f_b h
    refine cl_S (w := w) (w' := w) (rv := some (.int q3)) (bytes := cX12_isPrime) (maxL := 3) (ret := (some .boolean)) (As := [.int x0]) (rest := []) (stk := [.int q3]) ⟨hx, hb, hml, hown, hts⟩ hK hE hA hP hD hS (c_X12_isPrime l D G w F x0 q3 hq3) (mkS hts wd_1538 wd_1539 wd_11 wd_1540 rfl rfl hd_X12_isPrime ⟨Nat.le_of_ble_eq_true rfl, Nat.le_of_ble_eq_true rfl⟩) rfl hl.1 rfl (Nat.le_of_ble_eq_true rfl) dX12_isRing_15 ⟨Nat.zero_le _, Nat.zero_le _⟩ rfl (fun H locs hP hD hS => ?_)
    refine lv_if_eq (tgt := 25) hx hb dX12_isRing_18 (by decide) (fun c4 => ?_) (fun c4 => ?_)
    · skip
      have h := f_t c4 h
      refine lv_iconst (v := 0) hx hb dX12_isRing_25 (by decide) ?_
      obtain rfl := Option.some.inj h
      exact W.zret (v := (0 : Int32)) hx hb hr rfl (q_end hK hP hD hS) hS.2.2 dX12_isRing_26
    · skip
      have h := f_f c4 h
      refine lv_iconst (v := 1) hx hb dX12_isRing_21 (by decide) ?_
      refine lv_goto (tgt := 26) hx hb dX12_isRing_22 (by decide) ?_
      obtain rfl := Option.some.inj h
      exact W.zret (v := (1 : Int32)) hx hb hr rfl (q_end hK hP hD hS) hS.2.2 dX12_isRing_26
abbrev rm_X12_prime : Room := { frames := 1, cells := 0, slots := 0, locals := 25 }
set_option maxRecDepth 100000 in
set_option maxHeartbeats 8000000 in
theorem c_X12_prime (l : Launch) (D : va_G) (G : hG) (Z : hZ) (Y : va_W) (σ0 : hSt) (F : Nat) (x1 : Int32) (res : (Int32 × hSt)) (h : f_X12_prime F Z σ0 x1 = some res) : CT l yX12_prime cX12_prime 2 (some .boolean) rm_X12_prime D G 0 0 [.ref (G.2.1 200), .int x1] (mW G Z Y σ0) (mW G Z Y res.2) (some (.int res.1)) := by
  unfold f_X12_prime at h
  refine CT.mk (cc := cX12_prime) (maxL := 2) (ret := (some .boolean)) (own := RX12) (plainFor_of_name (by decide)) rfl (Nat.le_of_ble_eq_true rfl) ?_
  intro p e s m args below meth c A ls C0 hnm hA hP hD hl
  obtain ⟨hx, hb, hr, hml, hown, hts, hlocks, hK, hE⟩ := id C0
  have hS : va_S A s.heap s.heap [] := va_S.rf
  have hl : lv_has ls 2 [(0, .ref (G.2.1 200)), (1, .int x1)] := hl
  refine lv_aload_n hx hb dX12_prime_0 rfl (lv_at hl 0 rfl) ?_
  refine lv_iconst (v := 0) hx hb dX12_prime_1 (by decide) ?_
  refine va_put (D := D) (ci := 12) (v := .int (0 : Int32)) (ty := .int) (C := RX12) (T := TX12) (N := 59) hx hb hts inU_X12 tyX12 tyX12_ok nmX12 hown hK hP hD hS _ (mg_200 G Z Y σ0) rfl 0 (by decide) (hts _ wd_1248) (fun _ h9 => h9) rfl (by decide +kernel) rfl rfl (Nat.le_of_ble_eq_true rfl) dX12_prime_2 (fun H locs hP hD hS => ?_)
  have hP := wrP (mp_200_0 G Z Y σ0 (0 : Int32)) hP
  have hD := wrD (mp_200_0 G Z Y σ0 (0 : Int32)) hD
  refine lv_iload_n hx hb dX12_prime_5 rfl (lv_at hl 1 rfl) ?_
  refine lv_i2l (v := (x1 : Int32).toInt64) hx hb dX12_prime_6 rfl ?_
  refine lv_lconst (v := 0) hx hb dX12_prime_7 (by decide) ?_
  refine lv_ldc2 (v := 1000000007) hx hb hown (hts _ wd_1505) dX12_prime_8 ?_
  obtain ⟨q1, hq1, h⟩ := f_b h
  refine cl_S (w := (mW G Z Y (sI σ0 200 0 (0 : Int32)))) (w' := (mW G Z Y (sI σ0 200 0 (0 : Int32)))) (rv := some (.int q1)) (bytes := cX12_isIn) (maxL := 6) (ret := (some .boolean)) (As := [.long (x1 : Int32).toInt64, .long (0 : Int64), .long (1000000007 : Int64)]) (rest := []) (stk := [.int q1]) ⟨hx, hb, hml, hown, hts⟩ hK hE hA hP hD hS (c_X12_isIn l D G (mW G Z Y (sI σ0 200 0 (0 : Int32))) ((x1 : Int32).toInt64) (0 : Int64) (1000000007 : Int64) q1 hq1) (mkS hts wd_1498 wd_1499 wd_11 wd_1500 rfl rfl hd_X12_isIn ⟨Nat.le_of_ble_eq_true rfl, Nat.le_of_ble_eq_true rfl⟩) rfl hl.1 rfl (Nat.le_of_ble_eq_true rfl) dX12_prime_11 ⟨Nat.zero_le _, Nat.zero_le _⟩ rfl (fun H locs hP hD hS => ?_)
  refine lv_if_eq (tgt := 28) hx hb dX12_prime_14 (by decide) (fun c2 => ?_) (fun c2 => ?_)
  · skip
    have h := f_t c2 h
    refine lv_iconst (v := 0) hx hb dX12_prime_28 (by decide) ?_
    obtain rfl := Option.some.inj h
    exact W.zret (v := (0 : Int32)) hx hb hr rfl (q_end hK hP hD hS) hS.2.2 dX12_prime_29
  · skip
    have h := f_f c2 h
    refine lv_iload_n hx hb dX12_prime_17 rfl (lv_at hl 1 rfl) ?_
    obtain ⟨q3, hq3, h⟩ := f_b h
    refine cl_S (w := (mW G Z Y (sI σ0 200 0 (0 : Int32)))) (w' := (mW G Z Y (sI σ0 200 0 (0 : Int32)))) (rv := some (.int q3)) (bytes := cX12_isPrime) (maxL := 3) (ret := (some .boolean)) (As := [.int x1]) (rest := []) (stk := [.int q3]) ⟨hx, hb, hml, hown, hts⟩ hK hE hA hP hD hS (c_X12_isPrime l D G (mW G Z Y (sI σ0 200 0 (0 : Int32))) F x1 q3 hq3) (mkS hts wd_1538 wd_1539 wd_11 wd_1540 rfl rfl hd_X12_isPrime ⟨Nat.le_of_ble_eq_true rfl, Nat.le_of_ble_eq_true rfl⟩) rfl hl.1 rfl (Nat.le_of_ble_eq_true rfl) dX12_prime_18 ⟨Nat.zero_le _, Nat.zero_le _⟩ rfl (fun H locs hP hD hS => ?_)
    refine lv_if_eq (tgt := 28) hx hb dX12_prime_21 (by decide) (fun c4 => ?_) (fun c4 => ?_)
    · skip
      have h := f_t c4 h
      refine lv_iconst (v := 0) hx hb dX12_prime_28 (by decide) ?_
      obtain rfl := Option.some.inj h
      exact W.zret (v := (0 : Int32)) hx hb hr rfl (q_end hK hP hD hS) hS.2.2 dX12_prime_29
    · skip
      have h := f_f c4 h
      refine lv_iconst (v := 1) hx hb dX12_prime_24 (by decide) ?_
      refine lv_goto (tgt := 29) hx hb dX12_prime_25 (by decide) ?_
      obtain rfl := Option.some.inj h
      exact W.zret (v := (1 : Int32)) hx hb hr rfl (q_end hK hP hD hS) hS.2.2 dX12_prime_29
abbrev rm_X12_layPoint : Room := { frames := 0, cells := 0, slots := 0, locals := 0 }
set_option maxRecDepth 100000 in
set_option maxHeartbeats 8000000 in
theorem W_X12_layPoint_L2 {p : Program} {e : Env} {s : State} {m : MethodId} {args : Array Value} {below : List Frame} {meth : Method} {c : Code} {A : Nat → Prop} (l : Launch) (D : va_G) (G : hG) (Z : hZ) (Y : va_W) (σ0 : hSt) (F : Nat) (x1 : Int32) (y1 : Int32) (res : (Unit × hSt)) (C0 : Cx p s m args meth c cX12_layPoint none RX12 3 D G A) (hA : ∀ q : Nat, s.heap.size ≤ q → A q) : ∀ (n : Nat) (σ1 : hSt) (z2 : Int32), f_X12_layPoint_L2 y1 n σ1 z2 = some res → ∀ (H : Heap) (locs : List Loc) (ls : Array Slot), va_P D vwCl (mW G Z Y σ1) H → va_D A (mW G Z Y σ1) → va_S A s.heap H locs → lv_has ls 3 [(0, .ref (G.2.1 200)), (1, .int y1), (2, .int z2)] → W p l e rm_X12_layPoint s m args below meth c H locs 0 0 (MQ below (Qg none D (tysG G) (mW G Z Y res.2) A) args s 0 0 A) (F0 m 2 ls []) := by
  obtain ⟨hx, hb, hr, hml, hown, hts, hlocks, hK, hE⟩ := id C0
  intro n
  induction n with
  | zero =>
    intro σ1 z2 h
    cases h
  | succ n ih =>
    intro σ1 z2 h H locs ls hP hD hS hl
    rw [f_X12_layPoint_L2] at h
    refine lv_iload_n hx hb dX12_layPoint_2 rfl (lv_at hl 2 rfl) ?_
    refine lv_aload_n hx hb dX12_layPoint_3 rfl (lv_at hl 0 rfl) ?_
    refine va_get (D := D) (ci := 12) (v := .int (σ1.1 200 20)) (C := RX12) (T := TX12) (N := 59) hx hb hts inU_X12 hown hK hP _ (mg_200 G Z Y σ1) rfl 20 (by decide) (hts _ wd_1268) (fun _ h9 => h9) rfl dX12_layPoint_4 ?_
    refine lv_icmp_ge (tgt := 31) hx hb dX12_layPoint_7 (by decide) (fun c1 => ?_) (fun c1 => ?_)
    · skip
      have h := f_t c1 h
      obtain rfl := Option.some.inj h
      exact W.vret hx hb hr (q_end hK hP hD hS) hS.2.2 dX12_layPoint_31
    · skip
      have h := f_f c1 h
      refine lv_aload_n hx hb dX12_layPoint_10 rfl (lv_at hl 0 rfl) ?_
      refine va_get (D := D) (ci := 12) (v := .ref (G.2.1 208)) (C := RX12) (T := TX12) (N := 59) hx hb hts inU_X12 hown hK hP _ (mg_200 G Z Y σ1) rfl 18 (by decide) (hts _ wd_1266) (fun _ h9 => h9) rfl dX12_layPoint_11 ?_
      refine lv_iload_n hx hb dX12_layPoint_14 rfl (lv_at hl 2 rfl) ?_
      refine lv_aload_n hx hb dX12_layPoint_15 rfl (lv_at hl 0 rfl) ?_
      refine va_get (D := D) (ci := 12) (v := .ref (G.2.1 209)) (C := RX12) (T := TX12) (N := 59) hx hb hts inU_X12 hown hK hP _ (mg_200 G Z Y σ1) rfl 19 (by decide) (hts _ wd_1267) (fun _ h9 => h9) rfl dX12_layPoint_16 ?_
      refine lv_iload_n hx hb dX12_layPoint_19 rfl (lv_at hl 2 rfl) ?_
      obtain ⟨c2, h⟩ := f_n h
      refine va_ialdE (v := (σ1.1 209 ((z2 : Int32).toNatClampNeg))) hx hb hK hP _ 0 (mg_209 G Z Y σ1) rfl c2 dX12_layPoint_20 rfl ?_
      refine lv_iload_n hx hb dX12_layPoint_21 rfl (lv_at hl 1 rfl) ?_
      obtain ⟨c3, h⟩ := f_n h
      refine lv_irem hx hb dX12_layPoint_22 c3 ?_
      refine lv_i2l (v := (((σ1.1 209 ((z2 : Int32).toNatClampNeg)) - (σ1.1 209 ((z2 : Int32).toNatClampNeg)) / y1 * y1) : Int32).toInt64) hx hb dX12_layPoint_23 rfl ?_
      obtain ⟨c4, h⟩ := f_n h
      refine va_last hx hb hK hP hD hS _ 1 (mg_208 G Z Y σ1) rfl c4 dX12_layPoint_24 (fun H locs hP hD hS => ?_)
      have hP := wrP (mp_208 G Z Y σ1 _ _) hP
      have hD := wrD (mp_208 G Z Y σ1 _ _) hD
      refine lv_iinc (v := (z2 + 1)) (lv' := [(2, .int (z2 + 1)), (0, .ref (G.2.1 200)), (1, .int y1)]) hx hb dX12_layPoint_25 hl (k := 2) rfl rfl (by decide) rfl (fun ls hl => ?_)
      refine lv_goto (tgt := 2) hx hb dX12_layPoint_28 (by decide) ?_
      exact ih (sJ σ1 208 ((z2 : Int32).toNatClampNeg) ((((σ1.1 209 ((z2 : Int32).toNatClampNeg)) - (σ1.1 209 ((z2 : Int32).toNatClampNeg)) / y1 * y1) : Int32).toInt64)) (z2 + 1) h _ _ _ hP hD hS (lv_sub hl [1, 2, 0] rfl)
set_option maxRecDepth 100000 in
set_option maxHeartbeats 8000000 in
theorem c_X12_layPoint (l : Launch) (D : va_G) (G : hG) (Z : hZ) (Y : va_W) (σ0 : hSt) (F : Nat) (x1 : Int32) (res : (Unit × hSt)) (h : f_X12_layPoint F Z σ0 x1 = some res) : CT l yX12_layPoint cX12_layPoint 3 none rm_X12_layPoint D G 0 0 [.ref (G.2.1 200), .int x1] (mW G Z Y σ0) (mW G Z Y res.2) none := by
  unfold f_X12_layPoint at h
  refine CT.mk (cc := cX12_layPoint) (maxL := 3) (ret := none) (own := RX12) (plainFor_of_name (by decide)) rfl (Nat.le_of_ble_eq_true rfl) ?_
  intro p e s m args below meth c A ls C0 hnm hA hP hD hl
  obtain ⟨hx, hb, hr, hml, hown, hts, hlocks, hK, hE⟩ := id C0
  have hS : va_S A s.heap s.heap [] := va_S.rf
  have hl : lv_has ls 3 [(0, .ref (G.2.1 200)), (1, .int x1)] := hl
  refine lv_iconst (v := 0) hx hb dX12_layPoint_0 (by decide) ?_
  refine lv_istore_n (lv' := [(2, .int (0 : Int32)), (0, .ref (G.2.1 200)), (1, .int x1)]) hx hb dX12_layPoint_1 rfl hl (by decide) rfl (fun ls hl => ?_)
  refine W_X12_layPoint_L2 l D G Z Y σ0 F x1 x1 res C0 hA F σ0 (0 : Int32) h _ _ _ hP hD hS (lv_sub hl [1, 2, 0] rfl)
abbrev rm_X12_worth : Room := { frames := 2, cells := 0, slots := 0, locals := 57 }
set_option maxRecDepth 100000 in
set_option maxHeartbeats 8000000 in
theorem c_X12_worth (l : Launch) (D : va_G) (G : hG) (Z : hZ) (Y : va_W) (σ0 : hSt) (F : Nat) (x1 : Int32) (x2 : Int32) (res : (Int32 × hSt)) (h : f_X12_worth F Z σ0 x1 x2 = some res) : CT l yX12_worth cX12_worth 3 (some .int) rm_X12_worth D G 0 0 [.ref (G.2.1 200), .int x1, .int x2] (mW G Z Y σ0) (mW G Z Y res.2) (some (.int res.1)) := by
  unfold f_X12_worth at h
  refine CT.mk (cc := cX12_worth) (maxL := 3) (ret := (some .int)) (own := RX12) (plainFor_of_name (by decide)) rfl (Nat.le_of_ble_eq_true rfl) ?_
  intro p e s m args below meth c A ls C0 hnm hA hP hD hl
  obtain ⟨hx, hb, hr, hml, hown, hts, hlocks, hK, hE⟩ := id C0
  have hS : va_S A s.heap s.heap [] := va_S.rf
  have hl : lv_has ls 3 [(0, .ref (G.2.1 200)), (1, .int x1), (2, .int x2)] := hl
  refine lv_aload_n hx hb dX12_worth_0 rfl (lv_at hl 0 rfl) ?_
  refine lv_iconst (v := 0) hx hb dX12_worth_1 (by decide) ?_
  refine va_put (D := D) (ci := 12) (v := .int (0 : Int32)) (ty := .int) (C := RX12) (T := TX12) (N := 59) hx hb hts inU_X12 tyX12 tyX12_ok nmX12 hown hK hP hD hS _ (mg_200 G Z Y σ0) rfl 0 (by decide) (hts _ wd_1248) (fun _ h9 => h9) rfl (by decide +kernel) rfl rfl (Nat.le_of_ble_eq_true rfl) dX12_worth_2 (fun H locs hP hD hS => ?_)
  have hP := wrP (mp_200_0 G Z Y σ0 (0 : Int32)) hP
  have hD := wrD (mp_200_0 G Z Y σ0 (0 : Int32)) hD
  refine lv_aload_n hx hb dX12_worth_5 rfl (lv_at hl 0 rfl) ?_
  refine lv_iload_n hx hb dX12_worth_6 rfl (lv_at hl 1 rfl) ?_
  obtain ⟨q1, hq1, h⟩ := f_b h
  refine cl_V (w := (mW G Z Y (sI σ0 200 0 (0 : Int32)))) (w' := (mW G Z Y (sI σ0 200 0 (0 : Int32)))) (rv := some (.int q1)) (bytes := cX12_isSaying) (maxL := 2) (ret := (some .boolean)) (C := RX12) (As := [.int x1]) (rest := []) (stk := [.int q1]) ⟨hx, hb, hml, hown, hts⟩ hK hE hA hP hD hS (c_X12_isSaying l D G Z Y (sI σ0 200 0 (0 : Int32)) x1 q1 hq1) (cwV 1 hts (gwV wd_1493 wd_1495 wp_57 wd_11 wd_1496) rfl rfl rfl hd_X12_isSaying ⟨Nat.le_of_ble_eq_true rfl, Nat.le_of_ble_eq_true rfl⟩) (mg_200 G Z Y (sI σ0 200 0 (0 : Int32))) rfl rfl rfl hl.1 rfl (Nat.le_of_ble_eq_true rfl) dX12_worth_7 ⟨Nat.zero_le _, Nat.zero_le _⟩ rfl (fun H locs hP hD hS => ?_)
  refine lv_if_eq (tgt := 33) hx hb dX12_worth_10 (by decide) (fun c2 => ?_) (fun c2 => ?_)
  · skip
    have h := f_t c2 h
    refine lv_iconst (v := (-1)) hx hb dX12_worth_33 (by decide) ?_
    obtain rfl := Option.some.inj h
    exact W.iret (v := (-1 : Int32)) hx hb hr (q_end hK hP hD hS) hS.2.2 dX12_worth_34
  · skip
    have h := f_f c2 h
    refine lv_iload_n hx hb dX12_worth_13 rfl (lv_at hl 2 rfl) ?_
    obtain ⟨q3, hq3, h⟩ := f_b h
    refine cl_S (w := (mW G Z Y (sI σ0 200 0 (0 : Int32)))) (w' := (mW G Z Y (sI σ0 200 0 (0 : Int32)))) (rv := some (.int q3)) (bytes := cX12_isRing) (maxL := 1) (ret := (some .boolean)) (As := [.int x2]) (rest := []) (stk := [.int q3]) ⟨hx, hb, hml, hown, hts⟩ hK hE hA hP hD hS (c_X12_isRing l D G (mW G Z Y (sI σ0 200 0 (0 : Int32))) F x2 q3 hq3) (mkS hts wd_1546 wd_1547 wd_11 wd_1548 rfl rfl hd_X12_isRing ⟨Nat.le_of_ble_eq_true rfl, Nat.le_of_ble_eq_true rfl⟩) rfl hl.1 rfl (Nat.le_of_ble_eq_true rfl) dX12_worth_14 ⟨Nat.zero_le _, Nat.zero_le _⟩ rfl (fun H locs hP hD hS => ?_)
    refine lv_if_eq (tgt := 33) hx hb dX12_worth_17 (by decide) (fun c4 => ?_) (fun c4 => ?_)
    · skip
      have h := f_t c4 h
      refine lv_iconst (v := (-1)) hx hb dX12_worth_33 (by decide) ?_
      obtain rfl := Option.some.inj h
      exact W.iret (v := (-1 : Int32)) hx hb hr (q_end hK hP hD hS) hS.2.2 dX12_worth_34
    · skip
      have h := f_f c4 h
      refine lv_aload_n hx hb dX12_worth_20 rfl (lv_at hl 0 rfl) ?_
      refine va_get (D := D) (ci := 12) (v := .int (σ0.1 200 20)) (C := RX12) (T := TX12) (N := 59) hx hb hts inU_X12 hown hK hP _ (mg_200 G Z Y (sI σ0 200 0 (0 : Int32))) rfl 20 (by decide) (hts _ wd_1268) (fun _ h9 => h9) rfl dX12_worth_21 ?_
      refine lv_aload_n hx hb dX12_worth_24 rfl (lv_at hl 0 rfl) ?_
      refine va_get (D := D) (ci := 12) (v := .ref (G.2.1 204)) (C := RX12) (T := TX12) (N := 59) hx hb hts inU_X12 hown hK hP _ (mg_200 G Z Y (sI σ0 200 0 (0 : Int32))) rfl 12 (by decide) (hts _ wd_1260) (fun _ h9 => h9) rfl dX12_worth_25 ?_
      refine lv_iload_n hx hb dX12_worth_28 rfl (lv_at hl 1 rfl) ?_
      obtain ⟨c5, h⟩ := f_n h
      refine va_ialdE (v := (σ0.1 204 ((x1 : Int32).toNatClampNeg))) hx hb hK hP _ 0 (mg_204 G Z Y (sI σ0 200 0 (0 : Int32))) rfl c5 dX12_worth_29 rfl ?_
      refine lv_icmp_ge (tgt := 35) hx hb dX12_worth_30 (by decide) (fun c6 => ?_) (fun c6 => ?_)
      · skip
        have h := f_t c6 h
        refine lv_aload_n hx hb dX12_worth_35 rfl (lv_at hl 0 rfl) ?_
        refine lv_iload_n hx hb dX12_worth_36 rfl (lv_at hl 2 rfl) ?_
        obtain ⟨q7, hq7, h⟩ := f_b h
        refine cl_V (w := (mW G Z Y (sI σ0 200 0 (0 : Int32)))) (w' := (mW G Z Y q7.2)) (rv := none) (bytes := cX12_layPoint) (maxL := 3) (ret := none) (C := RX12) (As := [.int x2]) (rest := []) (stk := []) ⟨hx, hb, hml, hown, hts⟩ hK hE hA hP hD hS (c_X12_layPoint l D G Z Y (sI σ0 200 0 (0 : Int32)) F x2 q7 hq7) (cwV 1 hts (gwV wd_1550 wd_1552 wp_62 wd_11 wd_1553) rfl rfl rfl hd_X12_layPoint ⟨Nat.le_of_ble_eq_true rfl, Nat.le_of_ble_eq_true rfl⟩) (mg_200 G Z Y (sI σ0 200 0 (0 : Int32))) rfl rfl rfl hl.1 rfl (Nat.le_of_ble_eq_true rfl) dX12_worth_37 ⟨Nat.zero_le _, Nat.zero_le _⟩ rfl (fun H locs hP hD hS => ?_)
        refine lv_aload_n hx hb dX12_worth_40 rfl (lv_at hl 0 rfl) ?_
        refine lv_iload_n hx hb dX12_worth_41 rfl (lv_at hl 1 rfl) ?_
        refine lv_iload_n hx hb dX12_worth_42 rfl (lv_at hl 2 rfl) ?_
        refine lv_i2l (v := (x2 : Int32).toInt64) hx hb dX12_worth_43 rfl ?_
        obtain ⟨q8, hq8, h⟩ := f_b h
        refine cl_V (w := (mW G Z Y q7.2)) (w' := (mW G Z Y q8.2)) (rv := some (.long q8.1)) (bytes := cX12_worthAt) (maxL := 13) (ret := (some .long)) (C := RX12) (As := [.int x1, .long (x2 : Int32).toInt64]) (rest := []) (stk := [.long q8.1]) ⟨hx, hb, hml, hown, hts⟩ hK hE hA hP hD hS (c_X12_worthAt l D G Z Y q7.2 F x1 ((x2 : Int32).toInt64) q8 hq8) (cwV 2 hts (gwV wd_1510 wd_1512 wp_60 wd_11 wd_1513) rfl rfl rfl hd_X12_worthAt ⟨Nat.le_of_ble_eq_true rfl, Nat.le_of_ble_eq_true rfl⟩) (mg_200 G Z Y q7.2) rfl rfl rfl hl.1 rfl (Nat.le_of_ble_eq_true rfl) dX12_worth_44 ⟨Nat.zero_le _, Nat.zero_le _⟩ rfl (fun H locs hP hD hS => ?_)
        refine lv_l2i (v := (q8.1 : Int64).toInt32) hx hb dX12_worth_47 rfl ?_
        obtain rfl := Option.some.inj h
        exact W.iret (v := (q8.1 : Int64).toInt32) hx hb hr (q_end hK hP hD hS) hS.2.2 dX12_worth_48
      · skip
        have h := f_f c6 h
        refine lv_iconst (v := (-1)) hx hb dX12_worth_33 (by decide) ?_
        obtain rfl := Option.some.inj h
        exact W.iret (v := (-1 : Int32)) hx hb hr (q_end hK hP hD hS) hS.2.2 dX12_worth_34
abbrev rm_X12_sum : Room := { frames := 11, cells := 0, slots := 0, locals := 291 }
set_option maxRecDepth 100000 in
set_option maxHeartbeats 8000000 in
theorem c_X12_sum (l : Launch) (D : va_G) (G : hG) (Z : hZ) (Y : va_W) (σ0 : hSt) (F : Nat) (x1 : Int32) (x2 : Int32) (res : (Int32 × hSt)) (h : f_X12_sum F Z σ0 x1 x2 = some res) : CT l yX12_sum cX12_sum 3 (some .int) rm_X12_sum D G 0 0 [.ref (G.2.1 200), .int x1, .int x2] (mW G Z Y σ0) (mW G Z Y res.2) (some (.int res.1)) := by
  unfold f_X12_sum at h
  refine CT.mk (cc := cX12_sum) (maxL := 3) (ret := (some .int)) (own := RX12) (plainFor_of_name (by decide)) rfl (Nat.le_of_ble_eq_true rfl) ?_
  intro p e s m args below meth c A ls C0 hnm hA hP hD hl
  obtain ⟨hx, hb, hr, hml, hown, hts, hlocks, hK, hE⟩ := id C0
  have hS : va_S A s.heap s.heap [] := va_S.rf
  have hl : lv_has ls 3 [(0, .ref (G.2.1 200)), (1, .int x1), (2, .int x2)] := hl
  refine lv_aload_n hx hb dX12_sum_0 rfl (lv_at hl 0 rfl) ?_
  refine lv_iconst (v := 0) hx hb dX12_sum_1 (by decide) ?_
  refine va_put (D := D) (ci := 12) (v := .int (0 : Int32)) (ty := .int) (C := RX12) (T := TX12) (N := 59) hx hb hts inU_X12 tyX12 tyX12_ok nmX12 hown hK hP hD hS _ (mg_200 G Z Y σ0) rfl 0 (by decide) (hts _ wd_1248) (fun _ h9 => h9) rfl (by decide +kernel) rfl rfl (Nat.le_of_ble_eq_true rfl) dX12_sum_2 (fun H locs hP hD hS => ?_)
  have hP := wrP (mp_200_0 G Z Y σ0 (0 : Int32)) hP
  have hD := wrD (mp_200_0 G Z Y σ0 (0 : Int32)) hD
  refine lv_aload_n hx hb dX12_sum_5 rfl (lv_at hl 0 rfl) ?_
  refine lv_iload_n hx hb dX12_sum_6 rfl (lv_at hl 1 rfl) ?_
  obtain ⟨q1, hq1, h⟩ := f_b h
  refine cl_V (w := (mW G Z Y (sI σ0 200 0 (0 : Int32)))) (w' := (mW G Z Y (sI σ0 200 0 (0 : Int32)))) (rv := some (.int q1)) (bytes := cX12_isSaying) (maxL := 2) (ret := (some .boolean)) (C := RX12) (As := [.int x1]) (rest := []) (stk := [.int q1]) ⟨hx, hb, hml, hown, hts⟩ hK hE hA hP hD hS (c_X12_isSaying l D G Z Y (sI σ0 200 0 (0 : Int32)) x1 q1 hq1) (cwV 1 hts (gwV wd_1493 wd_1495 wp_57 wd_11 wd_1496) rfl rfl rfl hd_X12_isSaying ⟨Nat.le_of_ble_eq_true rfl, Nat.le_of_ble_eq_true rfl⟩) (mg_200 G Z Y (sI σ0 200 0 (0 : Int32))) rfl rfl rfl hl.1 rfl (Nat.le_of_ble_eq_true rfl) dX12_sum_7 ⟨Nat.zero_le _, Nat.zero_le _⟩ rfl (fun H locs hP hD hS => ?_)
  refine lv_if_eq (tgt := 20) hx hb dX12_sum_10 (by decide) (fun c2 => ?_) (fun c2 => ?_)
  · skip
    have h := f_t c2 h
    refine lv_iconst (v := (-1)) hx hb dX12_sum_20 (by decide) ?_
    obtain rfl := Option.some.inj h
    exact W.iret (v := (-1 : Int32)) hx hb hr (q_end hK hP hD hS) hS.2.2 dX12_sum_21
  · skip
    have h := f_f c2 h
    refine lv_iload_n hx hb dX12_sum_13 rfl (lv_at hl 2 rfl) ?_
    obtain ⟨q3, hq3, h⟩ := f_b h
    refine cl_S (w := (mW G Z Y (sI σ0 200 0 (0 : Int32)))) (w' := (mW G Z Y (sI σ0 200 0 (0 : Int32)))) (rv := some (.int q3)) (bytes := cX12_isRing) (maxL := 1) (ret := (some .boolean)) (As := [.int x2]) (rest := []) (stk := [.int q3]) ⟨hx, hb, hml, hown, hts⟩ hK hE hA hP hD hS (c_X12_isRing l D G (mW G Z Y (sI σ0 200 0 (0 : Int32))) F x2 q3 hq3) (mkS hts wd_1546 wd_1547 wd_11 wd_1548 rfl rfl hd_X12_isRing ⟨Nat.le_of_ble_eq_true rfl, Nat.le_of_ble_eq_true rfl⟩) rfl hl.1 rfl (Nat.le_of_ble_eq_true rfl) dX12_sum_14 ⟨Nat.zero_le _, Nat.zero_le _⟩ rfl (fun H locs hP hD hS => ?_)
    refine lv_if_ne (tgt := 22) hx hb dX12_sum_17 (by decide) (fun c4 => ?_) (fun c4 => ?_)
    · skip
      have h := f_f c4 h
      refine lv_aload_n hx hb dX12_sum_22 rfl (lv_at hl 0 rfl) ?_
      refine lv_iload_n hx hb dX12_sum_23 rfl (lv_at hl 2 rfl) ?_
      obtain ⟨q5, hq5, h⟩ := f_b h
      refine cl_V (w := (mW G Z Y (sI σ0 200 0 (0 : Int32)))) (w' := (mW G Z Y q5.2)) (rv := none) (bytes := cX12_layPoint) (maxL := 3) (ret := none) (C := RX12) (As := [.int x2]) (rest := []) (stk := []) ⟨hx, hb, hml, hown, hts⟩ hK hE hA hP hD hS (c_X12_layPoint l D G Z Y (sI σ0 200 0 (0 : Int32)) F x2 q5 hq5) (cwV 1 hts (gwV wd_1550 wd_1552 wp_62 wd_11 wd_1553) rfl rfl rfl hd_X12_layPoint ⟨Nat.le_of_ble_eq_true rfl, Nat.le_of_ble_eq_true rfl⟩) (mg_200 G Z Y (sI σ0 200 0 (0 : Int32))) rfl rfl rfl hl.1 rfl (Nat.le_of_ble_eq_true rfl) dX12_sum_24 ⟨Nat.zero_le _, Nat.zero_le _⟩ rfl (fun H locs hP hD hS => ?_)
      refine lv_aload_n hx hb dX12_sum_27 rfl (lv_at hl 0 rfl) ?_
      refine lv_iload_n hx hb dX12_sum_28 rfl (lv_at hl 1 rfl) ?_
      refine lv_aload_n hx hb dX12_sum_29 rfl (lv_at hl 0 rfl) ?_
      refine va_get (D := D) (ci := 12) (v := .int (q5.2.1 200 20)) (C := RX12) (T := TX12) (N := 59) hx hb hts inU_X12 hown hK hP _ (mg_200 G Z Y q5.2) rfl 20 (by decide) (hts _ wd_1268) (fun _ h9 => h9) rfl dX12_sum_30 ?_
      refine lv_iload_n hx hb dX12_sum_33 rfl (lv_at hl 2 rfl) ?_
      refine lv_i2l (v := (x2 : Int32).toInt64) hx hb dX12_sum_34 rfl ?_
      obtain ⟨q6, hq6, h⟩ := f_b h
      refine cl_V (w := (mW G Z Y q5.2)) (w' := (mW G Z Y q6.2)) (rv := some (.long q6.1)) (bytes := cX12_sumFrom) (maxL := 7) (ret := (some .long)) (C := RX12) (As := [.int x1, .int (q5.2.1 200 20), .long (x2 : Int32).toInt64]) (rest := []) (stk := [.long q6.1]) ⟨hx, hb, hml, hown, hts⟩ hK hE hA hP hD hS (c_X12_sumFrom l D G Z Y q5.2 F x1 (q5.2.1 200 20) ((x2 : Int32).toInt64) q6 hq6) (cwV 3 hts (gwV wd_1506 wd_1508 wp_59 wd_11 wd_1509) rfl rfl rfl hd_X12_sumFrom ⟨Nat.le_of_ble_eq_true rfl, Nat.le_of_ble_eq_true rfl⟩) (mg_200 G Z Y q5.2) rfl rfl rfl hl.1 rfl (Nat.le_of_ble_eq_true rfl) dX12_sum_35 ⟨Nat.zero_le _, Nat.zero_le _⟩ rfl (fun H locs hP hD hS => ?_)
      refine lv_l2i (v := (q6.1 : Int64).toInt32) hx hb dX12_sum_38 rfl ?_
      obtain rfl := Option.some.inj h
      exact W.iret (v := (q6.1 : Int64).toInt32) hx hb hr (q_end hK hP hD hS) hS.2.2 dX12_sum_39
    · skip
      have h := f_t c4 h
      refine lv_iconst (v := (-1)) hx hb dX12_sum_20 (by decide) ?_
      obtain rfl := Option.some.inj h
      exact W.iret (v := (-1 : Int32)) hx hb hr (q_end hK hP hD hS) hS.2.2 dX12_sum_21
abbrev rm_X12_power : Room := { frames := 0, cells := 0, slots := 0, locals := 0 }
set_option maxRecDepth 100000 in
set_option maxHeartbeats 8000000 in
theorem W_X12_power_L12 {p : Program} {e : Env} {s : State} {m : MethodId} {args : Array Value} {below : List Frame} {meth : Method} {c : Code} {A : Nat → Prop} (l : Launch) (D : va_G) (G : hG) (w : va_W) (F : Nat) (x0 : Int64) (x2 : Int64) (x4 : Int64) (y4 : Int64) (res : Int64) (C0 : Cx p s m args meth c cX12_power (some .long) RX12 12 D G A) (hA : ∀ q : Nat, s.heap.size ≤ q → A q) : ∀ (n : Nat) (z6 : Int64) (z8 : Int64) (z10 : Int64), f_X12_power_L12 y4 n z6 z8 z10 = some res → ∀ (H : Heap) (locs : List Loc) (ls : Array Slot), va_P D vwCl w H → va_D A w → va_S A s.heap H locs → lv_has ls 12 [(4, .long y4), (6, .long z6), (8, .long z8), (10, .long z10)] → W p l e rm_X12_power s m args below meth c H locs 0 0 (MQ below (Qg (some (.long res)) D (tysG G) w A) args s 0 0 A) (F0 m 12 ls []) := by
  obtain ⟨hx, hb, hr, hml, hown, hts, hlocks, hK, hE⟩ := id C0
  intro n
  induction n with
  | zero =>
    intro z6 z8 z10 h
    cases h
  | succ n ih =>
    intro z6 z8 z10 h H locs ls hP hD hS hl
    rw [f_X12_power_L12] at h
    refine lv_lload hx hb dX12_power_12 (lv_at hl 3 rfl) ?_
    refine lv_lconst (v := 0) hx hb dX12_power_14 (by decide) ?_
    refine W.lcmp hx hb dX12_power_15 ?_
    refine lv_if_le (tgt := 57) hx hb dX12_power_16 (by decide) (fun c2 => ?_) (fun c2 => ?_)
    · skip
      have c2 := (lg_cmp_le _ _).mp c2
      have h := f_t c2 h
      refine lv_lload hx hb dX12_power_57 (lv_at hl 1 rfl) ?_
      obtain rfl := Option.some.inj h
      exact W.lret (v := z6) hx hb hr (q_end hK hP hD hS) hS.2.2 dX12_power_59
    · skip
      have c2 := mt (lg_cmp_le _ _).mpr c2
      have h := f_f c2 h
      refine lv_lload hx hb dX12_power_19 (lv_at hl 3 rfl) ?_
      refine lv_lconst (v := 1) hx hb dX12_power_21 (by decide) ?_
      refine lv_land hx hb dX12_power_22 ?_
      refine lv_lconst (v := 1) hx hb dX12_power_23 (by decide) ?_
      refine W.lcmp hx hb dX12_power_24 ?_
      refine lv_if_ne (tgt := 38) hx hb dX12_power_25 (by decide) (fun c3 => ?_) (fun c3 => ?_)
      · skip
        have c3 := mt (lg_cmp_eq _ _).mpr c3
        have h := f_f c3 h
        refine lv_lload hx hb dX12_power_38 (lv_at hl 2 rfl) ?_
        refine lv_lload hx hb dX12_power_40 (lv_at hl 2 rfl) ?_
        refine lv_lmul hx hb dX12_power_42 ?_
        refine lv_lload hx hb dX12_power_43 (lv_at hl 0 rfl) ?_
        obtain ⟨c4, h⟩ := f_n h
        refine lv_lrem hx hb dX12_power_45 c4 ?_
        refine lv_lstore (lv' := [(8, .long ((z8 * z8) - (z8 * z8) / y4 * y4)), (4, .long y4), (6, .long z6), (10, .long z10)]) hx hb dX12_power_46 hl (by decide) rfl (fun ls hl => ?_)
        refine lv_lload hx hb dX12_power_48 (lv_at hl 3 rfl) ?_
        refine lv_iconst (v := 1) hx hb dX12_power_50 (by decide) ?_
        refine lv_lshr (v := (z10 >>> (((1 : Int32) : Int32).toInt64 &&& 63))) hx hb dX12_power_51 rfl ?_
        refine lv_lstore (lv' := [(10, .long (z10 >>> (((1 : Int32) : Int32).toInt64 &&& 63))), (8, .long ((z8 * z8) - (z8 * z8) / y4 * y4)), (4, .long y4), (6, .long z6)]) hx hb dX12_power_52 hl (by decide) rfl (fun ls hl => ?_)
        refine lv_goto (tgt := 12) hx hb dX12_power_54 (by decide) ?_
        exact ih z6 ((z8 * z8) - (z8 * z8) / y4 * y4) (z10 >>> (((1 : Int32) : Int32).toInt64 &&& 63)) h _ _ _ hP hD hS (lv_sub hl [2, 3, 1, 0] rfl)
      · skip
        have c3 := (lg_cmp_eq _ _).mp c3
        have h := f_t c3 h
        refine lv_lload hx hb dX12_power_28 (lv_at hl 1 rfl) ?_
        refine lv_lload hx hb dX12_power_30 (lv_at hl 2 rfl) ?_
        refine lv_lmul hx hb dX12_power_32 ?_
        refine lv_lload hx hb dX12_power_33 (lv_at hl 0 rfl) ?_
        obtain ⟨c5, h⟩ := f_n h
        refine lv_lrem hx hb dX12_power_35 c5 ?_
        refine lv_lstore (lv' := [(6, .long ((z6 * z8) - (z6 * z8) / y4 * y4)), (4, .long y4), (8, .long z8), (10, .long z10)]) hx hb dX12_power_36 hl (by decide) rfl (fun ls hl => ?_)
        refine lv_lload hx hb dX12_power_38 (lv_at hl 2 rfl) ?_
        refine lv_lload hx hb dX12_power_40 (lv_at hl 2 rfl) ?_
        refine lv_lmul hx hb dX12_power_42 ?_
        refine lv_lload hx hb dX12_power_43 (lv_at hl 1 rfl) ?_
        obtain ⟨c6, h⟩ := f_n h
        refine lv_lrem hx hb dX12_power_45 c6 ?_
        refine lv_lstore (lv' := [(8, .long ((z8 * z8) - (z8 * z8) / y4 * y4)), (6, .long ((z6 * z8) - (z6 * z8) / y4 * y4)), (4, .long y4), (10, .long z10)]) hx hb dX12_power_46 hl (by decide) rfl (fun ls hl => ?_)
        refine lv_lload hx hb dX12_power_48 (lv_at hl 3 rfl) ?_
        refine lv_iconst (v := 1) hx hb dX12_power_50 (by decide) ?_
        refine lv_lshr (v := (z10 >>> (((1 : Int32) : Int32).toInt64 &&& 63))) hx hb dX12_power_51 rfl ?_
        refine lv_lstore (lv' := [(10, .long (z10 >>> (((1 : Int32) : Int32).toInt64 &&& 63))), (8, .long ((z8 * z8) - (z8 * z8) / y4 * y4)), (6, .long ((z6 * z8) - (z6 * z8) / y4 * y4)), (4, .long y4)]) hx hb dX12_power_52 hl (by decide) rfl (fun ls hl => ?_)
        refine lv_goto (tgt := 12) hx hb dX12_power_54 (by decide) ?_
        exact ih ((z6 * z8) - (z6 * z8) / y4 * y4) ((z8 * z8) - (z8 * z8) / y4 * y4) (z10 >>> (((1 : Int32) : Int32).toInt64 &&& 63)) h _ _ _ hP hD hS (lv_sub hl [3, 2, 1, 0] rfl)
set_option maxRecDepth 100000 in
set_option maxHeartbeats 8000000 in
theorem c_X12_power (l : Launch) (D : va_G) (G : hG) (w : va_W) (F : Nat) (x0 : Int64) (x2 : Int64) (x4 : Int64) (res : Int64) (h : f_X12_power F x0 x2 x4 = some res) : CT l yX12_power cX12_power 12 (some .long) rm_X12_power D G 0 0 [.long x0, .long x2, .long x4] w w (some (.long res)) := by
  unfold f_X12_power at h
  refine CT.mk (cc := cX12_power) (maxL := 12) (ret := (some .long)) (own := RX12) (plainFor_of_name (by decide)) rfl (Nat.le_of_ble_eq_true rfl) ?_
  intro p e s m args below meth c A ls C0 hnm hA hP hD hl
  obtain ⟨hx, hb, hr, hml, hown, hts, hlocks, hK, hE⟩ := id C0
  have hS : va_S A s.heap s.heap [] := va_S.rf
  have hl : lv_has ls 12 [(0, .long x0), (2, .long x2), (4, .long x4)] := hl
  refine lv_lconst (v := 1) hx hb dX12_power_0 (by decide) ?_
  refine lv_lstore (lv' := [(6, .long (1 : Int64)), (0, .long x0), (2, .long x2), (4, .long x4)]) hx hb dX12_power_1 hl (by decide) rfl (fun ls hl => ?_)
  refine lv_lload_n hx hb dX12_power_3 rfl (lv_at hl 1 rfl) ?_
  refine lv_lload hx hb dX12_power_4 (lv_at hl 3 rfl) ?_
  obtain ⟨c1, h⟩ := f_n h
  refine lv_lrem hx hb dX12_power_6 c1 ?_
  refine lv_lstore (lv' := [(8, .long (x0 - x0 / x4 * x4)), (6, .long (1 : Int64)), (0, .long x0), (2, .long x2), (4, .long x4)]) hx hb dX12_power_7 hl (by decide) rfl (fun ls hl => ?_)
  refine lv_lload_n hx hb dX12_power_9 rfl (lv_at hl 3 rfl) ?_
  refine lv_lstore (lv' := [(10, .long x2), (8, .long (x0 - x0 / x4 * x4)), (6, .long (1 : Int64)), (0, .long x0), (2, .long x2), (4, .long x4)]) hx hb dX12_power_10 hl (by decide) rfl (fun ls hl => ?_)
  refine W_X12_power_L12 l D G w F x0 x2 x4 x4 res C0 hA F (1 : Int64) (x0 - x0 / x4 * x4) x2 h _ _ _ hP hD hS (lv_sub hl [5, 2, 1, 0] rfl)
abbrev rm_X12_curveAt : Room := { frames := 1, cells := 0, slots := 0, locals := 31 }
set_option maxRecDepth 100000 in
set_option maxHeartbeats 8000000 in
theorem W_X12_curveAt_L27 {p : Program} {e : Env} {s : State} {m : MethodId} {args : Array Value} {below : List Frame} {meth : Method} {c : Code} {A : Nat → Prop} (l : Launch) (D : va_G) (G : hG) (Z : hZ) (Y : va_W) (σ0 : hSt) (F : Nat) (x1 : Int32) (x2 : Int64) (x4 : Int64) (y1 : Int32) (y2 : Int64) (y4 : Int64) (y6 : Int64) (y8 : Int32) (res : Int64) (C0 : Cx p s m args meth c cX12_curveAt (some .long) RX12 14 D G A) (hA : ∀ q : Nat, s.heap.size ≤ q → A q) (k86 : Int64 → Int64 → Option Int64) (hk86 : ∀ (z9 : Int64) (z11 : Int64), k86 z9 z11 = some res → ∀ (H : Heap) (locs : List Loc) (ls : Array Slot), va_P D vwCl (mW G Z Y σ0) H → va_D A (mW G Z Y σ0) → va_S A s.heap H locs → lv_has ls 14 [(0, .ref (G.2.1 200)), (1, .int y1), (2, .long y2), (4, .long y4), (6, .long y6), (8, .int y8), (9, .long z9), (11, .long z11)] → W p l e rm_X12_curveAt s m args below meth c H locs 0 0 (MQ below (Qg (some (.long res)) D (tysG G) (mW G Z Y σ0) A) args s 0 0 A) (F0 m 86 ls [])) : ∀ (n : Nat) (z9 : Int64) (z11 : Int64) (z13 : Int32), f_X12_curveAt_L27 y1 y2 y4 y6 y8 k86 n z9 z11 z13 = some res → ∀ (H : Heap) (locs : List Loc) (ls : Array Slot), va_P D vwCl (mW G Z Y σ0) H → va_D A (mW G Z Y σ0) → va_S A s.heap H locs → lv_has ls 14 [(0, .ref (G.2.1 200)), (1, .int y1), (2, .long y2), (4, .long y4), (6, .long y6), (8, .int y8), (9, .long z9), (11, .long z11), (13, .int z13)] → W p l e rm_X12_curveAt s m args below meth c H locs 0 0 (MQ below (Qg (some (.long res)) D (tysG G) (mW G Z Y σ0) A) args s 0 0 A) (F0 m 27 ls []) := by
  obtain ⟨hx, hb, hr, hml, hown, hts, hlocks, hK, hE⟩ := id C0
  intro n
  induction n with
  | zero =>
    intro z9 z11 z13 h
    cases h
  | succ n ih =>
    intro z9 z11 z13 h H locs ls hP hD hS hl
    rw [f_X12_curveAt_L27] at h
    refine lv_iload hx hb dX12_curveAt_27 (lv_at hl 8 rfl) ?_
    refine lv_iload_n hx hb dX12_curveAt_29 rfl (lv_at hl 1 rfl) ?_
    refine lv_icmp_ge (tgt := 86) hx hb dX12_curveAt_30 (by decide) (fun c3 => ?_) (fun c3 => ?_)
    · skip
      have h := f_t c3 h
      exact hk86 z9 z11 h _ _ _ hP hD hS (lv_sub hl [0, 1, 2, 3, 4, 5, 6, 7] rfl)
    · skip
      have h := f_f c3 h
      refine lv_iload hx hb dX12_curveAt_33 (lv_at hl 8 rfl) ?_
      refine lv_iload hx hb dX12_curveAt_35 (lv_at hl 5 rfl) ?_
      refine lv_icmp_ne (tgt := 43) hx hb dX12_curveAt_37 (by decide) (fun c4 => ?_) (fun c4 => ?_)
      · skip
        have h := f_f c4 h
        refine lv_lload hx hb dX12_curveAt_43 (lv_at hl 6 rfl) ?_
        refine lv_lload_n hx hb dX12_curveAt_45 rfl (lv_at hl 2 rfl) ?_
        refine lv_iload hx hb dX12_curveAt_46 (lv_at hl 8 rfl) ?_
        refine lv_i2l (v := (z13 : Int32).toInt64) hx hb dX12_curveAt_48 rfl ?_
        refine lv_lsub hx hb dX12_curveAt_49 ?_
        refine lv_lload hx hb dX12_curveAt_50 (lv_at hl 3 rfl) ?_
        obtain ⟨q5, hq5, h⟩ := f_b h
        refine cl_S (w := (mW G Z Y σ0)) (w' := (mW G Z Y σ0)) (rv := some (.long q5)) (bytes := cX12_rest) (maxL := 6) (ret := (some .long)) (As := [.long (y2 - (z13 : Int32).toInt64), .long y4]) (rest := [.long z9]) (stk := [.long q5, .long z9]) ⟨hx, hb, hml, hown, hts⟩ hK hE hA hP hD hS (c_X12_rest l D G (mW G Z Y σ0) (y2 - (z13 : Int32).toInt64) y4 q5 hq5) (mkS hts wd_1514 wd_1515 wd_11 wd_1516 rfl rfl hd_X12_rest ⟨Nat.le_of_ble_eq_true rfl, Nat.le_of_ble_eq_true rfl⟩) rfl hl.1 rfl (Nat.le_of_ble_eq_true rfl) dX12_curveAt_52 ⟨Nat.zero_le _, Nat.zero_le _⟩ rfl (fun H locs hP hD hS => ?_)
        refine lv_lmul hx hb dX12_curveAt_55 ?_
        refine lv_lload hx hb dX12_curveAt_56 (lv_at hl 3 rfl) ?_
        obtain ⟨c6, h⟩ := f_n h
        refine lv_lrem hx hb dX12_curveAt_58 c6 ?_
        refine lv_lstore (lv' := [(9, .long ((z9 * q5) - (z9 * q5) / y4 * y4)), (0, .ref (G.2.1 200)), (1, .int y1), (2, .long y2), (4, .long y4), (6, .long y6), (8, .int y8), (11, .long z11), (13, .int z13)]) hx hb dX12_curveAt_59 hl (by decide) rfl (fun ls hl => ?_)
        refine lv_lload hx hb dX12_curveAt_61 (lv_at hl 7 rfl) ?_
        refine lv_iload hx hb dX12_curveAt_63 (lv_at hl 6 rfl) ?_
        refine lv_iload hx hb dX12_curveAt_65 (lv_at hl 8 rfl) ?_
        refine lv_isub hx hb dX12_curveAt_67 ?_
        refine lv_i2l (v := ((y8 - z13) : Int32).toInt64) hx hb dX12_curveAt_68 rfl ?_
        refine lv_lload hx hb dX12_curveAt_69 (lv_at hl 4 rfl) ?_
        obtain ⟨q7, hq7, h⟩ := f_b h
        refine cl_S (w := (mW G Z Y σ0)) (w' := (mW G Z Y σ0)) (rv := some (.long q7)) (bytes := cX12_rest) (maxL := 6) (ret := (some .long)) (As := [.long ((y8 - z13) : Int32).toInt64, .long y4]) (rest := [.long z11]) (stk := [.long q7, .long z11]) ⟨hx, hb, hml, hown, hts⟩ hK hE hA hP hD hS (c_X12_rest l D G (mW G Z Y σ0) (((y8 - z13) : Int32).toInt64) y4 q7 hq7) (mkS hts wd_1514 wd_1515 wd_11 wd_1516 rfl rfl hd_X12_rest ⟨Nat.le_of_ble_eq_true rfl, Nat.le_of_ble_eq_true rfl⟩) rfl hl.1 rfl (Nat.le_of_ble_eq_true rfl) dX12_curveAt_71 ⟨Nat.zero_le _, Nat.zero_le _⟩ rfl (fun H locs hP hD hS => ?_)
        refine lv_lmul hx hb dX12_curveAt_74 ?_
        refine lv_lload hx hb dX12_curveAt_75 (lv_at hl 4 rfl) ?_
        obtain ⟨c8, h⟩ := f_n h
        refine lv_lrem hx hb dX12_curveAt_77 c8 ?_
        refine lv_lstore (lv' := [(11, .long ((z11 * q7) - (z11 * q7) / y4 * y4)), (9, .long ((z9 * q5) - (z9 * q5) / y4 * y4)), (0, .ref (G.2.1 200)), (1, .int y1), (2, .long y2), (4, .long y4), (6, .long y6), (8, .int y8), (13, .int z13)]) hx hb dX12_curveAt_78 hl (by decide) rfl (fun ls hl => ?_)
        refine lv_iinc (v := (z13 + 1)) (lv' := [(13, .int (z13 + 1)), (11, .long ((z11 * q7) - (z11 * q7) / y4 * y4)), (9, .long ((z9 * q5) - (z9 * q5) / y4 * y4)), (0, .ref (G.2.1 200)), (1, .int y1), (2, .long y2), (4, .long y4), (6, .long y6), (8, .int y8)]) hx hb dX12_curveAt_80 hl (k := 8) rfl rfl (by decide) rfl (fun ls hl => ?_)
        refine lv_goto (tgt := 27) hx hb dX12_curveAt_83 (by decide) ?_
        exact ih ((z9 * q5) - (z9 * q5) / y4 * y4) ((z11 * q7) - (z11 * q7) / y4 * y4) (z13 + 1) h _ _ _ hP hD hS (lv_sub hl [3, 4, 5, 6, 7, 8, 2, 1, 0] rfl)
      · skip
        have h := f_t c4 h
        refine lv_goto (tgt := 80) hx hb dX12_curveAt_40 (by decide) ?_
        refine lv_iinc (v := (z13 + 1)) (lv' := [(13, .int (z13 + 1)), (0, .ref (G.2.1 200)), (1, .int y1), (2, .long y2), (4, .long y4), (6, .long y6), (8, .int y8), (9, .long z9), (11, .long z11)]) hx hb dX12_curveAt_80 hl (k := 8) rfl rfl (by decide) rfl (fun ls hl => ?_)
        refine lv_goto (tgt := 27) hx hb dX12_curveAt_83 (by decide) ?_
        exact ih z9 z11 (z13 + 1) h _ _ _ hP hD hS (lv_sub hl [1, 2, 3, 4, 5, 6, 7, 8, 0] rfl)
set_option maxRecDepth 100000 in
set_option maxHeartbeats 8000000 in
theorem W_X12_curveAt_L6 {p : Program} {e : Env} {s : State} {m : MethodId} {args : Array Value} {below : List Frame} {meth : Method} {c : Code} {A : Nat → Prop} (l : Launch) (D : va_G) (G : hG) (Z : hZ) (Y : va_W) (σ0 : hSt) (F : Nat) (x1 : Int32) (x2 : Int64) (x4 : Int64) (y1 : Int32) (y2 : Int64) (y4 : Int64) (res : Int64) (C0 : Cx p s m args meth c cX12_curveAt (some .long) RX12 14 D G A) (hA : ∀ q : Nat, s.heap.size ≤ q → A q) : ∀ (n : Nat) (z6 : Int64) (z8 : Int32), f_X12_curveAt_L6 F σ0 y1 y2 y4 n z6 z8 = some res → ∀ (H : Heap) (locs : List Loc) (ls : Array Slot), va_P D vwCl (mW G Z Y σ0) H → va_D A (mW G Z Y σ0) → va_S A s.heap H locs → lv_has ls 14 [(0, .ref (G.2.1 200)), (1, .int y1), (2, .long y2), (4, .long y4), (6, .long z6), (8, .int z8)] → W p l e rm_X12_curveAt s m args below meth c H locs 0 0 (MQ below (Qg (some (.long res)) D (tysG G) (mW G Z Y σ0) A) args s 0 0 A) (F0 m 6 ls []) := by
  obtain ⟨hx, hb, hr, hml, hown, hts, hlocks, hK, hE⟩ := id C0
  intro n
  induction n with
  | zero =>
    intro z6 z8 h
    cases h
  | succ n ih =>
    intro z6 z8 h H locs ls hP hD hS hl
    rw [f_X12_curveAt_L6] at h
    refine lv_iload hx hb dX12_curveAt_6 (lv_at hl 5 rfl) ?_
    refine lv_iload_n hx hb dX12_curveAt_8 rfl (lv_at hl 1 rfl) ?_
    refine lv_icmp_ge (tgt := 116) hx hb dX12_curveAt_9 (by decide) (fun c1 => ?_) (fun c1 => ?_)
    · skip
      have h := f_t c1 h
      refine lv_lload hx hb dX12_curveAt_116 (lv_at hl 4 rfl) ?_
      obtain rfl := Option.some.inj h
      exact W.lret (v := z6) hx hb hr (q_end hK hP hD hS) hS.2.2 dX12_curveAt_118
    · skip
      have h := f_f c1 h
      refine lv_aload_n hx hb dX12_curveAt_12 rfl (lv_at hl 0 rfl) ?_
      refine va_get (D := D) (ci := 12) (v := .ref (G.2.1 210)) (C := RX12) (T := TX12) (N := 59) hx hb hts inU_X12 hown hK hP _ (mg_200 G Z Y σ0) rfl 21 (by decide) (hts _ wd_1269) (fun _ h9 => h9) rfl dX12_curveAt_13 ?_
      refine lv_iload hx hb dX12_curveAt_16 (lv_at hl 5 rfl) ?_
      obtain ⟨c2, h⟩ := f_n h
      refine va_laldE (v := (σ0.2.1 210 ((z8 : Int32).toNatClampNeg))) hx hb hK hP _ 1 (mg_210 G Z Y σ0) rfl c2 dX12_curveAt_18 rfl ?_
      refine lv_lstore (lv' := [(9, .long (σ0.2.1 210 ((z8 : Int32).toNatClampNeg))), (0, .ref (G.2.1 200)), (1, .int y1), (2, .long y2), (4, .long y4), (6, .long z6), (8, .int z8)]) hx hb dX12_curveAt_19 hl (by decide) rfl (fun ls hl => ?_)
      refine lv_lconst (v := 1) hx hb dX12_curveAt_21 (by decide) ?_
      refine lv_lstore (lv' := [(11, .long (1 : Int64)), (9, .long (σ0.2.1 210 ((z8 : Int32).toNatClampNeg))), (0, .ref (G.2.1 200)), (1, .int y1), (2, .long y2), (4, .long y4), (6, .long z6), (8, .int z8)]) hx hb dX12_curveAt_22 hl (by decide) rfl (fun ls hl => ?_)
      refine lv_iconst (v := 0) hx hb dX12_curveAt_24 (by decide) ?_
      refine lv_istore (lv' := [(13, .int (0 : Int32)), (11, .long (1 : Int64)), (9, .long (σ0.2.1 210 ((z8 : Int32).toNatClampNeg))), (0, .ref (G.2.1 200)), (1, .int y1), (2, .long y2), (4, .long y4), (6, .long z6), (8, .int z8)]) hx hb dX12_curveAt_25 hl (by decide) rfl (fun ls hl => ?_)
      refine W_X12_curveAt_L27 l D G Z Y σ0 F x1 x2 x4 y1 y2 y4 z6 z8 res C0 hA _ ?_ F (σ0.2.1 210 ((z8 : Int32).toNatClampNeg)) (1 : Int64) (0 : Int32) h _ _ _ hP hD hS (lv_sub hl [3, 4, 5, 6, 7, 8, 2, 1, 0] rfl)
      · intro z9 z11 h H locs ls hP hD hS hl
        refine lv_lload hx hb dX12_curveAt_86 (lv_at hl 4 rfl) ?_
        refine lv_lload hx hb dX12_curveAt_88 (lv_at hl 6 rfl) ?_
        refine lv_lload hx hb dX12_curveAt_90 (lv_at hl 7 rfl) ?_
        refine lv_lload hx hb dX12_curveAt_92 (lv_at hl 3 rfl) ?_
        refine lv_ldc2 (v := 2) hx hb hown (hts _ wd_1541) dX12_curveAt_94 ?_
        refine lv_lsub hx hb dX12_curveAt_97 ?_
        refine lv_lload hx hb dX12_curveAt_98 (lv_at hl 3 rfl) ?_
        obtain ⟨q9, hq9, h⟩ := f_b h
        refine cl_S (w := (mW G Z Y σ0)) (w' := (mW G Z Y σ0)) (rv := some (.long q9)) (bytes := cX12_power) (maxL := 12) (ret := (some .long)) (As := [.long z11, .long (y4 - (2 : Int64)), .long y4]) (rest := [.long z9, .long z6]) (stk := [.long q9, .long z9, .long z6]) ⟨hx, hb, hml, hown, hts⟩ hK hE hA hP hD hS (c_X12_power l D G (mW G Z Y σ0) F z11 (y4 - (2 : Int64)) y4 q9 hq9) (mkS hts wd_1566 wd_1567 wd_11 wd_1568 rfl rfl hd_X12_power ⟨Nat.le_of_ble_eq_true rfl, Nat.le_of_ble_eq_true rfl⟩) rfl hl.1 rfl (Nat.le_of_ble_eq_true rfl) dX12_curveAt_100 ⟨Nat.zero_le _, Nat.zero_le _⟩ rfl (fun H locs hP hD hS => ?_)
        refine lv_lmul hx hb dX12_curveAt_103 ?_
        refine lv_ladd hx hb dX12_curveAt_104 ?_
        refine lv_lload hx hb dX12_curveAt_105 (lv_at hl 3 rfl) ?_
        obtain ⟨c10, h⟩ := f_n h
        refine lv_lrem hx hb dX12_curveAt_107 c10 ?_
        refine lv_lstore (lv' := [(6, .long ((z6 + (z9 * q9)) - (z6 + (z9 * q9)) / y4 * y4)), (0, .ref (G.2.1 200)), (1, .int y1), (2, .long y2), (4, .long y4), (8, .int z8), (9, .long z9), (11, .long z11)]) hx hb dX12_curveAt_108 hl (by decide) rfl (fun ls hl => ?_)
        refine lv_iinc (v := (z8 + 1)) (lv' := [(8, .int (z8 + 1)), (6, .long ((z6 + (z9 * q9)) - (z6 + (z9 * q9)) / y4 * y4)), (0, .ref (G.2.1 200)), (1, .int y1), (2, .long y2), (4, .long y4), (9, .long z9), (11, .long z11)]) hx hb dX12_curveAt_110 hl (k := 5) rfl rfl (by decide) rfl (fun ls hl => ?_)
        refine lv_goto (tgt := 6) hx hb dX12_curveAt_113 (by decide) ?_
        exact ih ((z6 + (z9 * q9)) - (z6 + (z9 * q9)) / y4 * y4) (z8 + 1) h _ _ _ hP hD hS (lv_sub hl [2, 3, 4, 5, 1, 0] rfl)
set_option maxRecDepth 100000 in
set_option maxHeartbeats 8000000 in
theorem c_X12_curveAt (l : Launch) (D : va_G) (G : hG) (Z : hZ) (Y : va_W) (σ0 : hSt) (F : Nat) (x1 : Int32) (x2 : Int64) (x4 : Int64) (res : Int64) (h : f_X12_curveAt F Z σ0 x1 x2 x4 = some res) : CT l yX12_curveAt cX12_curveAt 14 (some .long) rm_X12_curveAt D G 0 0 [.ref (G.2.1 200), .int x1, .long x2, .long x4] (mW G Z Y σ0) (mW G Z Y σ0) (some (.long res)) := by
  unfold f_X12_curveAt at h
  refine CT.mk (cc := cX12_curveAt) (maxL := 14) (ret := (some .long)) (own := RX12) (plainFor_of_name (by decide)) rfl (Nat.le_of_ble_eq_true rfl) ?_
  intro p e s m args below meth c A ls C0 hnm hA hP hD hl
  obtain ⟨hx, hb, hr, hml, hown, hts, hlocks, hK, hE⟩ := id C0
  have hS : va_S A s.heap s.heap [] := va_S.rf
  have hl : lv_has ls 14 [(0, .ref (G.2.1 200)), (1, .int x1), (2, .long x2), (4, .long x4)] := hl
  refine lv_lconst (v := 0) hx hb dX12_curveAt_0 (by decide) ?_
  refine lv_lstore (lv' := [(6, .long (0 : Int64)), (0, .ref (G.2.1 200)), (1, .int x1), (2, .long x2), (4, .long x4)]) hx hb dX12_curveAt_1 hl (by decide) rfl (fun ls hl => ?_)
  refine lv_iconst (v := 0) hx hb dX12_curveAt_3 (by decide) ?_
  refine lv_istore (lv' := [(8, .int (0 : Int32)), (6, .long (0 : Int64)), (0, .ref (G.2.1 200)), (1, .int x1), (2, .long x2), (4, .long x4)]) hx hb dX12_curveAt_4 hl (by decide) rfl (fun ls hl => ?_)
  refine W_X12_curveAt_L6 l D G Z Y σ0 F x1 x2 x4 x1 x2 x4 res C0 hA F (0 : Int64) (0 : Int32) h _ _ _ hP hD hS (lv_sub hl [2, 3, 4, 5, 1, 0] rfl)
abbrev rm_X12_curve : Room := { frames := 2, cells := 0, slots := 0, locals := 64 }
set_option maxRecDepth 100000 in
set_option maxHeartbeats 8000000 in
theorem W_X12_curve_L35 {p : Program} {e : Env} {s : State} {m : MethodId} {args : Array Value} {below : List Frame} {meth : Method} {c : Code} {A : Nat → Prop} (l : Launch) (D : va_G) (G : hG) (Z : hZ) (Y : va_W) (σ0 : hSt) (F : Nat) (x1 : Int32) (x2 : Int32) (y1 : Int32) (y2 : Int32) (res : (Int32 × hSt)) (C0 : Cx p s m args meth c cX12_curve (some .int) RX12 4 D G A) (hA : ∀ q : Nat, s.heap.size ≤ q → A q) (k64 : hSt → Option (Int32 × hSt)) (hk64 : ∀ (σ1 : hSt), k64 σ1 = some res → ∀ (H : Heap) (locs : List Loc) (ls : Array Slot), va_P D vwCl (mW G Z Y σ1) H → va_D A (mW G Z Y σ1) → va_S A s.heap H locs → lv_has ls 4 [(0, .ref (G.2.1 200)), (1, .int y1), (2, .int y2)] → W p l e rm_X12_curve s m args below meth c H locs 0 0 (MQ below (Qg (some (.int res.1)) D (tysG G) (mW G Z Y res.2) A) args s 0 0 A) (F0 m 64 ls [])) : ∀ (n : Nat) (σ1 : hSt) (z3 : Int32), f_X12_curve_L35 y1 y2 k64 n σ1 z3 = some res → ∀ (H : Heap) (locs : List Loc) (ls : Array Slot), va_P D vwCl (mW G Z Y σ1) H → va_D A (mW G Z Y σ1) → va_S A s.heap H locs → lv_has ls 4 [(0, .ref (G.2.1 200)), (1, .int y1), (2, .int y2), (3, .int z3)] → W p l e rm_X12_curve s m args below meth c H locs 0 0 (MQ below (Qg (some (.int res.1)) D (tysG G) (mW G Z Y res.2) A) args s 0 0 A) (F0 m 35 ls []) := by
  obtain ⟨hx, hb, hr, hml, hown, hts, hlocks, hK, hE⟩ := id C0
  intro n
  induction n with
  | zero =>
    intro σ1 z3 h
    cases h
  | succ n ih =>
    intro σ1 z3 h H locs ls hP hD hS hl
    rw [f_X12_curve_L35] at h
    refine lv_iload_n hx hb dX12_curve_35 rfl (lv_at hl 3 rfl) ?_
    refine lv_aload_n hx hb dX12_curve_36 rfl (lv_at hl 0 rfl) ?_
    refine va_get (D := D) (ci := 12) (v := .int (σ1.1 200 20)) (C := RX12) (T := TX12) (N := 59) hx hb hts inU_X12 hown hK hP _ (mg_200 G Z Y σ1) rfl 20 (by decide) (hts _ wd_1268) (fun _ h9 => h9) rfl dX12_curve_37 ?_
    refine lv_icmp_ge (tgt := 64) hx hb dX12_curve_40 (by decide) (fun c6 => ?_) (fun c6 => ?_)
    · skip
      have h := f_t c6 h
      exact hk64 σ1 h _ _ _ hP hD hS (lv_sub hl [0, 1, 2] rfl)
    · skip
      have h := f_f c6 h
      refine lv_aload_n hx hb dX12_curve_43 rfl (lv_at hl 0 rfl) ?_
      refine va_get (D := D) (ci := 12) (v := .ref (G.2.1 210)) (C := RX12) (T := TX12) (N := 59) hx hb hts inU_X12 hown hK hP _ (mg_200 G Z Y σ1) rfl 21 (by decide) (hts _ wd_1269) (fun _ h9 => h9) rfl dX12_curve_44 ?_
      refine lv_iload_n hx hb dX12_curve_47 rfl (lv_at hl 3 rfl) ?_
      refine lv_aload_n hx hb dX12_curve_48 rfl (lv_at hl 0 rfl) ?_
      refine va_get (D := D) (ci := 12) (v := .ref (G.2.1 209)) (C := RX12) (T := TX12) (N := 59) hx hb hts inU_X12 hown hK hP _ (mg_200 G Z Y σ1) rfl 19 (by decide) (hts _ wd_1267) (fun _ h9 => h9) rfl dX12_curve_49 ?_
      refine lv_iload_n hx hb dX12_curve_52 rfl (lv_at hl 3 rfl) ?_
      obtain ⟨c7, h⟩ := f_n h
      refine va_ialdE (v := (σ1.1 209 ((z3 : Int32).toNatClampNeg))) hx hb hK hP _ 0 (mg_209 G Z Y σ1) rfl c7 dX12_curve_53 rfl ?_
      refine lv_iload_n hx hb dX12_curve_54 rfl (lv_at hl 1 rfl) ?_
      obtain ⟨c8, h⟩ := f_n h
      refine lv_irem hx hb dX12_curve_55 c8 ?_
      refine lv_i2l (v := (((σ1.1 209 ((z3 : Int32).toNatClampNeg)) - (σ1.1 209 ((z3 : Int32).toNatClampNeg)) / y1 * y1) : Int32).toInt64) hx hb dX12_curve_56 rfl ?_
      obtain ⟨c9, h⟩ := f_n h
      refine va_last hx hb hK hP hD hS _ 1 (mg_210 G Z Y σ1) rfl c9 dX12_curve_57 (fun H locs hP hD hS => ?_)
      have hP := wrP (mp_210 G Z Y σ1 _ _) hP
      have hD := wrD (mp_210 G Z Y σ1 _ _) hD
      refine lv_iinc (v := (z3 + 1)) (lv' := [(3, .int (z3 + 1)), (0, .ref (G.2.1 200)), (1, .int y1), (2, .int y2)]) hx hb dX12_curve_58 hl (k := 3) rfl rfl (by decide) rfl (fun ls hl => ?_)
      refine lv_goto (tgt := 35) hx hb dX12_curve_61 (by decide) ?_
      exact ih (sJ σ1 210 ((z3 : Int32).toNatClampNeg) ((((σ1.1 209 ((z3 : Int32).toNatClampNeg)) - (σ1.1 209 ((z3 : Int32).toNatClampNeg)) / y1 * y1) : Int32).toInt64)) (z3 + 1) h _ _ _ hP hD hS (lv_sub hl [1, 2, 3, 0] rfl)
set_option maxRecDepth 100000 in
set_option maxHeartbeats 8000000 in
theorem c_X12_curve (l : Launch) (D : va_G) (G : hG) (Z : hZ) (Y : va_W) (σ0 : hSt) (F : Nat) (x1 : Int32) (x2 : Int32) (res : (Int32 × hSt)) (h : f_X12_curve F Z σ0 x1 x2 = some res) : CT l yX12_curve cX12_curve 4 (some .int) rm_X12_curve D G 0 0 [.ref (G.2.1 200), .int x1, .int x2] (mW G Z Y σ0) (mW G Z Y res.2) (some (.int res.1)) := by
  unfold f_X12_curve at h
  refine CT.mk (cc := cX12_curve) (maxL := 4) (ret := (some .int)) (own := RX12) (plainFor_of_name (by decide)) rfl (Nat.le_of_ble_eq_true rfl) ?_
  intro p e s m args below meth c A ls C0 hnm hA hP hD hl
  obtain ⟨hx, hb, hr, hml, hown, hts, hlocks, hK, hE⟩ := id C0
  have hS : va_S A s.heap s.heap [] := va_S.rf
  have hl : lv_has ls 4 [(0, .ref (G.2.1 200)), (1, .int x1), (2, .int x2)] := hl
  refine lv_aload_n hx hb dX12_curve_0 rfl (lv_at hl 0 rfl) ?_
  refine lv_iconst (v := 0) hx hb dX12_curve_1 (by decide) ?_
  refine va_put (D := D) (ci := 12) (v := .int (0 : Int32)) (ty := .int) (C := RX12) (T := TX12) (N := 59) hx hb hts inU_X12 tyX12 tyX12_ok nmX12 hown hK hP hD hS _ (mg_200 G Z Y σ0) rfl 0 (by decide) (hts _ wd_1248) (fun _ h9 => h9) rfl (by decide +kernel) rfl rfl (Nat.le_of_ble_eq_true rfl) dX12_curve_2 (fun H locs hP hD hS => ?_)
  have hP := wrP (mp_200_0 G Z Y σ0 (0 : Int32)) hP
  have hD := wrD (mp_200_0 G Z Y σ0 (0 : Int32)) hD
  refine lv_iload_n hx hb dX12_curve_5 rfl (lv_at hl 1 rfl) ?_
  obtain ⟨q1, hq1, h⟩ := f_b h
  refine cl_S (w := (mW G Z Y (sI σ0 200 0 (0 : Int32)))) (w' := (mW G Z Y (sI σ0 200 0 (0 : Int32)))) (rv := some (.int q1)) (bytes := cX12_isRing) (maxL := 1) (ret := (some .boolean)) (As := [.int x1]) (rest := []) (stk := [.int q1]) ⟨hx, hb, hml, hown, hts⟩ hK hE hA hP hD hS (c_X12_isRing l D G (mW G Z Y (sI σ0 200 0 (0 : Int32))) F x1 q1 hq1) (mkS hts wd_1546 wd_1547 wd_11 wd_1548 rfl rfl hd_X12_isRing ⟨Nat.le_of_ble_eq_true rfl, Nat.le_of_ble_eq_true rfl⟩) rfl hl.1 rfl (Nat.le_of_ble_eq_true rfl) dX12_curve_6 ⟨Nat.zero_le _, Nat.zero_le _⟩ rfl (fun H locs hP hD hS => ?_)
  refine lv_if_eq (tgt := 31) hx hb dX12_curve_9 (by decide) (fun c2 => ?_) (fun c2 => ?_)
  · skip
    have h := f_t c2 h
    refine lv_iconst (v := (-1)) hx hb dX12_curve_31 (by decide) ?_
    obtain rfl := Option.some.inj h
    exact W.iret (v := (-1 : Int32)) hx hb hr (q_end hK hP hD hS) hS.2.2 dX12_curve_32
  · skip
    have h := f_f c2 h
    refine lv_aload_n hx hb dX12_curve_12 rfl (lv_at hl 0 rfl) ?_
    refine va_get (D := D) (ci := 12) (v := .int (σ0.1 200 20)) (C := RX12) (T := TX12) (N := 59) hx hb hts inU_X12 hown hK hP _ (mg_200 G Z Y (sI σ0 200 0 (0 : Int32))) rfl 20 (by decide) (hts _ wd_1268) (fun _ h9 => h9) rfl dX12_curve_13 ?_
    refine lv_if_eq (tgt := 31) hx hb dX12_curve_16 (by decide) (fun c3 => ?_) (fun c3 => ?_)
    · skip
      have h := f_t c3 h
      refine lv_iconst (v := (-1)) hx hb dX12_curve_31 (by decide) ?_
      obtain rfl := Option.some.inj h
      exact W.iret (v := (-1 : Int32)) hx hb hr (q_end hK hP hD hS) hS.2.2 dX12_curve_32
    · skip
      have h := f_f c3 h
      refine lv_aload_n hx hb dX12_curve_19 rfl (lv_at hl 0 rfl) ?_
      refine va_get (D := D) (ci := 12) (v := .int (σ0.1 200 20)) (C := RX12) (T := TX12) (N := 59) hx hb hts inU_X12 hown hK hP _ (mg_200 G Z Y (sI σ0 200 0 (0 : Int32))) rfl 20 (by decide) (hts _ wd_1268) (fun _ h9 => h9) rfl dX12_curve_20 ?_
      refine lv_iload_n hx hb dX12_curve_23 rfl (lv_at hl 1 rfl) ?_
      refine lv_icmp_ge (tgt := 31) hx hb dX12_curve_24 (by decide) (fun c4 => ?_) (fun c4 => ?_)
      · skip
        have h := f_t c4 h
        refine lv_iconst (v := (-1)) hx hb dX12_curve_31 (by decide) ?_
        obtain rfl := Option.some.inj h
        exact W.iret (v := (-1 : Int32)) hx hb hr (q_end hK hP hD hS) hS.2.2 dX12_curve_32
      · skip
        have h := f_f c4 h
        refine lv_iload_n hx hb dX12_curve_27 rfl (lv_at hl 2 rfl) ?_
        refine lv_if_ge (tgt := 33) hx hb dX12_curve_28 (by decide) (fun c5 => ?_) (fun c5 => ?_)
        · skip
          have h := f_t c5 h
          refine lv_iconst (v := 0) hx hb dX12_curve_33 (by decide) ?_
          refine lv_istore_n (lv' := [(3, .int (0 : Int32)), (0, .ref (G.2.1 200)), (1, .int x1), (2, .int x2)]) hx hb dX12_curve_34 rfl hl (by decide) rfl (fun ls hl => ?_)
          refine W_X12_curve_L35 l D G Z Y σ0 F x1 x2 x1 x2 res C0 hA _ ?_ F (sI σ0 200 0 (0 : Int32)) (0 : Int32) h _ _ _ hP hD hS (lv_sub hl [1, 2, 3, 0] rfl)
          · intro σ1 h H locs ls hP hD hS hl
            refine lv_aload_n hx hb dX12_curve_64 rfl (lv_at hl 0 rfl) ?_
            refine lv_aload_n hx hb dX12_curve_65 rfl (lv_at hl 0 rfl) ?_
            refine va_get (D := D) (ci := 12) (v := .int (σ1.1 200 20)) (C := RX12) (T := TX12) (N := 59) hx hb hts inU_X12 hown hK hP _ (mg_200 G Z Y σ1) rfl 20 (by decide) (hts _ wd_1268) (fun _ h9 => h9) rfl dX12_curve_66 ?_
            refine lv_iload_n hx hb dX12_curve_69 rfl (lv_at hl 2 rfl) ?_
            refine lv_i2l (v := (x2 : Int32).toInt64) hx hb dX12_curve_70 rfl ?_
            refine lv_iload_n hx hb dX12_curve_71 rfl (lv_at hl 1 rfl) ?_
            refine lv_i2l (v := (x1 : Int32).toInt64) hx hb dX12_curve_72 rfl ?_
            obtain ⟨q10, hq10, h⟩ := f_b h
            refine cl_V (w := (mW G Z Y σ1)) (w' := (mW G Z Y σ1)) (rv := some (.long q10)) (bytes := cX12_curveAt) (maxL := 14) (ret := (some .long)) (C := RX12) (As := [.int (σ1.1 200 20), .long (x2 : Int32).toInt64, .long (x1 : Int32).toInt64]) (rest := []) (stk := [.long q10]) ⟨hx, hb, hml, hown, hts⟩ hK hE hA hP hD hS (c_X12_curveAt l D G Z Y σ1 F (σ1.1 200 20) ((x2 : Int32).toInt64) ((x1 : Int32).toInt64) q10 hq10) (cwV 3 hts (gwV wd_1562 wd_1564 wp_63 wd_11 wd_1565) rfl rfl rfl hd_X12_curveAt ⟨Nat.le_of_ble_eq_true rfl, Nat.le_of_ble_eq_true rfl⟩) (mg_200 G Z Y σ1) rfl rfl rfl hl.1 rfl (Nat.le_of_ble_eq_true rfl) dX12_curve_73 ⟨Nat.zero_le _, Nat.zero_le _⟩ rfl (fun H locs hP hD hS => ?_)
            refine lv_l2i (v := (q10 : Int64).toInt32) hx hb dX12_curve_76 rfl ?_
            obtain rfl := Option.some.inj h
            exact W.iret (v := (q10 : Int64).toInt32) hx hb hr (q_end hK hP hD hS) hS.2.2 dX12_curve_77
        · skip
          have h := f_f c5 h
          refine lv_iconst (v := (-1)) hx hb dX12_curve_31 (by decide) ?_
          obtain rfl := Option.some.inj h
          exact W.iret (v := (-1 : Int32)) hx hb hr (q_end hK hP hD hS) hS.2.2 dX12_curve_32
abbrev rm_X12_isDigit : Room := { frames := 0, cells := 0, slots := 0, locals := 0 }
set_option maxRecDepth 100000 in
set_option maxHeartbeats 8000000 in
theorem c_X12_isDigit (l : Launch) (D : va_G) (G : hG) (Z : hZ) (Y : va_W) (σ0 : hSt) (res : Int32) (h : f_X12_isDigit Z σ0 = some res) : CT l yX12_isDigit cX12_isDigit 1 (some .boolean) rm_X12_isDigit D G 0 0 [.ref (G.2.1 200)] (mW G Z Y σ0) (mW G Z Y σ0) (some (.int res)) := by
  unfold f_X12_isDigit at h
  refine CT.mk (cc := cX12_isDigit) (maxL := 1) (ret := (some .boolean)) (own := RX12) (plainFor_of_name (by decide)) rfl (Nat.le_of_ble_eq_true rfl) ?_
  intro p e s m args below meth c A ls C0 hnm hA hP hD hl
  obtain ⟨hx, hb, hr, hml, hown, hts, hlocks, hK, hE⟩ := id C0
  have hS : va_S A s.heap s.heap [] := va_S.rf
  have hl : lv_has ls 1 [(0, .ref (G.2.1 200))] := hl
  refine lv_aload_n hx hb dX12_isDigit_0 rfl (lv_at hl 0 rfl) ?_
  refine va_get (D := D) (ci := 12) (v := .int (σ0.1 200 6)) (C := RX12) (T := TX12) (N := 59) hx hb hts inU_X12 hown hK hP _ (mg_200 G Z Y σ0) rfl 6 (by decide) (hts _ wd_1254) (fun _ h9 => h9) rfl dX12_isDigit_1 ?_
  refine lv_aload_n hx hb dX12_isDigit_4 rfl (lv_at hl 0 rfl) ?_
  refine va_get (D := D) (ci := 12) (v := .int (σ0.1 200 5)) (C := RX12) (T := TX12) (N := 59) hx hb hts inU_X12 hown hK hP _ (mg_200 G Z Y σ0) rfl 5 (by decide) (hts _ wd_1253) (fun _ h9 => h9) rfl dX12_isDigit_5 ?_
  refine lv_icmp_ge (tgt := 53) hx hb dX12_isDigit_8 (by decide) (fun c1 => ?_) (fun c1 => ?_)
  · skip
    have h := f_t c1 h
    refine lv_iconst (v := 0) hx hb dX12_isDigit_53 (by decide) ?_
    obtain rfl := Option.some.inj h
    exact W.zret (v := (0 : Int32)) hx hb hr rfl (q_end hK hP hD hS) hS.2.2 dX12_isDigit_54
  · skip
    have h := f_f c1 h
    refine lv_aload_n hx hb dX12_isDigit_11 rfl (lv_at hl 0 rfl) ?_
    refine va_get (D := D) (ci := 12) (v := va_rf (((σ0.2.2 200 2)).map G.2.1)) (C := RX12) (T := TX12) (N := 59) hx hb hts inU_X12 hown hK hP _ (mg_200 G Z Y σ0) rfl 2 (by decide) (hts _ wd_1250) (fun _ h9 => h9) rfl dX12_isDigit_12 ?_
    rcases f_o h with ⟨ho, h⟩ | ⟨r2, ho, h⟩
    · rw [ho]
      refine lv_aload_n hx hb dX12_isDigit_15 rfl (lv_at hl 0 rfl) ?_
      refine va_get (D := D) (ci := 12) (v := .int (σ0.1 200 4)) (C := RX12) (T := TX12) (N := 59) hx hb hts inU_X12 hown hK hP _ (mg_200 G Z Y σ0) rfl 4 (by decide) (hts _ wd_1252) (fun _ h9 => h9) rfl dX12_isDigit_16 ?_
      refine lv_aload_n hx hb dX12_isDigit_19 rfl (lv_at hl 0 rfl) ?_
      refine va_get (D := D) (ci := 12) (v := .int (σ0.1 200 6)) (C := RX12) (T := TX12) (N := 59) hx hb hts inU_X12 hown hK hP _ (mg_200 G Z Y σ0) rfl 6 (by decide) (hts _ wd_1254) (fun _ h9 => h9) rfl dX12_isDigit_20 ?_
      refine lv_iadd hx hb dX12_isDigit_23 ?_
      cases h
    · rw [ho]
      obtain ⟨hr2, h⟩ := f_c h
      refine lv_aload_n hx hb dX12_isDigit_15 rfl (lv_at hl 0 rfl) ?_
      refine va_get (D := D) (ci := 12) (v := .int (σ0.1 200 4)) (C := RX12) (T := TX12) (N := 59) hx hb hts inU_X12 hown hK hP _ (mg_200 G Z Y σ0) rfl 4 (by decide) (hts _ wd_1252) (fun _ h9 => h9) rfl dX12_isDigit_16 ?_
      refine lv_aload_n hx hb dX12_isDigit_19 rfl (lv_at hl 0 rfl) ?_
      refine va_get (D := D) (ci := 12) (v := .int (σ0.1 200 6)) (C := RX12) (T := TX12) (N := 59) hx hb hts inU_X12 hown hK hP _ (mg_200 G Z Y σ0) rfl 6 (by decide) (hts _ wd_1254) (fun _ h9 => h9) rfl dX12_isDigit_20 ?_
      refine lv_iadd hx hb dX12_isDigit_23 ?_
      obtain ⟨c3, h⟩ := f_n h
      refine va_baldE (v := (σ0.1 r2 ((((σ0.1 200 4) + (σ0.1 200 6)) : Int32).toNatClampNeg))) hx hb hK hP _ 2 (mg_By G Z Y σ0 hr2) rfl c3 dX12_isDigit_24 rfl ?_
      refine lv_bipush (v := 48) hx hb dX12_isDigit_25 (by decide) ?_
      refine lv_icmp_lt (tgt := 53) hx hb dX12_isDigit_27 (by decide) (fun c4 => ?_) (fun c4 => ?_)
      · skip
        have h := f_t c4 h
        refine lv_iconst (v := 0) hx hb dX12_isDigit_53 (by decide) ?_
        obtain rfl := Option.some.inj h
        exact W.zret (v := (0 : Int32)) hx hb hr rfl (q_end hK hP hD hS) hS.2.2 dX12_isDigit_54
      · skip
        have h := f_f c4 h
        refine lv_aload_n hx hb dX12_isDigit_30 rfl (lv_at hl 0 rfl) ?_
        refine va_get (D := D) (ci := 12) (v := va_rf (((σ0.2.2 200 2)).map G.2.1)) (C := RX12) (T := TX12) (N := 59) hx hb hts inU_X12 hown hK hP _ (mg_200 G Z Y σ0) rfl 2 (by decide) (hts _ wd_1250) (fun _ h9 => h9) rfl dX12_isDigit_31 ?_
        rcases f_o h with ⟨ho, h⟩ | ⟨r5, ho, h⟩
        · rw [ho]
          refine lv_aload_n hx hb dX12_isDigit_34 rfl (lv_at hl 0 rfl) ?_
          refine va_get (D := D) (ci := 12) (v := .int (σ0.1 200 4)) (C := RX12) (T := TX12) (N := 59) hx hb hts inU_X12 hown hK hP _ (mg_200 G Z Y σ0) rfl 4 (by decide) (hts _ wd_1252) (fun _ h9 => h9) rfl dX12_isDigit_35 ?_
          refine lv_aload_n hx hb dX12_isDigit_38 rfl (lv_at hl 0 rfl) ?_
          refine va_get (D := D) (ci := 12) (v := .int (σ0.1 200 6)) (C := RX12) (T := TX12) (N := 59) hx hb hts inU_X12 hown hK hP _ (mg_200 G Z Y σ0) rfl 6 (by decide) (hts _ wd_1254) (fun _ h9 => h9) rfl dX12_isDigit_39 ?_
          refine lv_iadd hx hb dX12_isDigit_42 ?_
          cases h
        · rw [ho]
          obtain ⟨hr5, h⟩ := f_c h
          refine lv_aload_n hx hb dX12_isDigit_34 rfl (lv_at hl 0 rfl) ?_
          refine va_get (D := D) (ci := 12) (v := .int (σ0.1 200 4)) (C := RX12) (T := TX12) (N := 59) hx hb hts inU_X12 hown hK hP _ (mg_200 G Z Y σ0) rfl 4 (by decide) (hts _ wd_1252) (fun _ h9 => h9) rfl dX12_isDigit_35 ?_
          refine lv_aload_n hx hb dX12_isDigit_38 rfl (lv_at hl 0 rfl) ?_
          refine va_get (D := D) (ci := 12) (v := .int (σ0.1 200 6)) (C := RX12) (T := TX12) (N := 59) hx hb hts inU_X12 hown hK hP _ (mg_200 G Z Y σ0) rfl 6 (by decide) (hts _ wd_1254) (fun _ h9 => h9) rfl dX12_isDigit_39 ?_
          refine lv_iadd hx hb dX12_isDigit_42 ?_
          obtain ⟨c6, h⟩ := f_n h
          refine va_baldE (v := (σ0.1 r5 ((((σ0.1 200 4) + (σ0.1 200 6)) : Int32).toNatClampNeg))) hx hb hK hP _ 2 (mg_By G Z Y σ0 hr5) rfl c6 dX12_isDigit_43 rfl ?_
          refine lv_bipush (v := 57) hx hb dX12_isDigit_44 (by decide) ?_
          refine lv_icmp_gt (tgt := 53) hx hb dX12_isDigit_46 (by decide) (fun c7 => ?_) (fun c7 => ?_)
          · skip
            have h := f_t c7 h
            refine lv_iconst (v := 0) hx hb dX12_isDigit_53 (by decide) ?_
            obtain rfl := Option.some.inj h
            exact W.zret (v := (0 : Int32)) hx hb hr rfl (q_end hK hP hD hS) hS.2.2 dX12_isDigit_54
          · skip
            have h := f_f c7 h
            refine lv_iconst (v := 1) hx hb dX12_isDigit_49 (by decide) ?_
            refine lv_goto (tgt := 54) hx hb dX12_isDigit_50 (by decide) ?_
            obtain rfl := Option.some.inj h
            exact W.zret (v := (1 : Int32)) hx hb hr rfl (q_end hK hP hD hS) hS.2.2 dX12_isDigit_54
abbrev rm_X12_within : Room := { frames := 1, cells := 0, slots := 0, locals := 30 }
set_option maxRecDepth 100000 in
set_option maxHeartbeats 8000000 in
theorem c_X12_within (l : Launch) (D : va_G) (G : hG) (w : va_W) (x0 : Int64) (res : Int64) (h : f_X12_within x0 = some res) : CT l yX12_within cX12_within 2 (some .long) rm_X12_within D G 0 0 [.long x0] w w (some (.long res)) := by
  unfold f_X12_within at h
  refine CT.mk (cc := cX12_within) (maxL := 2) (ret := (some .long)) (own := RX12) (plainFor_of_name (by decide)) rfl (Nat.le_of_ble_eq_true rfl) ?_
  intro p e s m args below meth c A ls C0 hnm hA hP hD hl
  obtain ⟨hx, hb, hr, hml, hown, hts, hlocks, hK, hE⟩ := id C0
  have hS : va_S A s.heap s.heap [] := va_S.rf
  have hl : lv_has ls 2 [(0, .long x0)] := hl
  refine lv_ldc2 (v := (-2000000000)) hx hb hown (hts _ wd_1617) dX12_within_0 ?_
  refine lv_ldc2 (v := 2000000000) hx hb hown (hts _ wd_1618) dX12_within_3 ?_
  refine lv_lload_n hx hb dX12_within_6 rfl (lv_at hl 0 rfl) ?_
  refine va_mmin_long hx hb (hml.trans hl.1.symm) hown (hts _ wd_1619) (hts _ wd_848) (hts _ wd_12) (hts _ wd_849) (Nat.le_of_ble_eq_true rfl) (Nat.le_of_ble_eq_true rfl) (Nat.zero_le _) (Nat.zero_le _) dX12_within_7 ?_
  refine va_mmax_long hx hb (hml.trans hl.1.symm) hown (hts _ wd_1620) (hts _ wd_851) (hts _ wd_12) (hts _ wd_852) (Nat.le_of_ble_eq_true rfl) (Nat.le_of_ble_eq_true rfl) (Nat.zero_le _) (Nat.zero_le _) dX12_within_10 ?_
  obtain rfl := Option.some.inj h
  exact W.lret (v := (if (if x0 < (2000000000 : Int64) then x0 else (2000000000 : Int64)) < (-2000000000 : Int64) then (-2000000000 : Int64) else (if x0 < (2000000000 : Int64) then x0 else (2000000000 : Int64)))) hx hb hr (q_end hK hP hD hS) hS.2.2 dX12_within_13
