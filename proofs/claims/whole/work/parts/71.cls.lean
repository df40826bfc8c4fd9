abbrev rm_X6_isBook : Room := { frames := 0, cells := 0, slots := 0, locals := 0 }
set_option maxRecDepth 100000 in
set_option maxHeartbeats 8000000 in
theorem c_X6_isBook (l : Launch) (D : va_G) (G : hG) (w : va_W) (x0 : Int32) (x1 : Int32) (res : Int32) (h : f_X6_isBook x0 x1 = some res) : CT l yX6_isBook cX6_isBook 2 (some .boolean) rm_X6_isBook D G 0 0 [.int x0, .int x1] w w (some (.int res)) := by
  unfold f_X6_isBook at h
  refine CT.mk (cc := cX6_isBook) (maxL := 2) (ret := (some .boolean)) (own := RX6) (plainFor_of_name (by decide)) rfl (Nat.le_of_ble_eq_true rfl) ?_
  intro p e s m args below meth c A ls C0 hnm hA hP hD hl
  obtain ⟨hx, hb, hr, hml, hown, hts, hlocks, hK, hE⟩ := id C0
  have hS : va_S A s.heap s.heap [] := va_S.rf
  have hl : lv_has ls 2 [(0, .int x0), (1, .int x1)] := hl
  refine lv_iload_n hx hb dX6_isBook_0 rfl (lv_at hl 0 rfl) ?_
  refine lv_iconst (v := 1) hx hb dX6_isBook_1 (by decide) ?_
  refine lv_icmp_lt (tgt := 27) hx hb dX6_isBook_2 (by decide) (fun c1 => ?_) (fun c1 => ?_)
  · skip
    have h := f_t c1 h
    refine lv_iconst (v := 0) hx hb dX6_isBook_27 (by decide) ?_
    obtain rfl := Option.some.inj h
    exact W.zret (v := (0 : Int32)) hx hb hr rfl (q_end hK hP hD hS) hS.2.2 dX6_isBook_28
  · skip
    have h := f_f c1 h
    refine lv_iload_n hx hb dX6_isBook_5 rfl (lv_at hl 0 rfl) ?_
    refine lv_iconst (v := 4) hx hb dX6_isBook_6 (by decide) ?_
    refine lv_icmp_gt (tgt := 27) hx hb dX6_isBook_7 (by decide) (fun c2 => ?_) (fun c2 => ?_)
    · skip
      have h := f_t c2 h
      refine lv_iconst (v := 0) hx hb dX6_isBook_27 (by decide) ?_
      obtain rfl := Option.some.inj h
      exact W.zret (v := (0 : Int32)) hx hb hr rfl (q_end hK hP hD hS) hS.2.2 dX6_isBook_28
    · skip
      have h := f_f c2 h
      refine lv_iload_n hx hb dX6_isBook_10 rfl (lv_at hl 1 rfl) ?_
      refine lv_if_lt (tgt := 27) hx hb dX6_isBook_11 (by decide) (fun c3 => ?_) (fun c3 => ?_)
      · skip
        have h := f_t c3 h
        refine lv_iconst (v := 0) hx hb dX6_isBook_27 (by decide) ?_
        obtain rfl := Option.some.inj h
        exact W.zret (v := (0 : Int32)) hx hb hr rfl (q_end hK hP hD hS) hS.2.2 dX6_isBook_28
      · skip
        have h := f_f c3 h
        refine lv_iload_n hx hb dX6_isBook_14 rfl (lv_at hl 1 rfl) ?_
        refine lv_iconst (v := 1) hx hb dX6_isBook_15 (by decide) ?_
        refine lv_iconst (v := 1) hx hb dX6_isBook_16 (by decide) ?_
        refine lv_iload_n hx hb dX6_isBook_17 rfl (lv_at hl 0 rfl) ?_
        refine lv_ishl hx hb dX6_isBook_18 ?_
        refine lv_ishl hx hb dX6_isBook_19 ?_
        refine lv_icmp_ge (tgt := 27) hx hb dX6_isBook_20 (by decide) (fun c4 => ?_) (fun c4 => ?_)
        · skip
          have h := f_t c4 h
          refine lv_iconst (v := 0) hx hb dX6_isBook_27 (by decide) ?_
          obtain rfl := Option.some.inj h
          exact W.zret (v := (0 : Int32)) hx hb hr rfl (q_end hK hP hD hS) hS.2.2 dX6_isBook_28
        · skip
          have h := f_f c4 h
          refine lv_iconst (v := 1) hx hb dX6_isBook_23 (by decide) ?_
          refine lv_goto (tgt := 28) hx hb dX6_isBook_24 (by decide) ?_
          obtain rfl := Option.some.inj h
          exact W.zret (v := (1 : Int32)) hx hb hr rfl (q_end hK hP hD hS) hS.2.2 dX6_isBook_28
abbrev rm_X6_pairsCaught : Room := { frames := 0, cells := 0, slots := 0, locals := 0 }
set_option maxRecDepth 100000 in
set_option maxHeartbeats 8000000 in
theorem W_X6_pairsCaught_L14 {p : Program} {e : Env} {s : State} {m : MethodId} {args : Array Value} {below : List Frame} {meth : Method} {c : Code} {A : Nat → Prop} (l : Launch) (D : va_G) (G : hG) (w : va_W) (F : Nat) (x0 : Int32) (x1 : Int32) (y0 : Int32) (y1 : Int32) (y3 : Int32) (res : Int32) (C0 : Cx p s m args meth c cX6_pairsCaught (some .int) RX6 5 D G A) (hA : ∀ q : Nat, s.heap.size ≤ q → A q) (k48 : Int32 → Option Int32) (hk48 : ∀ (z2 : Int32), k48 z2 = some res → ∀ (H : Heap) (locs : List Loc) (ls : Array Slot), va_P D vwCl w H → va_D A w → va_S A s.heap H locs → lv_has ls 5 [(0, .int y0), (1, .int y1), (2, .int z2), (3, .int y3)] → W p l e rm_X6_pairsCaught s m args below meth c H locs 0 0 (MQ below (Qg (some (.int res)) D (tysG G) w A) args s 0 0 A) (F0 m 48 ls [])) : ∀ (n : Nat) (z2 : Int32) (z4 : Int32), f_X6_pairsCaught_L14 y0 y1 y3 k48 n z2 z4 = some res → ∀ (H : Heap) (locs : List Loc) (ls : Array Slot), va_P D vwCl w H → va_D A w → va_S A s.heap H locs → lv_has ls 5 [(0, .int y0), (1, .int y1), (2, .int z2), (3, .int y3), (4, .int z4)] → W p l e rm_X6_pairsCaught s m args below meth c H locs 0 0 (MQ below (Qg (some (.int res)) D (tysG G) w A) args s 0 0 A) (F0 m 14 ls []) := by
  obtain ⟨hx, hb, hr, hml, hown, hts, hlocks, hK, hE⟩ := id C0
  intro n
  induction n with
  | zero =>
    intro z2 z4 h
    cases h
  | succ n ih =>
    intro z2 z4 h H locs ls hP hD hS hl
    rw [f_X6_pairsCaught_L14] at h
    refine lv_iload hx hb dX6_pairsCaught_14 (lv_at hl 4 rfl) ?_
    refine lv_iconst (v := 1) hx hb dX6_pairsCaught_16 (by decide) ?_
    refine lv_iload_n hx hb dX6_pairsCaught_17 rfl (lv_at hl 0 rfl) ?_
    refine lv_ishl hx hb dX6_pairsCaught_18 ?_
    refine lv_icmp_ge (tgt := 48) hx hb dX6_pairsCaught_19 (by decide) (fun c2 => ?_) (fun c2 => ?_)
    · skip
      have h := f_t c2 h
      exact hk48 z2 h _ _ _ hP hD hS (lv_sub hl [0, 1, 2, 3] rfl)
    · skip
      have h := f_f c2 h
      refine lv_iload_n hx hb dX6_pairsCaught_22 rfl (lv_at hl 2 rfl) ?_
      refine lv_iload_n hx hb dX6_pairsCaught_23 rfl (lv_at hl 1 rfl) ?_
      refine lv_iload_n hx hb dX6_pairsCaught_24 rfl (lv_at hl 3 rfl) ?_
      refine lv_iload hx hb dX6_pairsCaught_25 (lv_at hl 4 rfl) ?_
      refine lv_ixor hx hb dX6_pairsCaught_27 ?_
      refine lv_ishr hx hb dX6_pairsCaught_28 ?_
      refine lv_iload_n hx hb dX6_pairsCaught_29 rfl (lv_at hl 1 rfl) ?_
      refine lv_iload_n hx hb dX6_pairsCaught_30 rfl (lv_at hl 3 rfl) ?_
      refine lv_ishr hx hb dX6_pairsCaught_31 ?_
      refine lv_ixor hx hb dX6_pairsCaught_32 ?_
      refine lv_iload_n hx hb dX6_pairsCaught_33 rfl (lv_at hl 1 rfl) ?_
      refine lv_iload hx hb dX6_pairsCaught_34 (lv_at hl 4 rfl) ?_
      refine lv_ishr hx hb dX6_pairsCaught_36 ?_
      refine lv_ixor hx hb dX6_pairsCaught_37 ?_
      refine lv_iconst (v := 1) hx hb dX6_pairsCaught_38 (by decide) ?_
      refine lv_iand hx hb dX6_pairsCaught_39 ?_
      refine lv_iadd hx hb dX6_pairsCaught_40 ?_
      refine lv_istore_n (lv' := [(2, .int (z2 + ((((y1 >>> ((y3 ^^^ z4) &&& 31)) ^^^ (y1 >>> (y3 &&& 31))) ^^^ (y1 >>> (z4 &&& 31))) &&& (1 : Int32)))), (0, .int y0), (1, .int y1), (3, .int y3), (4, .int z4)]) hx hb dX6_pairsCaught_41 rfl hl (by decide) rfl (fun ls hl => ?_)
      refine lv_iinc (v := (z4 + 1)) (lv' := [(4, .int (z4 + 1)), (2, .int (z2 + ((((y1 >>> ((y3 ^^^ z4) &&& 31)) ^^^ (y1 >>> (y3 &&& 31))) ^^^ (y1 >>> (z4 &&& 31))) &&& (1 : Int32)))), (0, .int y0), (1, .int y1), (3, .int y3)]) hx hb dX6_pairsCaught_42 hl (k := 4) rfl rfl (by decide) rfl (fun ls hl => ?_)
      refine lv_goto (tgt := 14) hx hb dX6_pairsCaught_45 (by decide) ?_
      exact ih (z2 + ((((y1 >>> ((y3 ^^^ z4) &&& 31)) ^^^ (y1 >>> (y3 &&& 31))) ^^^ (y1 >>> (z4 &&& 31))) &&& (1 : Int32))) (z4 + 1) h _ _ _ hP hD hS (lv_sub hl [2, 3, 1, 4, 0] rfl)
set_option maxRecDepth 100000 in
set_option maxHeartbeats 8000000 in
theorem W_X6_pairsCaught_L4 {p : Program} {e : Env} {s : State} {m : MethodId} {args : Array Value} {below : List Frame} {meth : Method} {c : Code} {A : Nat → Prop} (l : Launch) (D : va_G) (G : hG) (w : va_W) (F : Nat) (x0 : Int32) (x1 : Int32) (y0 : Int32) (y1 : Int32) (res : Int32) (C0 : Cx p s m args meth c cX6_pairsCaught (some .int) RX6 5 D G A) (hA : ∀ q : Nat, s.heap.size ≤ q → A q) : ∀ (n : Nat) (z2 : Int32) (z3 : Int32), f_X6_pairsCaught_L4 F y0 y1 n z2 z3 = some res → ∀ (H : Heap) (locs : List Loc) (ls : Array Slot), va_P D vwCl w H → va_D A w → va_S A s.heap H locs → lv_has ls 5 [(0, .int y0), (1, .int y1), (2, .int z2), (3, .int z3)] → W p l e rm_X6_pairsCaught s m args below meth c H locs 0 0 (MQ below (Qg (some (.int res)) D (tysG G) w A) args s 0 0 A) (F0 m 4 ls []) := by
  obtain ⟨hx, hb, hr, hml, hown, hts, hlocks, hK, hE⟩ := id C0
  intro n
  induction n with
  | zero =>
    intro z2 z3 h
    cases h
  | succ n ih =>
    intro z2 z3 h H locs ls hP hD hS hl
    rw [f_X6_pairsCaught_L4] at h
    refine lv_iload_n hx hb dX6_pairsCaught_4 rfl (lv_at hl 3 rfl) ?_
    refine lv_iconst (v := 1) hx hb dX6_pairsCaught_5 (by decide) ?_
    refine lv_iload_n hx hb dX6_pairsCaught_6 rfl (lv_at hl 0 rfl) ?_
    refine lv_ishl hx hb dX6_pairsCaught_7 ?_
    refine lv_icmp_ge (tgt := 54) hx hb dX6_pairsCaught_8 (by decide) (fun c1 => ?_) (fun c1 => ?_)
    · skip
      have h := f_t c1 h
      refine lv_iload_n hx hb dX6_pairsCaught_54 rfl (lv_at hl 2 rfl) ?_
      obtain rfl := Option.some.inj h
      exact W.iret (v := z2) hx hb hr (q_end hK hP hD hS) hS.2.2 dX6_pairsCaught_55
    · skip
      have h := f_f c1 h
      refine lv_iconst (v := 0) hx hb dX6_pairsCaught_11 (by decide) ?_
      refine lv_istore (lv' := [(4, .int (0 : Int32)), (0, .int y0), (1, .int y1), (2, .int z2), (3, .int z3)]) hx hb dX6_pairsCaught_12 hl (by decide) rfl (fun ls hl => ?_)
      refine W_X6_pairsCaught_L14 l D G w F x0 x1 y0 y1 z3 res C0 hA _ ?_ F z2 (0 : Int32) h _ _ _ hP hD hS (lv_sub hl [1, 2, 3, 4, 0] rfl)
      · intro z2 h H locs ls hP hD hS hl
        refine lv_iinc (v := (z3 + 1)) (lv' := [(3, .int (z3 + 1)), (0, .int y0), (1, .int y1), (2, .int z2)]) hx hb dX6_pairsCaught_48 hl (k := 3) rfl rfl (by decide) rfl (fun ls hl => ?_)
        refine lv_goto (tgt := 4) hx hb dX6_pairsCaught_51 (by decide) ?_
        exact ih z2 (z3 + 1) h _ _ _ hP hD hS (lv_sub hl [1, 2, 3, 0] rfl)
set_option maxRecDepth 100000 in
set_option maxHeartbeats 8000000 in
theorem c_X6_pairsCaught (l : Launch) (D : va_G) (G : hG) (w : va_W) (F : Nat) (x0 : Int32) (x1 : Int32) (res : Int32) (h : f_X6_pairsCaught F x0 x1 = some res) : CT l yX6_pairsCaught cX6_pairsCaught 5 (some .int) rm_X6_pairsCaught D G 0 0 [.int x0, .int x1] w w (some (.int res)) := by
  unfold f_X6_pairsCaught at h
  refine CT.mk (cc := cX6_pairsCaught) (maxL := 5) (ret := (some .int)) (own := RX6) (plainFor_of_name (by decide)) rfl (Nat.le_of_ble_eq_true rfl) ?_
  intro p e s m args below meth c A ls C0 hnm hA hP hD hl
  obtain ⟨hx, hb, hr, hml, hown, hts, hlocks, hK, hE⟩ := id C0
  have hS : va_S A s.heap s.heap [] := va_S.rf
  have hl : lv_has ls 5 [(0, .int x0), (1, .int x1)] := hl
  refine lv_iconst (v := 0) hx hb dX6_pairsCaught_0 (by decide) ?_
  refine lv_istore_n (lv' := [(2, .int (0 : Int32)), (0, .int x0), (1, .int x1)]) hx hb dX6_pairsCaught_1 rfl hl (by decide) rfl (fun ls hl => ?_)
  refine lv_iconst (v := 0) hx hb dX6_pairsCaught_2 (by decide) ?_
  refine lv_istore_n (lv' := [(3, .int (0 : Int32)), (2, .int (0 : Int32)), (0, .int x0), (1, .int x1)]) hx hb dX6_pairsCaught_3 rfl hl (by decide) rfl (fun ls hl => ?_)
  refine W_X6_pairsCaught_L4 l D G w F x0 x1 x0 x1 res C0 hA F (0 : Int32) (0 : Int32) h _ _ _ hP hD hS (lv_sub hl [2, 3, 1, 0] rfl)
abbrev rm_X6_agreeing : Room := { frames := 0, cells := 0, slots := 0, locals := 0 }
set_option maxRecDepth 100000 in
set_option maxHeartbeats 8000000 in
theorem W_X6_agreeing_L6 {p : Program} {e : Env} {s : State} {m : MethodId} {args : Array Value} {below : List Frame} {meth : Method} {c : Code} {A : Nat → Prop} (l : Launch) (D : va_G) (G : hG) (w : va_W) (F : Nat) (x0 : Int64) (x2 : Int32) (x3 : Int32) (x4 : Int32) (x5 : Int32) (y0 : Int64) (y2 : Int32) (y3 : Int32) (y4 : Int32) (y5 : Int32) (res : Int32) (C0 : Cx p s m args meth c cX6_agreeing (some .int) RX6 10 D G A) (hA : ∀ q : Nat, s.heap.size ≤ q → A q) : ∀ (n : Nat) (z6 : Int32) (z7 : Int32), f_X6_agreeing_L6 y0 y2 y3 y4 y5 n z6 z7 = some res → ∀ (H : Heap) (locs : List Loc) (ls : Array Slot), va_P D vwCl w H → va_D A w → va_S A s.heap H locs → lv_has ls 10 [(0, .long y0), (2, .int y2), (3, .int y3), (4, .int y4), (5, .int y5), (6, .int z6), (7, .int z7)] → W p l e rm_X6_agreeing s m args below meth c H locs 0 0 (MQ below (Qg (some (.int res)) D (tysG G) w A) args s 0 0 A) (F0 m 6 ls []) := by
  obtain ⟨hx, hb, hr, hml, hown, hts, hlocks, hK, hE⟩ := id C0
  intro n
  induction n with
  | zero =>
    intro z6 z7 h
    cases h
  | succ n ih =>
    intro z6 z7 h H locs ls hP hD hS hl
    rw [f_X6_agreeing_L6] at h
    refine lv_iload hx hb dX6_agreeing_6 (lv_at hl 6 rfl) ?_
    refine lv_iconst (v := 3) hx hb dX6_agreeing_8 (by decide) ?_
    refine lv_icmp_ge (tgt := 69) hx hb dX6_agreeing_9 (by decide) (fun c1 => ?_) (fun c1 => ?_)
    · skip
      have h := f_t c1 h
      refine lv_iload hx hb dX6_agreeing_69 (lv_at hl 5 rfl) ?_
      obtain rfl := Option.some.inj h
      exact W.iret (v := z6) hx hb hr (q_end hK hP hD hS) hS.2.2 dX6_agreeing_71
    · skip
      have h := f_f c1 h
      refine lv_iload_n hx hb dX6_agreeing_12 rfl (lv_at hl 1 rfl) ?_
      refine lv_iload hx hb dX6_agreeing_13 (lv_at hl 6 rfl) ?_
      refine lv_ishr hx hb dX6_agreeing_15 ?_
      refine lv_iconst (v := 1) hx hb dX6_agreeing_16 (by decide) ?_
      refine lv_iand hx hb dX6_agreeing_17 ?_
      refine lv_istore (lv' := [(8, .int ((y2 >>> (z7 &&& 31)) &&& (1 : Int32))), (0, .long y0), (2, .int y2), (3, .int y3), (4, .int y4), (5, .int y5), (6, .int z6), (7, .int z7)]) hx hb dX6_agreeing_18 hl (by decide) rfl (fun ls hl => ?_)
      refine lv_iload hx hb dX6_agreeing_20 (lv_at hl 7 rfl) ?_
      refine lv_iconst (v := 3) hx hb dX6_agreeing_22 (by decide) ?_
      refine lv_imul hx hb dX6_agreeing_23 ?_
      refine lv_iload hx hb dX6_agreeing_24 (lv_at hl 4 rfl) ?_
      refine lv_iadd hx hb dX6_agreeing_26 ?_
      refine lv_iconst (v := 2) hx hb dX6_agreeing_27 (by decide) ?_
      refine lv_imul hx hb dX6_agreeing_28 ?_
      refine lv_iload hx hb dX6_agreeing_29 (lv_at hl 0 rfl) ?_
      refine lv_iadd hx hb dX6_agreeing_31 ?_
      refine lv_iconst (v := 2) hx hb dX6_agreeing_32 (by decide) ?_
      refine lv_imul hx hb dX6_agreeing_33 ?_
      refine lv_iload hx hb dX6_agreeing_34 (lv_at hl 5 rfl) ?_
      refine lv_iadd hx hb dX6_agreeing_36 ?_
      refine lv_istore (lv' := [(9, .int ((((((z7 * (3 : Int32)) + y4) * (2 : Int32)) + ((y2 >>> (z7 &&& 31)) &&& (1 : Int32))) * (2 : Int32)) + y5)), (8, .int ((y2 >>> (z7 &&& 31)) &&& (1 : Int32))), (0, .long y0), (2, .int y2), (3, .int y3), (4, .int y4), (5, .int y5), (6, .int z6), (7, .int z7)]) hx hb dX6_agreeing_37 hl (by decide) rfl (fun ls hl => ?_)
      refine lv_iload_n hx hb dX6_agreeing_39 rfl (lv_at hl 4 rfl) ?_
      refine lv_iload hx hb dX6_agreeing_40 (lv_at hl 8 rfl) ?_
      refine lv_ishr hx hb dX6_agreeing_42 ?_
      refine lv_iconst (v := 1) hx hb dX6_agreeing_43 (by decide) ?_
      refine lv_iand hx hb dX6_agreeing_44 ?_
      refine lv_iconst (v := 1) hx hb dX6_agreeing_45 (by decide) ?_
      refine lv_icmp_ne (tgt := 63) hx hb dX6_agreeing_46 (by decide) (fun c2 => ?_) (fun c2 => ?_)
      · skip
        have h := f_f c2 h
        refine lv_iinc (v := (z7 + 1)) (lv' := [(7, .int (z7 + 1)), (9, .int ((((((z7 * (3 : Int32)) + y4) * (2 : Int32)) + ((y2 >>> (z7 &&& 31)) &&& (1 : Int32))) * (2 : Int32)) + y5)), (8, .int ((y2 >>> (z7 &&& 31)) &&& (1 : Int32))), (0, .long y0), (2, .int y2), (3, .int y3), (4, .int y4), (5, .int y5), (6, .int z6)]) hx hb dX6_agreeing_63 hl (k := 8) rfl rfl (by decide) rfl (fun ls hl => ?_)
        refine lv_goto (tgt := 6) hx hb dX6_agreeing_66 (by decide) ?_
        exact ih z6 (z7 + 1) h _ _ _ hP hD hS (lv_sub hl [3, 4, 5, 6, 7, 8, 0] rfl)
      · skip
        have h := f_t c2 h
        refine lv_lload_n hx hb dX6_agreeing_49 rfl (lv_at hl 2 rfl) ?_
        refine lv_iload hx hb dX6_agreeing_50 (lv_at hl 0 rfl) ?_
        refine lv_lshr (v := (y0 >>> ((((((((z7 * (3 : Int32)) + y4) * (2 : Int32)) + ((y2 >>> (z7 &&& 31)) &&& (1 : Int32))) * (2 : Int32)) + y5) : Int32).toInt64 &&& 63))) hx hb dX6_agreeing_52 rfl ?_
        refine lv_lconst (v := 1) hx hb dX6_agreeing_53 (by decide) ?_
        refine lv_land hx hb dX6_agreeing_54 ?_
        refine lv_lconst (v := 1) hx hb dX6_agreeing_55 (by decide) ?_
        refine W.lcmp hx hb dX6_agreeing_56 ?_
        refine lv_if_ne (tgt := 63) hx hb dX6_agreeing_57 (by decide) (fun c3 => ?_) (fun c3 => ?_)
        · skip
          have c3 := mt (lg_cmp_eq _ _).mpr c3
          have h := f_f c3 h
          refine lv_iinc (v := (z7 + 1)) (lv' := [(7, .int (z7 + 1)), (9, .int ((((((z7 * (3 : Int32)) + y4) * (2 : Int32)) + ((y2 >>> (z7 &&& 31)) &&& (1 : Int32))) * (2 : Int32)) + y5)), (8, .int ((y2 >>> (z7 &&& 31)) &&& (1 : Int32))), (0, .long y0), (2, .int y2), (3, .int y3), (4, .int y4), (5, .int y5), (6, .int z6)]) hx hb dX6_agreeing_63 hl (k := 8) rfl rfl (by decide) rfl (fun ls hl => ?_)
          refine lv_goto (tgt := 6) hx hb dX6_agreeing_66 (by decide) ?_
          exact ih z6 (z7 + 1) h _ _ _ hP hD hS (lv_sub hl [3, 4, 5, 6, 7, 8, 0] rfl)
        · skip
          have c3 := (lg_cmp_eq _ _).mp c3
          have h := f_t c3 h
          refine lv_iinc (v := (z6 + 1)) (lv' := [(6, .int (z6 + 1)), (9, .int ((((((z7 * (3 : Int32)) + y4) * (2 : Int32)) + ((y2 >>> (z7 &&& 31)) &&& (1 : Int32))) * (2 : Int32)) + y5)), (8, .int ((y2 >>> (z7 &&& 31)) &&& (1 : Int32))), (0, .long y0), (2, .int y2), (3, .int y3), (4, .int y4), (5, .int y5), (7, .int z7)]) hx hb dX6_agreeing_60 hl (k := 7) rfl rfl (by decide) rfl (fun ls hl => ?_)
          refine lv_iinc (v := (z7 + 1)) (lv' := [(7, .int (z7 + 1)), (6, .int (z6 + 1)), (9, .int ((((((z7 * (3 : Int32)) + y4) * (2 : Int32)) + ((y2 >>> (z7 &&& 31)) &&& (1 : Int32))) * (2 : Int32)) + y5)), (8, .int ((y2 >>> (z7 &&& 31)) &&& (1 : Int32))), (0, .long y0), (2, .int y2), (3, .int y3), (4, .int y4), (5, .int y5)]) hx hb dX6_agreeing_63 hl (k := 8) rfl rfl (by decide) rfl (fun ls hl => ?_)
          refine lv_goto (tgt := 6) hx hb dX6_agreeing_66 (by decide) ?_
          exact ih (z6 + 1) (z7 + 1) h _ _ _ hP hD hS (lv_sub hl [4, 5, 6, 7, 8, 1, 0] rfl)
set_option maxRecDepth 100000 in
set_option maxHeartbeats 8000000 in
theorem c_X6_agreeing (l : Launch) (D : va_G) (G : hG) (w : va_W) (F : Nat) (x0 : Int64) (x2 : Int32) (x3 : Int32) (x4 : Int32) (x5 : Int32) (res : Int32) (h : f_X6_agreeing F x0 x2 x3 x4 x5 = some res) : CT l yX6_agreeing cX6_agreeing 10 (some .int) rm_X6_agreeing D G 0 0 [.long x0, .int x2, .int x3, .int x4, .int x5] w w (some (.int res)) := by
  unfold f_X6_agreeing at h
  refine CT.mk (cc := cX6_agreeing) (maxL := 10) (ret := (some .int)) (own := RX6) (plainFor_of_name (by decide)) rfl (Nat.le_of_ble_eq_true rfl) ?_
  intro p e s m args below meth c A ls C0 hnm hA hP hD hl
  obtain ⟨hx, hb, hr, hml, hown, hts, hlocks, hK, hE⟩ := id C0
  have hS : va_S A s.heap s.heap [] := va_S.rf
  have hl : lv_has ls 10 [(0, .long x0), (2, .int x2), (3, .int x3), (4, .int x4), (5, .int x5)] := hl
  refine lv_iconst (v := 0) hx hb dX6_agreeing_0 (by decide) ?_
  refine lv_istore (lv' := [(6, .int (0 : Int32)), (0, .long x0), (2, .int x2), (3, .int x3), (4, .int x4), (5, .int x5)]) hx hb dX6_agreeing_1 hl (by decide) rfl (fun ls hl => ?_)
  refine lv_iconst (v := 0) hx hb dX6_agreeing_3 (by decide) ?_
  refine lv_istore (lv' := [(7, .int (0 : Int32)), (6, .int (0 : Int32)), (0, .long x0), (2, .int x2), (3, .int x3), (4, .int x4), (5, .int x5)]) hx hb dX6_agreeing_4 hl (by decide) rfl (fun ls hl => ?_)
  refine W_X6_agreeing_L6 l D G w F x0 x2 x3 x4 x5 x0 x2 x3 x4 x5 res C0 hA F (0 : Int32) (0 : Int32) h _ _ _ hP hD hS (lv_sub hl [2, 3, 4, 5, 6, 1, 0] rfl)
abbrev rm_X6_mostAgreeing : Room := { frames := 1, cells := 0, slots := 0, locals := 30 }
set_option maxRecDepth 100000 in
set_option maxHeartbeats 8000000 in
theorem W_X6_mostAgreeing_L6 {p : Program} {e : Env} {s : State} {m : MethodId} {args : Array Value} {below : List Frame} {meth : Method} {c : Code} {A : Nat → Prop} (l : Launch) (D : va_G) (G : hG) (w : va_W) (F : Nat) (x0 : Int64) (x2 : Int32) (x3 : Int32) (y0 : Int64) (y2 : Int32) (y3 : Int32) (res : Int32) (C0 : Cx p s m args meth c cX6_mostAgreeing (some .int) RX6 6 D G A) (hA : ∀ q : Nat, s.heap.size ≤ q → A q) : ∀ (n : Nat) (z4 : Int32) (z5 : Int32), f_X6_mostAgreeing_L6 F y0 y2 y3 n z4 z5 = some res → ∀ (H : Heap) (locs : List Loc) (ls : Array Slot), va_P D vwCl w H → va_D A w → va_S A s.heap H locs → lv_has ls 6 [(0, .long y0), (2, .int y2), (3, .int y3), (4, .int z4), (5, .int z5)] → W p l e rm_X6_mostAgreeing s m args below meth c H locs 0 0 (MQ below (Qg (some (.int res)) D (tysG G) w A) args s 0 0 A) (F0 m 6 ls []) := by
  obtain ⟨hx, hb, hr, hml, hown, hts, hlocks, hK, hE⟩ := id C0
  intro n
  induction n with
  | zero =>
    intro z4 z5 h
    cases h
  | succ n ih =>
    intro z4 z5 h H locs ls hP hD hS hl
    rw [f_X6_mostAgreeing_L6] at h
    refine lv_iload hx hb dX6_mostAgreeing_6 (lv_at hl 4 rfl) ?_
    refine lv_iconst (v := 3) hx hb dX6_mostAgreeing_8 (by decide) ?_
    refine lv_icmp_ge (tgt := 44) hx hb dX6_mostAgreeing_9 (by decide) (fun c1 => ?_) (fun c1 => ?_)
    · skip
      have h := f_t c1 h
      refine lv_iload hx hb dX6_mostAgreeing_44 (lv_at hl 3 rfl) ?_
      obtain rfl := Option.some.inj h
      exact W.iret (v := z4) hx hb hr (q_end hK hP hD hS) hS.2.2 dX6_mostAgreeing_46
    · skip
      have h := f_f c1 h
      refine lv_iload hx hb dX6_mostAgreeing_12 (lv_at hl 3 rfl) ?_
      refine lv_lload_n hx hb dX6_mostAgreeing_14 rfl (lv_at hl 0 rfl) ?_
      refine lv_iload_n hx hb dX6_mostAgreeing_15 rfl (lv_at hl 1 rfl) ?_
      refine lv_iload_n hx hb dX6_mostAgreeing_16 rfl (lv_at hl 2 rfl) ?_
      refine lv_iload hx hb dX6_mostAgreeing_17 (lv_at hl 4 rfl) ?_
      refine lv_iconst (v := 0) hx hb dX6_mostAgreeing_19 (by decide) ?_
      obtain ⟨q2, hq2, h⟩ := f_b h
      refine cl_S (w := w) (w' := w) (rv := some (.int q2)) (bytes := cX6_agreeing) (maxL := 10) (ret := (some .int)) (As := [.long y0, .int y2, .int y3, .int z5, .int (0 : Int32)]) (rest := [.int z4]) (stk := [.int q2, .int z4]) ⟨hx, hb, hml, hown, hts⟩ hK hE hA hP hD hS (c_X6_agreeing l D G w F y0 y2 y3 z5 (0 : Int32) q2 hq2) (mkS hts wd_1113 wd_1114 wd_30 wd_1115 rfl rfl hd_X6_agreeing ⟨Nat.le_of_ble_eq_true rfl, Nat.le_of_ble_eq_true rfl⟩) rfl hl.1 rfl (Nat.le_of_ble_eq_true rfl) dX6_mostAgreeing_20 ⟨Nat.zero_le _, Nat.zero_le _⟩ rfl (fun H locs hP hD hS => ?_)
      refine lv_lload_n hx hb dX6_mostAgreeing_23 rfl (lv_at hl 0 rfl) ?_
      refine lv_iload_n hx hb dX6_mostAgreeing_24 rfl (lv_at hl 1 rfl) ?_
      refine lv_iload_n hx hb dX6_mostAgreeing_25 rfl (lv_at hl 2 rfl) ?_
      refine lv_iload hx hb dX6_mostAgreeing_26 (lv_at hl 4 rfl) ?_
      refine lv_iconst (v := 1) hx hb dX6_mostAgreeing_28 (by decide) ?_
      obtain ⟨q3, hq3, h⟩ := f_b h
      refine cl_S (w := w) (w' := w) (rv := some (.int q3)) (bytes := cX6_agreeing) (maxL := 10) (ret := (some .int)) (As := [.long y0, .int y2, .int y3, .int z5, .int (1 : Int32)]) (rest := [.int q2, .int z4]) (stk := [.int q3, .int q2, .int z4]) ⟨hx, hb, hml, hown, hts⟩ hK hE hA hP hD hS (c_X6_agreeing l D G w F y0 y2 y3 z5 (1 : Int32) q3 hq3) (mkS hts wd_1113 wd_1114 wd_30 wd_1115 rfl rfl hd_X6_agreeing ⟨Nat.le_of_ble_eq_true rfl, Nat.le_of_ble_eq_true rfl⟩) rfl hl.1 rfl (Nat.le_of_ble_eq_true rfl) dX6_mostAgreeing_29 ⟨Nat.zero_le _, Nat.zero_le _⟩ rfl (fun H locs hP hD hS => ?_)
      refine va_mmax hx hb (hml.trans hl.1.symm) hown (hts _ wd_1116) (hts _ wd_328) (hts _ wd_12) (hts _ wd_329) (Nat.le_of_ble_eq_true rfl) (Nat.le_of_ble_eq_true rfl) (Nat.zero_le _) (Nat.zero_le _) dX6_mostAgreeing_32 ?_
      refine lv_iadd hx hb dX6_mostAgreeing_35 ?_
      refine lv_istore (lv' := [(4, .int (z4 + (if q2 < q3 then q3 else q2))), (0, .long y0), (2, .int y2), (3, .int y3), (5, .int z5)]) hx hb dX6_mostAgreeing_36 hl (by decide) rfl (fun ls hl => ?_)
      refine lv_iinc (v := (z5 + 1)) (lv' := [(5, .int (z5 + 1)), (4, .int (z4 + (if q2 < q3 then q3 else q2))), (0, .long y0), (2, .int y2), (3, .int y3)]) hx hb dX6_mostAgreeing_38 hl (k := 4) rfl rfl (by decide) rfl (fun ls hl => ?_)
      refine lv_goto (tgt := 6) hx hb dX6_mostAgreeing_41 (by decide) ?_
      exact ih (z4 + (if q2 < q3 then q3 else q2)) (z5 + 1) h _ _ _ hP hD hS (lv_sub hl [2, 3, 4, 1, 0] rfl)
set_option maxRecDepth 100000 in
set_option maxHeartbeats 8000000 in
theorem c_X6_mostAgreeing (l : Launch) (D : va_G) (G : hG) (w : va_W) (F : Nat) (x0 : Int64) (x2 : Int32) (x3 : Int32) (res : Int32) (h : f_X6_mostAgreeing F x0 x2 x3 = some res) : CT l yX6_mostAgreeing cX6_mostAgreeing 6 (some .int) rm_X6_mostAgreeing D G 0 0 [.long x0, .int x2, .int x3] w w (some (.int res)) := by
  unfold f_X6_mostAgreeing at h
  refine CT.mk (cc := cX6_mostAgreeing) (maxL := 6) (ret := (some .int)) (own := RX6) (plainFor_of_name (by decide)) rfl (Nat.le_of_ble_eq_true rfl) ?_
  intro p e s m args below meth c A ls C0 hnm hA hP hD hl
  obtain ⟨hx, hb, hr, hml, hown, hts, hlocks, hK, hE⟩ := id C0
  have hS : va_S A s.heap s.heap [] := va_S.rf
  have hl : lv_has ls 6 [(0, .long x0), (2, .int x2), (3, .int x3)] := hl
  refine lv_iconst (v := 0) hx hb dX6_mostAgreeing_0 (by decide) ?_
  refine lv_istore (lv' := [(4, .int (0 : Int32)), (0, .long x0), (2, .int x2), (3, .int x3)]) hx hb dX6_mostAgreeing_1 hl (by decide) rfl (fun ls hl => ?_)
  refine lv_iconst (v := 0) hx hb dX6_mostAgreeing_3 (by decide) ?_
  refine lv_istore (lv' := [(5, .int (0 : Int32)), (4, .int (0 : Int32)), (0, .long x0), (2, .int x2), (3, .int x3)]) hx hb dX6_mostAgreeing_4 hl (by decide) rfl (fun ls hl => ?_)
  refine W_X6_mostAgreeing_L6 l D G w F x0 x2 x3 x0 x2 x3 res C0 hA F (0 : Int32) (0 : Int32) h _ _ _ hP hD hS (lv_sub hl [2, 3, 4, 1, 0] rfl)
abbrev rm_X6_mostTales : Room := { frames := 2, cells := 0, slots := 0, locals := 55 }
set_option maxRecDepth 100000 in
set_option maxHeartbeats 8000000 in
theorem W_X6_mostTales_L4 {p : Program} {e : Env} {s : State} {m : MethodId} {args : Array Value} {below : List Frame} {meth : Method} {c : Code} {A : Nat → Prop} (l : Launch) (D : va_G) (G : hG) (w : va_W) (F : Nat) (x0 : Int64) (y0 : Int64) (res : Int32) (C0 : Cx p s m args meth c cX6_mostTales (some .int) RX6 4 D G A) (hA : ∀ q : Nat, s.heap.size ≤ q → A q) : ∀ (n : Nat) (z2 : Int32) (z3 : Int32), f_X6_mostTales_L4 F y0 n z2 z3 = some res → ∀ (H : Heap) (locs : List Loc) (ls : Array Slot), va_P D vwCl w H → va_D A w → va_S A s.heap H locs → lv_has ls 4 [(0, .long y0), (2, .int z2), (3, .int z3)] → W p l e rm_X6_mostTales s m args below meth c H locs 0 0 (MQ below (Qg (some (.int res)) D (tysG G) w A) args s 0 0 A) (F0 m 4 ls []) := by
  obtain ⟨hx, hb, hr, hml, hown, hts, hlocks, hK, hE⟩ := id C0
  intro n
  induction n with
  | zero =>
    intro z2 z3 h
    cases h
  | succ n ih =>
    intro z2 z3 h H locs ls hP hD hS hl
    rw [f_X6_mostTales_L4] at h
    refine lv_iload_n hx hb dX6_mostTales_4 rfl (lv_at hl 2 rfl) ?_
    refine lv_bipush (v := 7) hx hb dX6_mostTales_5 (by decide) ?_
    refine lv_icmp_gt (tgt := 28) hx hb dX6_mostTales_7 (by decide) (fun c1 => ?_) (fun c1 => ?_)
    · skip
      have h := f_t c1 h
      refine lv_iload_n hx hb dX6_mostTales_28 rfl (lv_at hl 1 rfl) ?_
      obtain rfl := Option.some.inj h
      exact W.iret (v := z2) hx hb hr (q_end hK hP hD hS) hS.2.2 dX6_mostTales_29
    · skip
      have h := f_f c1 h
      refine lv_iload_n hx hb dX6_mostTales_10 rfl (lv_at hl 1 rfl) ?_
      refine lv_lload_n hx hb dX6_mostTales_11 rfl (lv_at hl 0 rfl) ?_
      refine lv_iload_n hx hb dX6_mostTales_12 rfl (lv_at hl 2 rfl) ?_
      refine lv_bipush (v := 7) hx hb dX6_mostTales_13 (by decide) ?_
      obtain ⟨q2, hq2, h⟩ := f_b h
      refine cl_S (w := w) (w' := w) (rv := some (.int q2)) (bytes := cX6_mostAgreeing) (maxL := 6) (ret := (some .int)) (As := [.long y0, .int z3, .int (7 : Int32)]) (rest := [.int z2]) (stk := [.int q2, .int z2]) ⟨hx, hb, hml, hown, hts⟩ hK hE hA hP hD hS (c_X6_mostAgreeing l D G w F y0 z3 (7 : Int32) q2 hq2) (mkS hts wd_1110 wd_1111 wd_30 wd_1112 rfl rfl hd_X6_mostAgreeing ⟨Nat.le_of_ble_eq_true rfl, Nat.le_of_ble_eq_true rfl⟩) rfl hl.1 rfl (Nat.le_of_ble_eq_true rfl) dX6_mostTales_15 ⟨Nat.zero_le _, Nat.zero_le _⟩ rfl (fun H locs hP hD hS => ?_)
      refine va_mmax hx hb (hml.trans hl.1.symm) hown (hts _ wd_1116) (hts _ wd_328) (hts _ wd_12) (hts _ wd_329) (Nat.le_of_ble_eq_true rfl) (Nat.le_of_ble_eq_true rfl) (Nat.zero_le _) (Nat.zero_le _) dX6_mostTales_18 ?_
      refine lv_istore_n (lv' := [(2, .int (if z2 < q2 then q2 else z2)), (0, .long y0), (3, .int z3)]) hx hb dX6_mostTales_21 rfl hl (by decide) rfl (fun ls hl => ?_)
      refine lv_iinc (v := (z3 + 1)) (lv' := [(3, .int (z3 + 1)), (2, .int (if z2 < q2 then q2 else z2)), (0, .long y0)]) hx hb dX6_mostTales_22 hl (k := 2) rfl rfl (by decide) rfl (fun ls hl => ?_)
      refine lv_goto (tgt := 4) hx hb dX6_mostTales_25 (by decide) ?_
      exact ih (if z2 < q2 then q2 else z2) (z3 + 1) h _ _ _ hP hD hS (lv_sub hl [2, 1, 0] rfl)
set_option maxRecDepth 100000 in
set_option maxHeartbeats 8000000 in
theorem c_X6_mostTales (l : Launch) (D : va_G) (G : hG) (w : va_W) (F : Nat) (x0 : Int64) (res : Int32) (h : f_X6_mostTales F x0 = some res) : CT l yX6_mostTales cX6_mostTales 4 (some .int) rm_X6_mostTales D G 0 0 [.long x0] w w (some (.int res)) := by
  unfold f_X6_mostTales at h
  refine CT.mk (cc := cX6_mostTales) (maxL := 4) (ret := (some .int)) (own := RX6) (plainFor_of_name (by decide)) rfl (Nat.le_of_ble_eq_true rfl) ?_
  intro p e s m args below meth c A ls C0 hnm hA hP hD hl
  obtain ⟨hx, hb, hr, hml, hown, hts, hlocks, hK, hE⟩ := id C0
  have hS : va_S A s.heap s.heap [] := va_S.rf
  have hl : lv_has ls 4 [(0, .long x0)] := hl
  refine lv_iconst (v := 0) hx hb dX6_mostTales_0 (by decide) ?_
  refine lv_istore_n (lv' := [(2, .int (0 : Int32)), (0, .long x0)]) hx hb dX6_mostTales_1 rfl hl (by decide) rfl (fun ls hl => ?_)
  refine lv_iconst (v := 0) hx hb dX6_mostTales_2 (by decide) ?_
  refine lv_istore_n (lv' := [(3, .int (0 : Int32)), (2, .int (0 : Int32)), (0, .long x0)]) hx hb dX6_mostTales_3 rfl hl (by decide) rfl (fun ls hl => ?_)
  refine W_X6_mostTales_L4 l D G w F x0 x0 res C0 hA F (0 : Int32) (0 : Int32) h _ _ _ hP hD hS (lv_sub hl [2, 1, 0] rfl)
abbrev rm_X6_mostByWord : Room := { frames := 2, cells := 0, slots := 0, locals := 55 }
set_option maxRecDepth 100000 in
set_option maxHeartbeats 8000000 in
theorem W_X6_mostByWord_L13 {p : Program} {e : Env} {s : State} {m : MethodId} {args : Array Value} {below : List Frame} {meth : Method} {c : Code} {A : Nat → Prop} (l : Launch) (D : va_G) (G : hG) (w : va_W) (F : Nat) (x0 : Int64) (y0 : Int64) (y3 : Int32) (res : Int32) (C0 : Cx p s m args meth c cX6_mostByWord (some .int) RX6 6 D G A) (hA : ∀ q : Nat, s.heap.size ≤ q → A q) (k53 : Int32 → Option Int32) (hk53 : ∀ (z2 : Int32), k53 z2 = some res → ∀ (H : Heap) (locs : List Loc) (ls : Array Slot), va_P D vwCl w H → va_D A w → va_S A s.heap H locs → lv_has ls 6 [(0, .long y0), (2, .int z2), (3, .int y3)] → W p l e rm_X6_mostByWord s m args below meth c H locs 0 0 (MQ below (Qg (some (.int res)) D (tysG G) w A) args s 0 0 A) (F0 m 53 ls [])) : ∀ (n : Nat) (z2 : Int32) (z4 : Int32), f_X6_mostByWord_L13 F y0 y3 k53 n z2 z4 = some res → ∀ (H : Heap) (locs : List Loc) (ls : Array Slot), va_P D vwCl w H → va_D A w → va_S A s.heap H locs → lv_has ls 6 [(0, .long y0), (2, .int z2), (3, .int y3), (4, .int z4)] → W p l e rm_X6_mostByWord s m args below meth c H locs 0 0 (MQ below (Qg (some (.int res)) D (tysG G) w A) args s 0 0 A) (F0 m 13 ls []) := by
  obtain ⟨hx, hb, hr, hml, hown, hts, hlocks, hK, hE⟩ := id C0
  intro n
  induction n with
  | zero =>
    intro z2 z4 h
    cases h
  | succ n ih =>
    intro z2 z4 h H locs ls hP hD hS hl
    rw [f_X6_mostByWord_L13] at h
    refine lv_iload hx hb dX6_mostByWord_13 (lv_at hl 3 rfl) ?_
    refine lv_bipush (v := 7) hx hb dX6_mostByWord_15 (by decide) ?_
    refine lv_icmp_gt (tgt := 53) hx hb dX6_mostByWord_17 (by decide) (fun c2 => ?_) (fun c2 => ?_)
    · skip
      have h := f_t c2 h
      exact hk53 z2 h _ _ _ hP hD hS (lv_sub hl [0, 1, 2] rfl)
    · skip
      have h := f_f c2 h
      refine lv_lload_n hx hb dX6_mostByWord_20 rfl (lv_at hl 0 rfl) ?_
      refine lv_iload_n hx hb dX6_mostByWord_21 rfl (lv_at hl 2 rfl) ?_
      refine lv_iload hx hb dX6_mostByWord_22 (lv_at hl 3 rfl) ?_
      obtain ⟨q3, hq3, h⟩ := f_b h
      refine cl_S (w := w) (w' := w) (rv := some (.int q3)) (bytes := cX6_mostAgreeing) (maxL := 6) (ret := (some .int)) (As := [.long y0, .int y3, .int z4]) (rest := []) (stk := [.int q3]) ⟨hx, hb, hml, hown, hts⟩ hK hE hA hP hD hS (c_X6_mostAgreeing l D G w F y0 y3 z4 q3 hq3) (mkS hts wd_1110 wd_1111 wd_30 wd_1112 rfl rfl hd_X6_mostAgreeing ⟨Nat.le_of_ble_eq_true rfl, Nat.le_of_ble_eq_true rfl⟩) rfl hl.1 rfl (Nat.le_of_ble_eq_true rfl) dX6_mostByWord_24 ⟨Nat.zero_le _, Nat.zero_le _⟩ rfl (fun H locs hP hD hS => ?_)
      refine lv_lload_n hx hb dX6_mostByWord_27 rfl (lv_at hl 0 rfl) ?_
      refine lv_iload_n hx hb dX6_mostByWord_28 rfl (lv_at hl 2 rfl) ?_
      refine lv_bipush (v := 7) hx hb dX6_mostByWord_29 (by decide) ?_
      refine lv_iload hx hb dX6_mostByWord_31 (lv_at hl 3 rfl) ?_
      refine lv_isub hx hb dX6_mostByWord_33 ?_
      obtain ⟨q4, hq4, h⟩ := f_b h
      refine cl_S (w := w) (w' := w) (rv := some (.int q4)) (bytes := cX6_mostAgreeing) (maxL := 6) (ret := (some .int)) (As := [.long y0, .int y3, .int ((7 : Int32) - z4)]) (rest := [.int q3]) (stk := [.int q4, .int q3]) ⟨hx, hb, hml, hown, hts⟩ hK hE hA hP hD hS (c_X6_mostAgreeing l D G w F y0 y3 ((7 : Int32) - z4) q4 hq4) (mkS hts wd_1110 wd_1111 wd_30 wd_1112 rfl rfl hd_X6_mostAgreeing ⟨Nat.le_of_ble_eq_true rfl, Nat.le_of_ble_eq_true rfl⟩) rfl hl.1 rfl (Nat.le_of_ble_eq_true rfl) dX6_mostByWord_34 ⟨Nat.zero_le _, Nat.zero_le _⟩ rfl (fun H locs hP hD hS => ?_)
      refine lv_iadd hx hb dX6_mostByWord_37 ?_
      refine lv_istore (lv' := [(5, .int (q3 + q4)), (0, .long y0), (2, .int z2), (3, .int y3), (4, .int z4)]) hx hb dX6_mostByWord_38 hl (by decide) rfl (fun ls hl => ?_)
      refine lv_iload_n hx hb dX6_mostByWord_40 rfl (lv_at hl 2 rfl) ?_
      refine lv_iload hx hb dX6_mostByWord_41 (lv_at hl 0 rfl) ?_
      refine va_mmax hx hb (hml.trans hl.1.symm) hown (hts _ wd_1116) (hts _ wd_328) (hts _ wd_12) (hts _ wd_329) (Nat.le_of_ble_eq_true rfl) (Nat.le_of_ble_eq_true rfl) (Nat.zero_le _) (Nat.zero_le _) dX6_mostByWord_43 ?_
      refine lv_istore_n (lv' := [(2, .int (if z2 < (q3 + q4) then (q3 + q4) else z2)), (5, .int (q3 + q4)), (0, .long y0), (3, .int y3), (4, .int z4)]) hx hb dX6_mostByWord_46 rfl hl (by decide) rfl (fun ls hl => ?_)
      refine lv_iinc (v := (z4 + 1)) (lv' := [(4, .int (z4 + 1)), (2, .int (if z2 < (q3 + q4) then (q3 + q4) else z2)), (5, .int (q3 + q4)), (0, .long y0), (3, .int y3)]) hx hb dX6_mostByWord_47 hl (k := 4) rfl rfl (by decide) rfl (fun ls hl => ?_)
      refine lv_goto (tgt := 13) hx hb dX6_mostByWord_50 (by decide) ?_
      exact ih (if z2 < (q3 + q4) then (q3 + q4) else z2) (z4 + 1) h _ _ _ hP hD hS (lv_sub hl [3, 1, 4, 0] rfl)
set_option maxRecDepth 100000 in
set_option maxHeartbeats 8000000 in
theorem W_X6_mostByWord_L4 {p : Program} {e : Env} {s : State} {m : MethodId} {args : Array Value} {below : List Frame} {meth : Method} {c : Code} {A : Nat → Prop} (l : Launch) (D : va_G) (G : hG) (w : va_W) (F : Nat) (x0 : Int64) (y0 : Int64) (res : Int32) (C0 : Cx p s m args meth c cX6_mostByWord (some .int) RX6 6 D G A) (hA : ∀ q : Nat, s.heap.size ≤ q → A q) : ∀ (n : Nat) (z2 : Int32) (z3 : Int32), f_X6_mostByWord_L4 F y0 n z2 z3 = some res → ∀ (H : Heap) (locs : List Loc) (ls : Array Slot), va_P D vwCl w H → va_D A w → va_S A s.heap H locs → lv_has ls 6 [(0, .long y0), (2, .int z2), (3, .int z3)] → W p l e rm_X6_mostByWord s m args below meth c H locs 0 0 (MQ below (Qg (some (.int res)) D (tysG G) w A) args s 0 0 A) (F0 m 4 ls []) := by
  obtain ⟨hx, hb, hr, hml, hown, hts, hlocks, hK, hE⟩ := id C0
  intro n
  induction n with
  | zero =>
    intro z2 z3 h
    cases h
  | succ n ih =>
    intro z2 z3 h H locs ls hP hD hS hl
    rw [f_X6_mostByWord_L4] at h
    refine lv_iload_n hx hb dX6_mostByWord_4 rfl (lv_at hl 2 rfl) ?_
    refine lv_bipush (v := 7) hx hb dX6_mostByWord_5 (by decide) ?_
    refine lv_icmp_gt (tgt := 59) hx hb dX6_mostByWord_7 (by decide) (fun c1 => ?_) (fun c1 => ?_)
    · skip
      have h := f_t c1 h
      refine lv_iload_n hx hb dX6_mostByWord_59 rfl (lv_at hl 1 rfl) ?_
      obtain rfl := Option.some.inj h
      exact W.iret (v := z2) hx hb hr (q_end hK hP hD hS) hS.2.2 dX6_mostByWord_60
    · skip
      have h := f_f c1 h
      refine lv_iconst (v := 0) hx hb dX6_mostByWord_10 (by decide) ?_
      refine lv_istore (lv' := [(4, .int (0 : Int32)), (0, .long y0), (2, .int z2), (3, .int z3)]) hx hb dX6_mostByWord_11 hl (by decide) rfl (fun ls hl => ?_)
      refine W_X6_mostByWord_L13 l D G w F x0 y0 z3 res C0 hA _ ?_ F z2 (0 : Int32) h _ _ _ hP hD hS (lv_sub hl [1, 2, 3, 0] rfl)
      · intro z2 h H locs ls hP hD hS hl
        refine lv_iinc (v := (z3 + 1)) (lv' := [(3, .int (z3 + 1)), (0, .long y0), (2, .int z2)]) hx hb dX6_mostByWord_53 hl (k := 2) rfl rfl (by decide) rfl (fun ls hl => ?_)
        refine lv_goto (tgt := 4) hx hb dX6_mostByWord_56 (by decide) ?_
        exact ih z2 (z3 + 1) h _ _ _ hP hD hS (lv_sub hl [1, 2, 0] rfl)
set_option maxRecDepth 100000 in
set_option maxHeartbeats 8000000 in
theorem c_X6_mostByWord (l : Launch) (D : va_G) (G : hG) (w : va_W) (F : Nat) (x0 : Int64) (res : Int32) (h : f_X6_mostByWord F x0 = some res) : CT l yX6_mostByWord cX6_mostByWord 6 (some .int) rm_X6_mostByWord D G 0 0 [.long x0] w w (some (.int res)) := by
  unfold f_X6_mostByWord at h
  refine CT.mk (cc := cX6_mostByWord) (maxL := 6) (ret := (some .int)) (own := RX6) (plainFor_of_name (by decide)) rfl (Nat.le_of_ble_eq_true rfl) ?_
  intro p e s m args below meth c A ls C0 hnm hA hP hD hl
  obtain ⟨hx, hb, hr, hml, hown, hts, hlocks, hK, hE⟩ := id C0
  have hS : va_S A s.heap s.heap [] := va_S.rf
  have hl : lv_has ls 6 [(0, .long x0)] := hl
  refine lv_iconst (v := 0) hx hb dX6_mostByWord_0 (by decide) ?_
  refine lv_istore_n (lv' := [(2, .int (0 : Int32)), (0, .long x0)]) hx hb dX6_mostByWord_1 rfl hl (by decide) rfl (fun ls hl => ?_)
  refine lv_iconst (v := 0) hx hb dX6_mostByWord_2 (by decide) ?_
  refine lv_istore_n (lv' := [(3, .int (0 : Int32)), (2, .int (0 : Int32)), (0, .long x0)]) hx hb dX6_mostByWord_3 rfl hl (by decide) rfl (fun ls hl => ?_)
  refine W_X6_mostByWord_L4 l D G w F x0 x0 res C0 hA F (0 : Int32) (0 : Int32) h _ _ _ hP hD hS (lv_sub hl [2, 1, 0] rfl)
abbrev rm_X6_linearBook : Room := { frames := 1, cells := 0, slots := 0, locals := 20 }
set_option maxRecDepth 100000 in
set_option maxHeartbeats 8000000 in
theorem W_X6_linearBook_L4 {p : Program} {e : Env} {s : State} {m : MethodId} {args : Array Value} {below : List Frame} {meth : Method} {c : Code} {A : Nat → Prop} (l : Launch) (D : va_G) (G : hG) (w : va_W) (F : Nat) (x0 : Int32) (x1 : Int32) (y0 : Int32) (y1 : Int32) (res : Int32) (C0 : Cx p s m args meth c cX6_linearBook (some .int) RX6 4 D G A) (hA : ∀ q : Nat, s.heap.size ≤ q → A q) : ∀ (n : Nat) (z2 : Int32) (z3 : Int32), f_X6_linearBook_L4 y0 y1 n z2 z3 = some res → ∀ (H : Heap) (locs : List Loc) (ls : Array Slot), va_P D vwCl w H → va_D A w → va_S A s.heap H locs → lv_has ls 4 [(0, .int y0), (1, .int y1), (2, .int z2), (3, .int z3)] → W p l e rm_X6_linearBook s m args below meth c H locs 0 0 (MQ below (Qg (some (.int res)) D (tysG G) w A) args s 0 0 A) (F0 m 4 ls []) := by
  obtain ⟨hx, hb, hr, hml, hown, hts, hlocks, hK, hE⟩ := id C0
  intro n
  induction n with
  | zero =>
    intro z2 z3 h
    cases h
  | succ n ih =>
    intro z2 z3 h H locs ls hP hD hS hl
    rw [f_X6_linearBook_L4] at h
    refine lv_iload_n hx hb dX6_linearBook_4 rfl (lv_at hl 3 rfl) ?_
    refine lv_iconst (v := 1) hx hb dX6_linearBook_5 (by decide) ?_
    refine lv_iload_n hx hb dX6_linearBook_6 rfl (lv_at hl 0 rfl) ?_
    refine lv_ishl hx hb dX6_linearBook_7 ?_
    refine lv_icmp_ge (tgt := 30) hx hb dX6_linearBook_8 (by decide) (fun c1 => ?_) (fun c1 => ?_)
    · skip
      have h := f_t c1 h
      refine lv_iload_n hx hb dX6_linearBook_30 rfl (lv_at hl 2 rfl) ?_
      obtain rfl := Option.some.inj h
      exact W.iret (v := z2) hx hb hr (q_end hK hP hD hS) hS.2.2 dX6_linearBook_31
    · skip
      have h := f_f c1 h
      refine lv_iload_n hx hb dX6_linearBook_11 rfl (lv_at hl 2 rfl) ?_
      refine lv_iload_n hx hb dX6_linearBook_12 rfl (lv_at hl 3 rfl) ?_
      refine lv_iload_n hx hb dX6_linearBook_13 rfl (lv_at hl 1 rfl) ?_
      refine lv_iand hx hb dX6_linearBook_14 ?_
      obtain ⟨q2, hq2, h⟩ := f_b h
      refine cl_S (w := w) (w' := w) (rv := some (.int q2)) (bytes := cJ6_bitCount_0f7a4) (maxL := 1) (ret := (some .int)) (As := [.int (z3 &&& y1)]) (rest := [.int z2]) (stk := [.int q2, .int z2]) ⟨hx, hb, hml, hown, hts⟩ hK hE hA hP hD hS (c_J6_bitCount_0f7a4 l D G w (z3 &&& y1) q2 hq2) (mkS hts wd_1136 wd_1137 wd_31 wd_1138 rfl rfl hd_J6_bitCount_0f7a4 ⟨Nat.le_of_ble_eq_true rfl, Nat.le_of_ble_eq_true rfl⟩) rfl hl.1 rfl (Nat.le_of_ble_eq_true rfl) dX6_linearBook_15 ⟨Nat.zero_le _, Nat.zero_le _⟩ rfl (fun H locs hP hD hS => ?_)
      refine lv_iconst (v := 1) hx hb dX6_linearBook_18 (by decide) ?_
      refine lv_iand hx hb dX6_linearBook_19 ?_
      refine lv_iload_n hx hb dX6_linearBook_20 rfl (lv_at hl 3 rfl) ?_
      refine lv_ishl hx hb dX6_linearBook_21 ?_
      refine lv_ior hx hb dX6_linearBook_22 ?_
      refine lv_istore_n (lv' := [(2, .int (z2 ||| ((q2 &&& (1 : Int32)) <<< (z3 &&& 31)))), (0, .int y0), (1, .int y1), (3, .int z3)]) hx hb dX6_linearBook_23 rfl hl (by decide) rfl (fun ls hl => ?_)
      refine lv_iinc (v := (z3 + 1)) (lv' := [(3, .int (z3 + 1)), (2, .int (z2 ||| ((q2 &&& (1 : Int32)) <<< (z3 &&& 31)))), (0, .int y0), (1, .int y1)]) hx hb dX6_linearBook_24 hl (k := 3) rfl rfl (by decide) rfl (fun ls hl => ?_)
      refine lv_goto (tgt := 4) hx hb dX6_linearBook_27 (by decide) ?_
      exact ih (z2 ||| ((q2 &&& (1 : Int32)) <<< (z3 &&& 31))) (z3 + 1) h _ _ _ hP hD hS (lv_sub hl [2, 3, 1, 0] rfl)
set_option maxRecDepth 100000 in
set_option maxHeartbeats 8000000 in
theorem c_X6_linearBook (l : Launch) (D : va_G) (G : hG) (w : va_W) (F : Nat) (x0 : Int32) (x1 : Int32) (res : Int32) (h : f_X6_linearBook F x0 x1 = some res) : CT l yX6_linearBook cX6_linearBook 4 (some .int) rm_X6_linearBook D G 0 0 [.int x0, .int x1] w w (some (.int res)) := by
  unfold f_X6_linearBook at h
  refine CT.mk (cc := cX6_linearBook) (maxL := 4) (ret := (some .int)) (own := RX6) (plainFor_of_name (by decide)) rfl (Nat.le_of_ble_eq_true rfl) ?_
  intro p e s m args below meth c A ls C0 hnm hA hP hD hl
  obtain ⟨hx, hb, hr, hml, hown, hts, hlocks, hK, hE⟩ := id C0
  have hS : va_S A s.heap s.heap [] := va_S.rf
  have hl : lv_has ls 4 [(0, .int x0), (1, .int x1)] := hl
  refine lv_iconst (v := 0) hx hb dX6_linearBook_0 (by decide) ?_
  refine lv_istore_n (lv' := [(2, .int (0 : Int32)), (0, .int x0), (1, .int x1)]) hx hb dX6_linearBook_1 rfl hl (by decide) rfl (fun ls hl => ?_)
  refine lv_iconst (v := 0) hx hb dX6_linearBook_2 (by decide) ?_
  refine lv_istore_n (lv' := [(3, .int (0 : Int32)), (2, .int (0 : Int32)), (0, .int x0), (1, .int x1)]) hx hb dX6_linearBook_3 rfl hl (by decide) rfl (fun ls hl => ?_)
  refine W_X6_linearBook_L4 l D G w F x0 x1 x0 x1 res C0 hA F (0 : Int32) (0 : Int32) h _ _ _ hP hD hS (lv_sub hl [2, 3, 1, 0] rfl)
abbrev rm_X6_nearestLinear : Room := { frames := 2, cells := 0, slots := 0, locals := 43 }
set_option maxRecDepth 100000 in
set_option maxHeartbeats 8000000 in
theorem W_X6_nearestLinear_L4 {p : Program} {e : Env} {s : State} {m : MethodId} {args : Array Value} {below : List Frame} {meth : Method} {c : Code} {A : Nat → Prop} (l : Launch) (D : va_G) (G : hG) (w : va_W) (F : Nat) (x0 : Int32) (x1 : Int32) (y0 : Int32) (y1 : Int32) (res : Int32) (C0 : Cx p s m args meth c cX6_nearestLinear (some .int) RX6 6 D G A) (hA : ∀ q : Nat, s.heap.size ≤ q → A q) : ∀ (n : Nat) (z2 : Int32) (z3 : Int32), f_X6_nearestLinear_L4 F y0 y1 n z2 z3 = some res → ∀ (H : Heap) (locs : List Loc) (ls : Array Slot), va_P D vwCl w H → va_D A w → va_S A s.heap H locs → lv_has ls 6 [(0, .int y0), (1, .int y1), (2, .int z2), (3, .int z3)] → W p l e rm_X6_nearestLinear s m args below meth c H locs 0 0 (MQ below (Qg (some (.int res)) D (tysG G) w A) args s 0 0 A) (F0 m 4 ls []) := by
  obtain ⟨hx, hb, hr, hml, hown, hts, hlocks, hK, hE⟩ := id C0
  intro n
  induction n with
  | zero =>
    intro z2 z3 h
    cases h
  | succ n ih =>
    intro z2 z3 h H locs ls hP hD hS hl
    rw [f_X6_nearestLinear_L4] at h
    refine lv_iload_n hx hb dX6_nearestLinear_4 rfl (lv_at hl 3 rfl) ?_
    refine lv_iconst (v := 1) hx hb dX6_nearestLinear_5 (by decide) ?_
    refine lv_iload_n hx hb dX6_nearestLinear_6 rfl (lv_at hl 0 rfl) ?_
    refine lv_ishl hx hb dX6_nearestLinear_7 ?_
    refine lv_icmp_ge (tgt := 59) hx hb dX6_nearestLinear_8 (by decide) (fun c1 => ?_) (fun c1 => ?_)
    · skip
      have h := f_t c1 h
      refine lv_iload_n hx hb dX6_nearestLinear_59 rfl (lv_at hl 2 rfl) ?_
      obtain rfl := Option.some.inj h
      exact W.iret (v := z2) hx hb hr (q_end hK hP hD hS) hS.2.2 dX6_nearestLinear_60
    · skip
      have h := f_f c1 h
      refine lv_iload_n hx hb dX6_nearestLinear_11 rfl (lv_at hl 0 rfl) ?_
      refine lv_iload_n hx hb dX6_nearestLinear_12 rfl (lv_at hl 3 rfl) ?_
      obtain ⟨q2, hq2, h⟩ := f_b h
      refine cl_S (w := w) (w' := w) (rv := some (.int q2)) (bytes := cX6_linearBook) (maxL := 4) (ret := (some .int)) (As := [.int y0, .int z3]) (rest := []) (stk := [.int q2]) ⟨hx, hb, hml, hown, hts⟩ hK hE hA hP hD hS (c_X6_linearBook l D G w F y0 z3 q2 hq2) (mkS hts wd_1133 wd_1134 wd_30 wd_1135 rfl rfl hd_X6_linearBook ⟨Nat.le_of_ble_eq_true rfl, Nat.le_of_ble_eq_true rfl⟩) rfl hl.1 rfl (Nat.le_of_ble_eq_true rfl) dX6_nearestLinear_13 ⟨Nat.zero_le _, Nat.zero_le _⟩ rfl (fun H locs hP hD hS => ?_)
      refine lv_istore (lv' := [(4, .int q2), (0, .int y0), (1, .int y1), (2, .int z2), (3, .int z3)]) hx hb dX6_nearestLinear_16 hl (by decide) rfl (fun ls hl => ?_)
      refine lv_iload hx hb dX6_nearestLinear_18 (lv_at hl 0 rfl) ?_
      refine lv_iload_n hx hb dX6_nearestLinear_20 rfl (lv_at hl 2 rfl) ?_
      refine lv_ixor hx hb dX6_nearestLinear_21 ?_
      obtain ⟨q3, hq3, h⟩ := f_b h
      refine cl_S (w := w) (w' := w) (rv := some (.int q3)) (bytes := cJ6_bitCount_0f7a4) (maxL := 1) (ret := (some .int)) (As := [.int (q2 ^^^ y1)]) (rest := []) (stk := [.int q3]) ⟨hx, hb, hml, hown, hts⟩ hK hE hA hP hD hS (c_J6_bitCount_0f7a4 l D G w (q2 ^^^ y1) q3 hq3) (mkS hts wd_1136 wd_1137 wd_31 wd_1138 rfl rfl hd_J6_bitCount_0f7a4 ⟨Nat.le_of_ble_eq_true rfl, Nat.le_of_ble_eq_true rfl⟩) rfl hl.1 rfl (Nat.le_of_ble_eq_true rfl) dX6_nearestLinear_22 ⟨Nat.zero_le _, Nat.zero_le _⟩ rfl (fun H locs hP hD hS => ?_)
      refine lv_iload_n hx hb dX6_nearestLinear_25 rfl (lv_at hl 3 rfl) ?_
      refine lv_iload_n hx hb dX6_nearestLinear_26 rfl (lv_at hl 2 rfl) ?_
      refine lv_ixor hx hb dX6_nearestLinear_27 ?_
      obtain ⟨q4, hq4, h⟩ := f_b h
      refine cl_S (w := w) (w' := w) (rv := some (.int q4)) (bytes := cJ6_bitCount_0f7a4) (maxL := 1) (ret := (some .int)) (As := [.int (z2 ^^^ y1)]) (rest := [.int q3]) (stk := [.int q4, .int q3]) ⟨hx, hb, hml, hown, hts⟩ hK hE hA hP hD hS (c_J6_bitCount_0f7a4 l D G w (z2 ^^^ y1) q4 hq4) (mkS hts wd_1136 wd_1137 wd_31 wd_1138 rfl rfl hd_J6_bitCount_0f7a4 ⟨Nat.le_of_ble_eq_true rfl, Nat.le_of_ble_eq_true rfl⟩) rfl hl.1 rfl (Nat.le_of_ble_eq_true rfl) dX6_nearestLinear_28 ⟨Nat.zero_le _, Nat.zero_le _⟩ rfl (fun H locs hP hD hS => ?_)
      refine lv_isub hx hb dX6_nearestLinear_31 ?_
      refine lv_istore (lv' := [(5, .int (q3 - q4)), (4, .int q2), (0, .int y0), (1, .int y1), (2, .int z2), (3, .int z3)]) hx hb dX6_nearestLinear_32 hl (by decide) rfl (fun ls hl => ?_)
      refine lv_iload hx hb dX6_nearestLinear_34 (lv_at hl 0 rfl) ?_
      refine lv_if_lt (tgt := 50) hx hb dX6_nearestLinear_36 (by decide) (fun c5 => ?_) (fun c5 => ?_)
      · skip
        have h := f_t c5 h
        refine lv_iload hx hb dX6_nearestLinear_50 (lv_at hl 1 rfl) ?_
        refine lv_istore_n (lv' := [(2, .int q2), (5, .int (q3 - q4)), (4, .int q2), (0, .int y0), (1, .int y1), (3, .int z3)]) hx hb dX6_nearestLinear_52 rfl hl (by decide) rfl (fun ls hl => ?_)
        refine lv_iinc (v := (z3 + 1)) (lv' := [(3, .int (z3 + 1)), (2, .int q2), (5, .int (q3 - q4)), (4, .int q2), (0, .int y0), (1, .int y1)]) hx hb dX6_nearestLinear_53 hl (k := 5) rfl rfl (by decide) rfl (fun ls hl => ?_)
        refine lv_goto (tgt := 4) hx hb dX6_nearestLinear_56 (by decide) ?_
        exact ih q2 (z3 + 1) h _ _ _ hP hD hS (lv_sub hl [4, 5, 1, 0] rfl)
      · skip
        have h := f_f c5 h
        refine lv_iload hx hb dX6_nearestLinear_39 (lv_at hl 0 rfl) ?_
        refine lv_if_ne (tgt := 53) hx hb dX6_nearestLinear_41 (by decide) (fun c6 => ?_) (fun c6 => ?_)
        · skip
          have h := f_f c6 h
          refine lv_iinc (v := (z3 + 1)) (lv' := [(3, .int (z3 + 1)), (5, .int (q3 - q4)), (4, .int q2), (0, .int y0), (1, .int y1), (2, .int z2)]) hx hb dX6_nearestLinear_53 hl (k := 5) rfl rfl (by decide) rfl (fun ls hl => ?_)
          refine lv_goto (tgt := 4) hx hb dX6_nearestLinear_56 (by decide) ?_
          exact ih z2 (z3 + 1) h _ _ _ hP hD hS (lv_sub hl [3, 4, 5, 0] rfl)
        · skip
          have h := f_t c6 h
          refine lv_iload hx hb dX6_nearestLinear_44 (lv_at hl 1 rfl) ?_
          refine lv_iload_n hx hb dX6_nearestLinear_46 rfl (lv_at hl 4 rfl) ?_
          refine lv_icmp_ge (tgt := 53) hx hb dX6_nearestLinear_47 (by decide) (fun c7 => ?_) (fun c7 => ?_)
          · skip
            have h := f_t c7 h
            refine lv_iinc (v := (z3 + 1)) (lv' := [(3, .int (z3 + 1)), (5, .int (q3 - q4)), (4, .int q2), (0, .int y0), (1, .int y1), (2, .int z2)]) hx hb dX6_nearestLinear_53 hl (k := 5) rfl rfl (by decide) rfl (fun ls hl => ?_)
            refine lv_goto (tgt := 4) hx hb dX6_nearestLinear_56 (by decide) ?_
            exact ih z2 (z3 + 1) h _ _ _ hP hD hS (lv_sub hl [3, 4, 5, 0] rfl)
          · skip
            have h := f_f c7 h
            refine lv_iload hx hb dX6_nearestLinear_50 (lv_at hl 1 rfl) ?_
            refine lv_istore_n (lv' := [(2, .int q2), (5, .int (q3 - q4)), (4, .int q2), (0, .int y0), (1, .int y1), (3, .int z3)]) hx hb dX6_nearestLinear_52 rfl hl (by decide) rfl (fun ls hl => ?_)
            refine lv_iinc (v := (z3 + 1)) (lv' := [(3, .int (z3 + 1)), (2, .int q2), (5, .int (q3 - q4)), (4, .int q2), (0, .int y0), (1, .int y1)]) hx hb dX6_nearestLinear_53 hl (k := 5) rfl rfl (by decide) rfl (fun ls hl => ?_)
            refine lv_goto (tgt := 4) hx hb dX6_nearestLinear_56 (by decide) ?_
            exact ih q2 (z3 + 1) h _ _ _ hP hD hS (lv_sub hl [4, 5, 1, 0] rfl)
set_option maxRecDepth 100000 in
set_option maxHeartbeats 8000000 in
theorem c_X6_nearestLinear (l : Launch) (D : va_G) (G : hG) (w : va_W) (F : Nat) (x0 : Int32) (x1 : Int32) (res : Int32) (h : f_X6_nearestLinear F x0 x1 = some res) : CT l yX6_nearestLinear cX6_nearestLinear 6 (some .int) rm_X6_nearestLinear D G 0 0 [.int x0, .int x1] w w (some (.int res)) := by
  unfold f_X6_nearestLinear at h
  refine CT.mk (cc := cX6_nearestLinear) (maxL := 6) (ret := (some .int)) (own := RX6) (plainFor_of_name (by decide)) rfl (Nat.le_of_ble_eq_true rfl) ?_
  intro p e s m args below meth c A ls C0 hnm hA hP hD hl
  obtain ⟨hx, hb, hr, hml, hown, hts, hlocks, hK, hE⟩ := id C0
  have hS : va_S A s.heap s.heap [] := va_S.rf
  have hl : lv_has ls 6 [(0, .int x0), (1, .int x1)] := hl
  refine lv_iconst (v := 0) hx hb dX6_nearestLinear_0 (by decide) ?_
  refine lv_istore_n (lv' := [(2, .int (0 : Int32)), (0, .int x0), (1, .int x1)]) hx hb dX6_nearestLinear_1 rfl hl (by decide) rfl (fun ls hl => ?_)
  refine lv_iconst (v := 0) hx hb dX6_nearestLinear_2 (by decide) ?_
  refine lv_istore_n (lv' := [(3, .int (0 : Int32)), (2, .int (0 : Int32)), (0, .int x0), (1, .int x1)]) hx hb dX6_nearestLinear_3 rfl hl (by decide) rfl (fun ls hl => ?_)
  refine W_X6_nearestLinear_L4 l D G w F x0 x1 x0 x1 res C0 hA F (0 : Int32) (0 : Int32) h _ _ _ hP hD hS (lv_sub hl [2, 3, 1, 0] rfl)
abbrev rm_X6_mendedCell : Room := { frames := 0, cells := 0, slots := 0, locals := 0 }
set_option maxRecDepth 100000 in
set_option maxHeartbeats 8000000 in
theorem W_X6_mendedCell_L5 {p : Program} {e : Env} {s : State} {m : MethodId} {args : Array Value} {below : List Frame} {meth : Method} {c : Code} {A : Nat → Prop} (l : Launch) (D : va_G) (G : hG) (w : va_W) (F : Nat) (x0 : Int32) (x1 : Int32) (x2 : Int32) (y0 : Int32) (y1 : Int32) (y2 : Int32) (res : Int32) (C0 : Cx p s m args meth c cX6_mendedCell (some .int) RX6 5 D G A) (hA : ∀ q : Nat, s.heap.size ≤ q → A q) (k35 : Int32 → Option Int32) (hk35 : ∀ (z3 : Int32), k35 z3 = some res → ∀ (H : Heap) (locs : List Loc) (ls : Array Slot), va_P D vwCl w H → va_D A w → va_S A s.heap H locs → lv_has ls 5 [(0, .int y0), (3, .int z3)] → W p l e rm_X6_mendedCell s m args below meth c H locs 0 0 (MQ below (Qg (some (.int res)) D (tysG G) w A) args s 0 0 A) (F0 m 35 ls [])) : ∀ (n : Nat) (z3 : Int32) (z4 : Int32), f_X6_mendedCell_L5 y0 y1 y2 k35 n z3 z4 = some res → ∀ (H : Heap) (locs : List Loc) (ls : Array Slot), va_P D vwCl w H → va_D A w → va_S A s.heap H locs → lv_has ls 5 [(0, .int y0), (1, .int y1), (2, .int y2), (3, .int z3), (4, .int z4)] → W p l e rm_X6_mendedCell s m args below meth c H locs 0 0 (MQ below (Qg (some (.int res)) D (tysG G) w A) args s 0 0 A) (F0 m 5 ls []) := by
  obtain ⟨hx, hb, hr, hml, hown, hts, hlocks, hK, hE⟩ := id C0
  intro n
  induction n with
  | zero =>
    intro z3 z4 h
    cases h
  | succ n ih =>
    intro z3 z4 h H locs ls hP hD hS hl
    rw [f_X6_mendedCell_L5] at h
    refine lv_iload hx hb dX6_mendedCell_5 (lv_at hl 4 rfl) ?_
    refine lv_iconst (v := 1) hx hb dX6_mendedCell_7 (by decide) ?_
    refine lv_iload_n hx hb dX6_mendedCell_8 rfl (lv_at hl 0 rfl) ?_
    refine lv_ishl hx hb dX6_mendedCell_9 ?_
    refine lv_icmp_ge (tgt := 35) hx hb dX6_mendedCell_10 (by decide) (fun c1 => ?_) (fun c1 => ?_)
    · skip
      have h := f_t c1 h
      exact hk35 z3 h _ _ _ hP hD hS (lv_sub hl [0, 3] rfl)
    · skip
      have h := f_f c1 h
      refine lv_iload_n hx hb dX6_mendedCell_13 rfl (lv_at hl 3 rfl) ?_
      refine lv_iload_n hx hb dX6_mendedCell_14 rfl (lv_at hl 1 rfl) ?_
      refine lv_iload_n hx hb dX6_mendedCell_15 rfl (lv_at hl 2 rfl) ?_
      refine lv_iload hx hb dX6_mendedCell_16 (lv_at hl 4 rfl) ?_
      refine lv_ixor hx hb dX6_mendedCell_18 ?_
      refine lv_ishr hx hb dX6_mendedCell_19 ?_
      refine lv_iload_n hx hb dX6_mendedCell_20 rfl (lv_at hl 1 rfl) ?_
      refine lv_iload hx hb dX6_mendedCell_21 (lv_at hl 4 rfl) ?_
      refine lv_ishr hx hb dX6_mendedCell_23 ?_
      refine lv_ixor hx hb dX6_mendedCell_24 ?_
      refine lv_iconst (v := 1) hx hb dX6_mendedCell_25 (by decide) ?_
      refine lv_iand hx hb dX6_mendedCell_26 ?_
      refine lv_iadd hx hb dX6_mendedCell_27 ?_
      refine lv_istore_n (lv' := [(3, .int (z3 + (((y1 >>> ((y2 ^^^ z4) &&& 31)) ^^^ (y1 >>> (z4 &&& 31))) &&& (1 : Int32)))), (0, .int y0), (1, .int y1), (2, .int y2), (4, .int z4)]) hx hb dX6_mendedCell_28 rfl hl (by decide) rfl (fun ls hl => ?_)
      refine lv_iinc (v := (z4 + 1)) (lv' := [(4, .int (z4 + 1)), (3, .int (z3 + (((y1 >>> ((y2 ^^^ z4) &&& 31)) ^^^ (y1 >>> (z4 &&& 31))) &&& (1 : Int32)))), (0, .int y0), (1, .int y1), (2, .int y2)]) hx hb dX6_mendedCell_29 hl (k := 4) rfl rfl (by decide) rfl (fun ls hl => ?_)
      refine lv_goto (tgt := 5) hx hb dX6_mendedCell_32 (by decide) ?_
      exact ih (z3 + (((y1 >>> ((y2 ^^^ z4) &&& 31)) ^^^ (y1 >>> (z4 &&& 31))) &&& (1 : Int32))) (z4 + 1) h _ _ _ hP hD hS (lv_sub hl [2, 3, 4, 1, 0] rfl)
set_option maxRecDepth 100000 in
set_option maxHeartbeats 8000000 in
theorem c_X6_mendedCell (l : Launch) (D : va_G) (G : hG) (w : va_W) (F : Nat) (x0 : Int32) (x1 : Int32) (x2 : Int32) (res : Int32) (h : f_X6_mendedCell F x0 x1 x2 = some res) : CT l yX6_mendedCell cX6_mendedCell 5 (some .int) rm_X6_mendedCell D G 0 0 [.int x0, .int x1, .int x2] w w (some (.int res)) := by
  unfold f_X6_mendedCell at h
  refine CT.mk (cc := cX6_mendedCell) (maxL := 5) (ret := (some .int)) (own := RX6) (plainFor_of_name (by decide)) rfl (Nat.le_of_ble_eq_true rfl) ?_
  intro p e s m args below meth c A ls C0 hnm hA hP hD hl
  obtain ⟨hx, hb, hr, hml, hown, hts, hlocks, hK, hE⟩ := id C0
  have hS : va_S A s.heap s.heap [] := va_S.rf
  have hl : lv_has ls 5 [(0, .int x0), (1, .int x1), (2, .int x2)] := hl
  refine lv_iconst (v := 0) hx hb dX6_mendedCell_0 (by decide) ?_
  refine lv_istore_n (lv' := [(3, .int (0 : Int32)), (0, .int x0), (1, .int x1), (2, .int x2)]) hx hb dX6_mendedCell_1 rfl hl (by decide) rfl (fun ls hl => ?_)
  refine lv_iconst (v := 0) hx hb dX6_mendedCell_2 (by decide) ?_
  refine lv_istore (lv' := [(4, .int (0 : Int32)), (3, .int (0 : Int32)), (0, .int x0), (1, .int x1), (2, .int x2)]) hx hb dX6_mendedCell_3 hl (by decide) rfl (fun ls hl => ?_)
  refine W_X6_mendedCell_L5 l D G w F x0 x1 x2 x0 x1 x2 res C0 hA _ ?_ F (0 : Int32) (0 : Int32) h _ _ _ hP hD hS (lv_sub hl [2, 3, 4, 1, 0] rfl)
  · intro z3 h H locs ls hP hD hS hl
    refine lv_iconst (v := 2) hx hb dX6_mendedCell_35 (by decide) ?_
    refine lv_iload_n hx hb dX6_mendedCell_36 rfl (lv_at hl 1 rfl) ?_
    refine lv_imul hx hb dX6_mendedCell_37 ?_
    refine lv_iconst (v := 1) hx hb dX6_mendedCell_38 (by decide) ?_
    refine lv_iload_n hx hb dX6_mendedCell_39 rfl (lv_at hl 0 rfl) ?_
    refine lv_ishl hx hb dX6_mendedCell_40 ?_
    refine lv_icmp_le (tgt := 48) hx hb dX6_mendedCell_41 (by decide) (fun c2 => ?_) (fun c2 => ?_)
    · skip
      have h := f_t c2 h
      refine lv_iconst (v := 0) hx hb dX6_mendedCell_48 (by decide) ?_
      obtain rfl := Option.some.inj h
      exact W.iret (v := (0 : Int32)) hx hb hr (q_end hK hP hD hS) hS.2.2 dX6_mendedCell_49
    · skip
      have h := f_f c2 h
      refine lv_iconst (v := 1) hx hb dX6_mendedCell_44 (by decide) ?_
      refine lv_goto (tgt := 49) hx hb dX6_mendedCell_45 (by decide) ?_
      obtain rfl := Option.some.inj h
      exact W.iret (v := (1 : Int32)) hx hb hr (q_end hK hP hD hS) hS.2.2 dX6_mendedCell_49
abbrev rm_X6_leastCaughtBook : Room := { frames := 1, cells := 0, slots := 0, locals := 24 }
set_option maxRecDepth 100000 in
set_option maxHeartbeats 8000000 in
theorem W_X6_leastCaughtBook_L14 {p : Program} {e : Env} {s : State} {m : MethodId} {args : Array Value} {below : List Frame} {meth : Method} {c : Code} {A : Nat → Prop} (l : Launch) (D : va_G) (G : hG) (w : va_W) (F : Nat) (x0 : Int32) (y0 : Int32) (res : Int32) (C0 : Cx p s m args meth c cX6_leastCaughtBook (some .int) RX6 5 D G A) (hA : ∀ q : Nat, s.heap.size ≤ q → A q) : ∀ (n : Nat) (z1 : Int32) (z2 : Int32) (z3 : Int32), f_X6_leastCaughtBook_L14 F y0 n z1 z2 z3 = some res → ∀ (H : Heap) (locs : List Loc) (ls : Array Slot), va_P D vwCl w H → va_D A w → va_S A s.heap H locs → lv_has ls 5 [(0, .int y0), (1, .int z1), (2, .int z2), (3, .int z3)] → W p l e rm_X6_leastCaughtBook s m args below meth c H locs 0 0 (MQ below (Qg (some (.int res)) D (tysG G) w A) args s 0 0 A) (F0 m 14 ls []) := by
  obtain ⟨hx, hb, hr, hml, hown, hts, hlocks, hK, hE⟩ := id C0
  intro n
  induction n with
  | zero =>
    intro z1 z2 z3 h
    cases h
  | succ n ih =>
    intro z1 z2 z3 h H locs ls hP hD hS hl
    rw [f_X6_leastCaughtBook_L14] at h
    refine lv_iload_n hx hb dX6_leastCaughtBook_14 rfl (lv_at hl 3 rfl) ?_
    refine lv_iconst (v := 1) hx hb dX6_leastCaughtBook_15 (by decide) ?_
    refine lv_iconst (v := 1) hx hb dX6_leastCaughtBook_16 (by decide) ?_
    refine lv_iload_n hx hb dX6_leastCaughtBook_17 rfl (lv_at hl 0 rfl) ?_
    refine lv_ishl hx hb dX6_leastCaughtBook_18 ?_
    refine lv_ishl hx hb dX6_leastCaughtBook_19 ?_
    refine lv_icmp_ge (tgt := 52) hx hb dX6_leastCaughtBook_20 (by decide) (fun c1 => ?_) (fun c1 => ?_)
    · skip
      have h := f_t c1 h
      refine lv_iload_n hx hb dX6_leastCaughtBook_52 rfl (lv_at hl 1 rfl) ?_
      obtain rfl := Option.some.inj h
      exact W.iret (v := z1) hx hb hr (q_end hK hP hD hS) hS.2.2 dX6_leastCaughtBook_53
    · skip
      have h := f_f c1 h
      refine lv_iload_n hx hb dX6_leastCaughtBook_23 rfl (lv_at hl 0 rfl) ?_
      refine lv_iload_n hx hb dX6_leastCaughtBook_24 rfl (lv_at hl 3 rfl) ?_
      obtain ⟨q2, hq2, h⟩ := f_b h
      refine cl_S (w := w) (w' := w) (rv := some (.int q2)) (bytes := cX6_pairsCaught) (maxL := 5) (ret := (some .int)) (As := [.int y0, .int z3]) (rest := []) (stk := [.int q2]) ⟨hx, hb, hml, hown, hts⟩ hK hE hA hP hD hS (c_X6_pairsCaught l D G w F y0 z3 q2 hq2) (mkS hts wd_1157 wd_1128 wd_30 wd_1129 rfl rfl hd_X6_pairsCaught ⟨Nat.le_of_ble_eq_true rfl, Nat.le_of_ble_eq_true rfl⟩) rfl hl.1 rfl (Nat.le_of_ble_eq_true rfl) dX6_leastCaughtBook_25 ⟨Nat.zero_le _, Nat.zero_le _⟩ rfl (fun H locs hP hD hS => ?_)
      refine lv_istore (lv' := [(4, .int q2), (0, .int y0), (1, .int z1), (2, .int z2), (3, .int z3)]) hx hb dX6_leastCaughtBook_28 hl (by decide) rfl (fun ls hl => ?_)
      refine lv_iload hx hb dX6_leastCaughtBook_30 (lv_at hl 0 rfl) ?_
      refine lv_if_le (tgt := 46) hx hb dX6_leastCaughtBook_32 (by decide) (fun c3 => ?_) (fun c3 => ?_)
      · skip
        have h := f_t c3 h
        refine lv_iinc (v := (z3 + 1)) (lv' := [(3, .int (z3 + 1)), (4, .int q2), (0, .int y0), (1, .int z1), (2, .int z2)]) hx hb dX6_leastCaughtBook_46 hl (k := 4) rfl rfl (by decide) rfl (fun ls hl => ?_)
        refine lv_goto (tgt := 14) hx hb dX6_leastCaughtBook_49 (by decide) ?_
        exact ih z1 z2 (z3 + 1) h _ _ _ hP hD hS (lv_sub hl [2, 3, 4, 0] rfl)
      · skip
        have h := f_f c3 h
        refine lv_iload hx hb dX6_leastCaughtBook_35 (lv_at hl 0 rfl) ?_
        refine lv_iload_n hx hb dX6_leastCaughtBook_37 rfl (lv_at hl 3 rfl) ?_
        refine lv_icmp_ge (tgt := 46) hx hb dX6_leastCaughtBook_38 (by decide) (fun c4 => ?_) (fun c4 => ?_)
        · skip
          have h := f_t c4 h
          refine lv_iinc (v := (z3 + 1)) (lv' := [(3, .int (z3 + 1)), (4, .int q2), (0, .int y0), (1, .int z1), (2, .int z2)]) hx hb dX6_leastCaughtBook_46 hl (k := 4) rfl rfl (by decide) rfl (fun ls hl => ?_)
          refine lv_goto (tgt := 14) hx hb dX6_leastCaughtBook_49 (by decide) ?_
          exact ih z1 z2 (z3 + 1) h _ _ _ hP hD hS (lv_sub hl [2, 3, 4, 0] rfl)
        · skip
          have h := f_f c4 h
          refine lv_iload hx hb dX6_leastCaughtBook_41 (lv_at hl 0 rfl) ?_
          refine lv_istore_n (lv' := [(2, .int q2), (4, .int q2), (0, .int y0), (1, .int z1), (3, .int z3)]) hx hb dX6_leastCaughtBook_43 rfl hl (by decide) rfl (fun ls hl => ?_)
          refine lv_iload_n hx hb dX6_leastCaughtBook_44 rfl (lv_at hl 4 rfl) ?_
          refine lv_istore_n (lv' := [(1, .int z3), (2, .int q2), (4, .int q2), (0, .int y0), (3, .int z3)]) hx hb dX6_leastCaughtBook_45 rfl hl (by decide) rfl (fun ls hl => ?_)
          refine lv_iinc (v := (z3 + 1)) (lv' := [(3, .int (z3 + 1)), (1, .int z3), (2, .int q2), (4, .int q2), (0, .int y0)]) hx hb dX6_leastCaughtBook_46 hl (k := 4) rfl rfl (by decide) rfl (fun ls hl => ?_)
          refine lv_goto (tgt := 14) hx hb dX6_leastCaughtBook_49 (by decide) ?_
          exact ih z3 q2 (z3 + 1) h _ _ _ hP hD hS (lv_sub hl [4, 1, 2, 0] rfl)
set_option maxRecDepth 100000 in
set_option maxHeartbeats 8000000 in
theorem c_X6_leastCaughtBook (l : Launch) (D : va_G) (G : hG) (w : va_W) (F : Nat) (x0 : Int32) (res : Int32) (h : f_X6_leastCaughtBook F x0 = some res) : CT l yX6_leastCaughtBook cX6_leastCaughtBook 5 (some .int) rm_X6_leastCaughtBook D G 0 0 [.int x0] w w (some (.int res)) := by
  unfold f_X6_leastCaughtBook at h
  refine CT.mk (cc := cX6_leastCaughtBook) (maxL := 5) (ret := (some .int)) (own := RX6) (plainFor_of_name (by decide)) rfl (Nat.le_of_ble_eq_true rfl) ?_
  intro p e s m args below meth c A ls C0 hnm hA hP hD hl
  obtain ⟨hx, hb, hr, hml, hown, hts, hlocks, hK, hE⟩ := id C0
  have hS : va_S A s.heap s.heap [] := va_S.rf
  have hl : lv_has ls 5 [(0, .int x0)] := hl
  refine lv_iconst (v := (-1)) hx hb dX6_leastCaughtBook_0 (by decide) ?_
  refine lv_istore_n (lv' := [(1, .int (-1 : Int32)), (0, .int x0)]) hx hb dX6_leastCaughtBook_1 rfl hl (by decide) rfl (fun ls hl => ?_)
  refine lv_iconst (v := 1) hx hb dX6_leastCaughtBook_2 (by decide) ?_
  refine lv_iload_n hx hb dX6_leastCaughtBook_3 rfl (lv_at hl 1 rfl) ?_
  refine lv_ishl hx hb dX6_leastCaughtBook_4 ?_
  refine lv_iconst (v := 1) hx hb dX6_leastCaughtBook_5 (by decide) ?_
  refine lv_iload_n hx hb dX6_leastCaughtBook_6 rfl (lv_at hl 1 rfl) ?_
  refine lv_ishl hx hb dX6_leastCaughtBook_7 ?_
  refine lv_imul hx hb dX6_leastCaughtBook_8 ?_
  refine lv_iconst (v := 1) hx hb dX6_leastCaughtBook_9 (by decide) ?_
  refine lv_iadd hx hb dX6_leastCaughtBook_10 ?_
  refine lv_istore_n (lv' := [(2, .int ((((1 : Int32) <<< (x0 &&& 31)) * ((1 : Int32) <<< (x0 &&& 31))) + (1 : Int32))), (1, .int (-1 : Int32)), (0, .int x0)]) hx hb dX6_leastCaughtBook_11 rfl hl (by decide) rfl (fun ls hl => ?_)
  refine lv_iconst (v := 0) hx hb dX6_leastCaughtBook_12 (by decide) ?_
  refine lv_istore_n (lv' := [(3, .int (0 : Int32)), (2, .int ((((1 : Int32) <<< (x0 &&& 31)) * ((1 : Int32) <<< (x0 &&& 31))) + (1 : Int32))), (1, .int (-1 : Int32)), (0, .int x0)]) hx hb dX6_leastCaughtBook_13 rfl hl (by decide) rfl (fun ls hl => ?_)
  refine W_X6_leastCaughtBook_L14 l D G w F x0 x0 res C0 hA F (-1 : Int32) ((((1 : Int32) <<< (x0 &&& 31)) * ((1 : Int32) <<< (x0 &&& 31))) + (1 : Int32)) (0 : Int32) h _ _ _ hP hD hS (lv_sub hl [3, 2, 1, 0] rfl)
abbrev rm_X0_sit : Room := { frames := 0, cells := 0, slots := 0, locals := 0 }
set_option maxRecDepth 100000 in
set_option maxHeartbeats 8000000 in
theorem c_X0_sit (l : Launch) (D : va_G) (G : hG) (Z : hZ) (Y : va_W) (σ0 : hSt) (r1 : Nat) (hr1 : isSa Z r1 = true) (r2 : Nat) (hr2 : isTe Z r2 = true) (x3 : Int32) (res : (Unit × hSt)) (h : f_X0_sit Z σ0 r1 r2 x3 = some res) : CT l yX0_sit cX0_sit 4 none rm_X0_sit D G 0 0 [.ref (G.2.1 12), .ref (G.2.1 r1), .ref (G.2.1 r2), .int x3] (hW G Z Y σ0) (hW G Z Y res.2) none := by
  unfold f_X0_sit at h
  refine CT.mk (cc := cX0_sit) (maxL := 4) (ret := none) (own := RX0) (plainFor_of_name (by decide)) rfl (Nat.le_of_ble_eq_true rfl) ?_
  intro p e s m args below meth c A ls C0 hnm hA hP hD hl
  obtain ⟨hx, hb, hr, hml, hown, hts, hlocks, hK, hE⟩ := id C0
  have hS : va_S A s.heap s.heap [] := va_S.rf
  have hl : lv_has ls 4 [(0, .ref (G.2.1 12)), (1, .ref (G.2.1 r1)), (2, .ref (G.2.1 r2)), (3, .int x3)] := hl
  refine lv_aload_n hx hb dX0_sit_0 rfl (lv_at hl 0 rfl) ?_
  refine lv_aload_n hx hb dX0_sit_1 rfl (lv_at hl 1 rfl) ?_
  refine va_put (D := D) (ci := 1) (v := .ref (G.2.1 r1)) (ty := (.object "LiarHall$Saying")) (C := RX0) (T := TX0) (N := 7) hx hb hts inU_X0 tyX0 tyX0_ok nmX0 hown hK hP hD hS _ (hg_12 G Z Y σ0) rfl 2 (by decide) (hts _ wd_130) (fun _ h9 => h9) rfl (by decide +kernel) rfl rfl (Nat.le_of_ble_eq_true rfl) dX0_sit_2 (fun H locs hP hD hS => ?_)
  have hP := wrP (hp_12_2 G Z Y σ0 (some r1)) hP
  have hD := wrD (hp_12_2 G Z Y σ0 (some r1)) hD
  refine lv_aload_n hx hb dX0_sit_5 rfl (lv_at hl 0 rfl) ?_
  refine lv_aload_n hx hb dX0_sit_6 rfl (lv_at hl 2 rfl) ?_
  refine va_put (D := D) (ci := 1) (v := .ref (G.2.1 r2)) (ty := (.object "LiarHall$Text")) (C := RX0) (T := TX0) (N := 7) hx hb hts inU_X0 tyX0 tyX0_ok nmX0 hown hK hP hD hS _ (hg_12 G Z Y (sR σ0 12 2 (some r1))) rfl 3 (by decide) (hts _ wd_131) (fun _ h9 => h9) rfl (by decide +kernel) rfl rfl (Nat.le_of_ble_eq_true rfl) dX0_sit_7 (fun H locs hP hD hS => ?_)
  have hP := wrP (hp_12_3 G Z Y (sR σ0 12 2 (some r1)) (some r2)) hP
  have hD := wrD (hp_12_3 G Z Y (sR σ0 12 2 (some r1)) (some r2)) hD
  refine lv_aload_n hx hb dX0_sit_10 rfl (lv_at hl 0 rfl) ?_
  refine lv_iload_n hx hb dX0_sit_11 rfl (lv_at hl 3 rfl) ?_
  refine va_put (D := D) (ci := 1) (v := .int x3) (ty := .int) (C := RX0) (T := TX0) (N := 7) hx hb hts inU_X0 tyX0 tyX0_ok nmX0 hown hK hP hD hS _ (hg_12 G Z Y (sR (sR σ0 12 2 (some r1)) 12 3 (some r2))) rfl 4 (by decide) (hts _ wd_132) (fun _ h9 => h9) rfl (by decide +kernel) rfl rfl (Nat.le_of_ble_eq_true rfl) dX0_sit_12 (fun H locs hP hD hS => ?_)
  have hP := wrP (hp_12_4 G Z Y (sR (sR σ0 12 2 (some r1)) 12 3 (some r2)) x3) hP
  have hD := wrD (hp_12_4 G Z Y (sR (sR σ0 12 2 (some r1)) 12 3 (some r2)) x3) hD
  obtain rfl := Option.some.inj h
  exact W.vret hx hb hr (q_end hK hP hD hS) hS.2.2 dX0_sit_15
abbrev rm_X0_rounds : Room := { frames := 0, cells := 0, slots := 0, locals := 0 }
set_option maxRecDepth 100000 in
set_option maxHeartbeats 8000000 in
theorem c_X0_rounds (l : Launch) (D : va_G) (G : hG) (Z : hZ) (Y : va_W) (σ0 : hSt) (res : Int32) (h : f_X0_rounds Z σ0 = some res) : CT l yX0_rounds cX0_rounds 1 (some .int) rm_X0_rounds D G 0 0 [.ref (G.2.1 12)] (hW G Z Y σ0) (hW G Z Y σ0) (some (.int res)) := by
  unfold f_X0_rounds at h
  refine CT.mk (cc := cX0_rounds) (maxL := 1) (ret := (some .int)) (own := RX0) (plainFor_of_name (by decide)) rfl (Nat.le_of_ble_eq_true rfl) ?_
  intro p e s m args below meth c A ls C0 hnm hA hP hD hl
  obtain ⟨hx, hb, hr, hml, hown, hts, hlocks, hK, hE⟩ := id C0
  have hS : va_S A s.heap s.heap [] := va_S.rf
  have hl : lv_has ls 1 [(0, .ref (G.2.1 12))] := hl
  refine lv_aload_n hx hb dX0_rounds_0 rfl (lv_at hl 0 rfl) ?_
  refine va_get (D := D) (ci := 1) (v := va_rf (((σ0.2.2 12 2)).map G.2.1)) (C := RX0) (T := TX0) (N := 7) hx hb hts inU_X0 hown hK hP _ (hg_12 G Z Y σ0) rfl 2 (by decide) (hts _ wd_130) (fun _ h9 => h9) rfl dX0_rounds_1 ?_
  rcases f_o h with ⟨ho, h⟩ | ⟨r1, ho, h⟩
  · rw [ho]
    refine lv_ifnonnullN hx hb dX0_rounds_4 ?_
    refine lv_iconst (v := 0) hx hb dX0_rounds_7 (by decide) ?_
    refine lv_goto (tgt := 18) hx hb dX0_rounds_8 (by decide) ?_
    obtain rfl := Option.some.inj h
    exact W.iret (v := (0 : Int32)) hx hb hr (q_end hK hP hD hS) hS.2.2 dX0_rounds_18
  · rw [ho]
    obtain ⟨hr1, h⟩ := f_c h
    refine lv_ifnonnull (tgt := 11) hx hb dX0_rounds_4 (by decide) ?_
    refine lv_aload_n hx hb dX0_rounds_11 rfl (lv_at hl 0 rfl) ?_
    refine va_get (D := D) (ci := 1) (v := va_rf (((σ0.2.2 12 2)).map G.2.1)) (C := RX0) (T := TX0) (N := 7) hx hb hts inU_X0 hown hK hP _ (hg_12 G Z Y σ0) rfl 2 (by decide) (hts _ wd_130) (fun _ h9 => h9) rfl dX0_rounds_12 ?_
    rcases f_o h with ⟨ho, h⟩ | ⟨r2, ho, h⟩
    · rw [ho]
      cases h
    · rw [ho]
      obtain ⟨hr2, h⟩ := f_c h
      obtain ⟨qq3, hq3⟩ := hg_Sa G Z Y σ0 hr2
      refine va_getN (D := D) (ci := 5) (v := .int (Z.2.2.1 r2 2)) (C := RX4) (T := TX4) (N := 5) hx hb hts inU_X4 hown hK hP _ hq3 rfl 2 (by decide) (nF_use 12 hE rfl) (fun _ h9 => h9) rfl dX0_rounds_15 ?_
      obtain rfl := Option.some.inj h
      exact W.iret (v := (Z.2.2.1 r2 2)) hx hb hr (q_end hK hP hD hS) hS.2.2 dX0_rounds_18
abbrev rm_X0_steepOf : Room := { frames := 1, cells := 0, slots := 0, locals := 21 }
set_option maxRecDepth 100000 in
set_option maxHeartbeats 8000000 in
theorem c_X0_steepOf (l : Launch) (D : va_G) (G : hG) (Z : hZ) (Y : va_W) (σ0 : hSt) (x1 : Int32) (res : Int32) (h : f_X0_steepOf Z σ0 x1 = some res) : CT l yX0_steepOf cX0_steepOf 2 (some .int) rm_X0_steepOf D G 0 0 [.ref (G.2.1 12), .int x1] (hW G Z Y σ0) (hW G Z Y σ0) (some (.int res)) := by
  unfold f_X0_steepOf at h
  refine CT.mk (cc := cX0_steepOf) (maxL := 2) (ret := (some .int)) (own := RX0) (plainFor_of_name (by decide)) rfl (Nat.le_of_ble_eq_true rfl) ?_
  intro p e s m args below meth c A ls C0 hnm hA hP hD hl
  obtain ⟨hx, hb, hr, hml, hown, hts, hlocks, hK, hE⟩ := id C0
  have hS : va_S A s.heap s.heap [] := va_S.rf
  have hl : lv_has ls 2 [(0, .ref (G.2.1 12)), (1, .int x1)] := hl
  refine lv_aload_n hx hb dX0_steepOf_0 rfl (lv_at hl 0 rfl) ?_
  refine va_get (D := D) (ci := 1) (v := va_rf (((σ0.2.2 12 2)).map G.2.1)) (C := RX0) (T := TX0) (N := 7) hx hb hts inU_X0 hown hK hP _ (hg_12 G Z Y σ0) rfl 2 (by decide) (hts _ wd_130) (fun _ h9 => h9) rfl dX0_steepOf_1 ?_
  rcases f_o h with ⟨ho, h⟩ | ⟨r1, ho, h⟩
  · rw [ho]
    refine lv_ifnonnullN hx hb dX0_steepOf_4 ?_
    refine lv_iconst (v := 0) hx hb dX0_steepOf_7 (by decide) ?_
    refine lv_goto (tgt := 19) hx hb dX0_steepOf_8 (by decide) ?_
    obtain rfl := Option.some.inj h
    exact W.iret (v := (0 : Int32)) hx hb hr (q_end hK hP hD hS) hS.2.2 dX0_steepOf_19
  · rw [ho]
    obtain ⟨hr1, h⟩ := f_c h
    refine lv_ifnonnull (tgt := 11) hx hb dX0_steepOf_4 (by decide) ?_
    refine lv_aload_n hx hb dX0_steepOf_11 rfl (lv_at hl 0 rfl) ?_
    refine va_get (D := D) (ci := 1) (v := va_rf (((σ0.2.2 12 2)).map G.2.1)) (C := RX0) (T := TX0) (N := 7) hx hb hts inU_X0 hown hK hP _ (hg_12 G Z Y σ0) rfl 2 (by decide) (hts _ wd_130) (fun _ h9 => h9) rfl dX0_steepOf_12 ?_
    rcases f_o h with ⟨ho, h⟩ | ⟨r2, ho, h⟩
    · rw [ho]
      refine lv_iload_n hx hb dX0_steepOf_15 rfl (lv_at hl 1 rfl) ?_
      cases h
    · rw [ho]
      obtain ⟨hr2, h⟩ := f_c h
      refine lv_iload_n hx hb dX0_steepOf_15 rfl (lv_at hl 1 rfl) ?_
      obtain ⟨q3, hq3, h⟩ := f_b h
      obtain ⟨qq4, hq4⟩ := hg_Sa G Z Y σ0 hr2
      refine cl_V (w := (hW G Z Y σ0)) (w' := (hW G Z Y σ0)) (rv := some (.int q3)) (bytes := cX4_steepOf) (maxL := 2) (ret := (some .int)) (C := RX4) (As := [.int x1]) (rest := []) (stk := [.int q3]) ⟨hx, hb, hml, hown, hts⟩ hK hE hA hP hD hS (c_X4_steepOf l D G Z Y σ0 r2 hr2 x1 q3 hq3) (cwV 1 hts (gwV wd_899 wd_676 wd_677 wd_18 wd_678) rfl rfl rfl hd_X4_steepOf ⟨Nat.le_of_ble_eq_true rfl, Nat.le_of_ble_eq_true rfl⟩) hq4 rfl rfl rfl hl.1 rfl (Nat.le_of_ble_eq_true rfl) dX0_steepOf_16 ⟨Nat.zero_le _, Nat.zero_le _⟩ rfl (fun H locs hP hD hS => ?_)
      obtain rfl := Option.some.inj h
      exact W.iret (v := q3) hx hb hr (q_end hK hP hD hS) hS.2.2 dX0_steepOf_19
abbrev rm_X0_lawWorth : Room := { frames := 4, cells := 0, slots := 0, locals := 110 }
set_option maxRecDepth 100000 in
set_option maxHeartbeats 8000000 in
theorem c_X0_lawWorth (l : Launch) (D : va_G) (G : hG) (Z : hZ) (Y : va_W) (σ0 : hSt) (F : Nat) (x1 : Int32) (x2 : Int32) (res : (Int64 × hSt)) (h : f_X0_lawWorth F Z σ0 x1 x2 = some res) : CT l yX0_lawWorth cX0_lawWorth 3 (some .long) rm_X0_lawWorth D G 0 0 [.ref (G.2.1 12), .int x1, .int x2] (hW G Z Y σ0) (hW G Z Y res.2) (some (.long res.1)) := by
  unfold f_X0_lawWorth at h
  refine CT.mk (cc := cX0_lawWorth) (maxL := 3) (ret := (some .long)) (own := RX0) (plainFor_of_name (by decide)) rfl (Nat.le_of_ble_eq_true rfl) ?_
  intro p e s m args below meth c A ls C0 hnm hA hP hD hl
  obtain ⟨hx, hb, hr, hml, hown, hts, hlocks, hK, hE⟩ := id C0
  have hS : va_S A s.heap s.heap [] := va_S.rf
  have hl : lv_has ls 3 [(0, .ref (G.2.1 12)), (1, .int x1), (2, .int x2)] := hl
  refine lv_aload_n hx hb dX0_lawWorth_0 rfl (lv_at hl 0 rfl) ?_
  refine va_get (D := D) (ci := 1) (v := va_rf (((σ0.2.2 12 3)).map G.2.1)) (C := RX0) (T := TX0) (N := 7) hx hb hts inU_X0 hown hK hP _ (hg_12 G Z Y σ0) rfl 3 (by decide) (hts _ wd_131) (fun _ h9 => h9) rfl dX0_lawWorth_1 ?_
  rcases f_o h with ⟨ho, h⟩ | ⟨r1, ho, h⟩
  · rw [ho]
    refine lv_ifnonnullN hx hb dX0_lawWorth_4 ?_
    refine lv_lconst (v := 0) hx hb dX0_lawWorth_7 (by decide) ?_
    obtain rfl := Option.some.inj h
    exact W.lret (v := (0 : Int64)) hx hb hr (q_end hK hP hD hS) hS.2.2 dX0_lawWorth_8
  · rw [ho]
    obtain ⟨hr1, h⟩ := f_c h
    refine lv_ifnonnull (tgt := 9) hx hb dX0_lawWorth_4 (by decide) ?_
    refine lv_aload_n hx hb dX0_lawWorth_9 rfl (lv_at hl 0 rfl) ?_
    refine va_get (D := D) (ci := 1) (v := .ref (G.2.1 13)) (C := RX0) (T := TX0) (N := 7) hx hb hts inU_X0 hown hK hP _ (hg_12 G Z Y σ0) rfl 1 (by decide) (hts _ wd_129) (fun _ h9 => h9) rfl dX0_lawWorth_10 ?_
    refine lv_iconst (v := 4) hx hb dX0_lawWorth_13 (by decide) ?_
    refine lv_iload_n hx hb dX0_lawWorth_14 rfl (lv_at hl 2 rfl) ?_
    refine lv_i2l (v := (x2 : Int32).toInt64) hx hb dX0_lawWorth_15 rfl ?_
    obtain ⟨c2, h⟩ := f_n h
    refine va_last hx hb hK hP hD hS _ 1 (hg_13 G Z Y σ0) rfl c2 dX0_lawWorth_16 (fun H locs hP hD hS => ?_)
    have hP := wrP (hp_13 G Z Y σ0 _ _) hP
    have hD := wrD (hp_13 G Z Y σ0 _ _) hD
    refine lv_aload_n hx hb dX0_lawWorth_17 rfl (lv_at hl 0 rfl) ?_
    refine va_get (D := D) (ci := 1) (v := .ref (G.2.1 13)) (C := RX0) (T := TX0) (N := 7) hx hb hts inU_X0 hown hK hP _ (hg_12 G Z Y (sJ σ0 13 (((4 : Int32) : Int32).toNatClampNeg) ((x2 : Int32).toInt64))) rfl 1 (by decide) (hts _ wd_129) (fun _ h9 => h9) rfl dX0_lawWorth_18 ?_
    refine lv_bipush (v := 6) hx hb dX0_lawWorth_21 (by decide) ?_
    refine lv_aload_n hx hb dX0_lawWorth_23 rfl (lv_at hl 0 rfl) ?_
    obtain ⟨q3, hq3, h⟩ := f_b h
    refine cl_V (w := (hW G Z Y (sJ σ0 13 (((4 : Int32) : Int32).toNatClampNeg) ((x2 : Int32).toInt64)))) (w' := (hW G Z Y (sJ σ0 13 (((4 : Int32) : Int32).toNatClampNeg) ((x2 : Int32).toInt64)))) (rv := some (.int q3)) (bytes := cX0_rounds) (maxL := 1) (ret := (some .int)) (C := RX0) (As := []) (rest := [.int (6 : Int32), .ref (G.2.1 13)]) (stk := [.int q3, .int (6 : Int32), .ref (G.2.1 13)]) ⟨hx, hb, hml, hown, hts⟩ hK hE hA hP hD hS (c_X0_rounds l D G Z Y (sJ σ0 13 (((4 : Int32) : Int32).toNatClampNeg) ((x2 : Int32).toInt64)) q3 hq3) (cwV 0 hts (gwV wd_891 wd_893 wp_32 wd_6 wd_894) rfl rfl rfl hd_X0_rounds ⟨Nat.le_of_ble_eq_true rfl, Nat.le_of_ble_eq_true rfl⟩) (hg_12 G Z Y (sJ σ0 13 (((4 : Int32) : Int32).toNatClampNeg) ((x2 : Int32).toInt64))) rfl rfl rfl hl.1 rfl (Nat.le_of_ble_eq_true rfl) dX0_lawWorth_24 ⟨Nat.zero_le _, Nat.zero_le _⟩ rfl (fun H locs hP hD hS => ?_)
    refine lv_i2l (v := (q3 : Int32).toInt64) hx hb dX0_lawWorth_27 rfl ?_
    obtain ⟨c4, h⟩ := f_n h
    refine va_last hx hb hK hP hD hS _ 1 (hg_13 G Z Y (sJ σ0 13 (((4 : Int32) : Int32).toNatClampNeg) ((x2 : Int32).toInt64))) rfl c4 dX0_lawWorth_28 (fun H locs hP hD hS => ?_)
    have hP := wrP (hp_13 G Z Y (sJ σ0 13 (((4 : Int32) : Int32).toNatClampNeg) ((x2 : Int32).toInt64)) _ _) hP
    have hD := wrD (hp_13 G Z Y (sJ σ0 13 (((4 : Int32) : Int32).toNatClampNeg) ((x2 : Int32).toInt64)) _ _) hD
    refine lv_aload_n hx hb dX0_lawWorth_29 rfl (lv_at hl 0 rfl) ?_
    refine va_get (D := D) (ci := 1) (v := .ref (G.2.1 13)) (C := RX0) (T := TX0) (N := 7) hx hb hts inU_X0 hown hK hP _ (hg_12 G Z Y (sJ (sJ σ0 13 (((4 : Int32) : Int32).toNatClampNeg) ((x2 : Int32).toInt64)) 13 (((6 : Int32) : Int32).toNatClampNeg) ((q3 : Int32).toInt64))) rfl 1 (by decide) (hts _ wd_129) (fun _ h9 => h9) rfl dX0_lawWorth_30 ?_
    refine lv_bipush (v := 7) hx hb dX0_lawWorth_33 (by decide) ?_
    refine lv_aload_n hx hb dX0_lawWorth_35 rfl (lv_at hl 0 rfl) ?_
    refine va_get (D := D) (ci := 1) (v := .int (σ0.1 12 4)) (C := RX0) (T := TX0) (N := 7) hx hb hts inU_X0 hown hK hP _ (hg_12 G Z Y (sJ (sJ σ0 13 (((4 : Int32) : Int32).toNatClampNeg) ((x2 : Int32).toInt64)) 13 (((6 : Int32) : Int32).toNatClampNeg) ((q3 : Int32).toInt64))) rfl 4 (by decide) (hts _ wd_132) (fun _ h9 => h9) rfl dX0_lawWorth_36 ?_
    refine lv_i2l (v := ((σ0.1 12 4) : Int32).toInt64) hx hb dX0_lawWorth_39 rfl ?_
    obtain ⟨c5, h⟩ := f_n h
    refine va_last hx hb hK hP hD hS _ 1 (hg_13 G Z Y (sJ (sJ σ0 13 (((4 : Int32) : Int32).toNatClampNeg) ((x2 : Int32).toInt64)) 13 (((6 : Int32) : Int32).toNatClampNeg) ((q3 : Int32).toInt64))) rfl c5 dX0_lawWorth_40 (fun H locs hP hD hS => ?_)
    have hP := wrP (hp_13 G Z Y (sJ (sJ σ0 13 (((4 : Int32) : Int32).toNatClampNeg) ((x2 : Int32).toInt64)) 13 (((6 : Int32) : Int32).toNatClampNeg) ((q3 : Int32).toInt64)) _ _) hP
    have hD := wrD (hp_13 G Z Y (sJ (sJ σ0 13 (((4 : Int32) : Int32).toNatClampNeg) ((x2 : Int32).toInt64)) 13 (((6 : Int32) : Int32).toNatClampNeg) ((q3 : Int32).toInt64)) _ _) hD
    refine lv_aload_n hx hb dX0_lawWorth_41 rfl (lv_at hl 0 rfl) ?_
    refine va_get (D := D) (ci := 1) (v := .ref (G.2.1 13)) (C := RX0) (T := TX0) (N := 7) hx hb hts inU_X0 hown hK hP _ (hg_12 G Z Y (sJ (sJ (sJ σ0 13 (((4 : Int32) : Int32).toNatClampNeg) ((x2 : Int32).toInt64)) 13 (((6 : Int32) : Int32).toNatClampNeg) ((q3 : Int32).toInt64)) 13 (((7 : Int32) : Int32).toNatClampNeg) (((σ0.1 12 4) : Int32).toInt64))) rfl 1 (by decide) (hts _ wd_129) (fun _ h9 => h9) rfl dX0_lawWorth_42 ?_
    refine lv_bipush (v := 9) hx hb dX0_lawWorth_45 (by decide) ?_
    refine lv_iload_n hx hb dX0_lawWorth_47 rfl (lv_at hl 2 rfl) ?_
    refine lv_aload_n hx hb dX0_lawWorth_48 rfl (lv_at hl 0 rfl) ?_
    obtain ⟨q6, hq6, h⟩ := f_b h
    refine cl_V (w := (hW G Z Y (sJ (sJ (sJ σ0 13 (((4 : Int32) : Int32).toNatClampNeg) ((x2 : Int32).toInt64)) 13 (((6 : Int32) : Int32).toNatClampNeg) ((q3 : Int32).toInt64)) 13 (((7 : Int32) : Int32).toNatClampNeg) (((σ0.1 12 4) : Int32).toInt64)))) (w' := (hW G Z Y (sJ (sJ (sJ σ0 13 (((4 : Int32) : Int32).toNatClampNeg) ((x2 : Int32).toInt64)) 13 (((6 : Int32) : Int32).toNatClampNeg) ((q3 : Int32).toInt64)) 13 (((7 : Int32) : Int32).toNatClampNeg) (((σ0.1 12 4) : Int32).toInt64)))) (rv := some (.int q6)) (bytes := cX0_rounds) (maxL := 1) (ret := (some .int)) (C := RX0) (As := []) (rest := [.int x2, .int (9 : Int32), .ref (G.2.1 13)]) (stk := [.int q6, .int x2, .int (9 : Int32), .ref (G.2.1 13)]) ⟨hx, hb, hml, hown, hts⟩ hK hE hA hP hD hS (c_X0_rounds l D G Z Y (sJ (sJ (sJ σ0 13 (((4 : Int32) : Int32).toNatClampNeg) ((x2 : Int32).toInt64)) 13 (((6 : Int32) : Int32).toNatClampNeg) ((q3 : Int32).toInt64)) 13 (((7 : Int32) : Int32).toNatClampNeg) (((σ0.1 12 4) : Int32).toInt64)) q6 hq6) (cwV 0 hts (gwV wd_891 wd_893 wp_32 wd_6 wd_894) rfl rfl rfl hd_X0_rounds ⟨Nat.le_of_ble_eq_true rfl, Nat.le_of_ble_eq_true rfl⟩) (hg_12 G Z Y (sJ (sJ (sJ σ0 13 (((4 : Int32) : Int32).toNatClampNeg) ((x2 : Int32).toInt64)) 13 (((6 : Int32) : Int32).toNatClampNeg) ((q3 : Int32).toInt64)) 13 (((7 : Int32) : Int32).toNatClampNeg) (((σ0.1 12 4) : Int32).toInt64))) rfl rfl rfl hl.1 rfl (Nat.le_of_ble_eq_true rfl) dX0_lawWorth_49 ⟨Nat.zero_le _, Nat.zero_le _⟩ rfl (fun H locs hP hD hS => ?_)
    refine lv_icmp_ge (tgt := 64) hx hb dX0_lawWorth_52 (by decide) (fun c7 => ?_) (fun c7 => ?_)
    · skip
      have h := f_t c7 h
      refine lv_lconst (v := 0) hx hb dX0_lawWorth_64 (by decide) ?_
      obtain ⟨c8, h⟩ := f_n h
      refine va_last hx hb hK hP hD hS _ 1 (hg_13 G Z Y (sJ (sJ (sJ σ0 13 (((4 : Int32) : Int32).toNatClampNeg) ((x2 : Int32).toInt64)) 13 (((6 : Int32) : Int32).toNatClampNeg) ((q3 : Int32).toInt64)) 13 (((7 : Int32) : Int32).toNatClampNeg) (((σ0.1 12 4) : Int32).toInt64))) rfl c8 dX0_lawWorth_65 (fun H locs hP hD hS => ?_)
      have hP := wrP (hp_13 G Z Y (sJ (sJ (sJ σ0 13 (((4 : Int32) : Int32).toNatClampNeg) ((x2 : Int32).toInt64)) 13 (((6 : Int32) : Int32).toNatClampNeg) ((q3 : Int32).toInt64)) 13 (((7 : Int32) : Int32).toNatClampNeg) (((σ0.1 12 4) : Int32).toInt64)) _ _) hP
      have hD := wrD (hp_13 G Z Y (sJ (sJ (sJ σ0 13 (((4 : Int32) : Int32).toNatClampNeg) ((x2 : Int32).toInt64)) 13 (((6 : Int32) : Int32).toNatClampNeg) ((q3 : Int32).toInt64)) 13 (((7 : Int32) : Int32).toNatClampNeg) (((σ0.1 12 4) : Int32).toInt64)) _ _) hD
      refine lv_aload_n hx hb dX0_lawWorth_66 rfl (lv_at hl 0 rfl) ?_
      refine va_get (D := D) (ci := 1) (v := .ref (G.2.1 7)) (C := RX0) (T := TX0) (N := 7) hx hb hts inU_X0 hown hK hP _ (hg_12 G Z Y (sJ (sJ (sJ (sJ σ0 13 (((4 : Int32) : Int32).toNatClampNeg) ((x2 : Int32).toInt64)) 13 (((6 : Int32) : Int32).toNatClampNeg) ((q3 : Int32).toInt64)) 13 (((7 : Int32) : Int32).toNatClampNeg) (((σ0.1 12 4) : Int32).toInt64)) 13 (((9 : Int32) : Int32).toNatClampNeg) (0 : Int64))) rfl 0 (by decide) (hts _ wd_128) (fun _ h9 => h9) rfl dX0_lawWorth_67 ?_
      refine lv_aload_n hx hb dX0_lawWorth_70 rfl (lv_at hl 0 rfl) ?_
      refine va_get (D := D) (ci := 1) (v := va_rf (((σ0.2.2 12 3)).map G.2.1)) (C := RX0) (T := TX0) (N := 7) hx hb hts inU_X0 hown hK hP _ (hg_12 G Z Y (sJ (sJ (sJ (sJ σ0 13 (((4 : Int32) : Int32).toNatClampNeg) ((x2 : Int32).toInt64)) 13 (((6 : Int32) : Int32).toNatClampNeg) ((q3 : Int32).toInt64)) 13 (((7 : Int32) : Int32).toNatClampNeg) (((σ0.1 12 4) : Int32).toInt64)) 13 (((9 : Int32) : Int32).toNatClampNeg) (0 : Int64))) rfl 3 (by decide) (hts _ wd_131) (fun _ h9 => h9) rfl dX0_lawWorth_71 ?_
      rcases f_o h with ⟨ho, h⟩ | ⟨r9, ho, h⟩
      · rw [ho]
        refine lv_iload_n hx hb dX0_lawWorth_74 rfl (lv_at hl 1 rfl) ?_
        refine lv_aload_n hx hb dX0_lawWorth_75 rfl (lv_at hl 0 rfl) ?_
        refine va_get (D := D) (ci := 1) (v := .ref (G.2.1 13)) (C := RX0) (T := TX0) (N := 7) hx hb hts inU_X0 hown hK hP _ (hg_12 G Z Y (sJ (sJ (sJ (sJ σ0 13 (((4 : Int32) : Int32).toNatClampNeg) ((x2 : Int32).toInt64)) 13 (((6 : Int32) : Int32).toNatClampNeg) ((q3 : Int32).toInt64)) 13 (((7 : Int32) : Int32).toNatClampNeg) (((σ0.1 12 4) : Int32).toInt64)) 13 (((9 : Int32) : Int32).toNatClampNeg) (0 : Int64))) rfl 1 (by decide) (hts _ wd_129) (fun _ h9 => h9) rfl dX0_lawWorth_76 ?_
        cases h
      · rw [ho]
        obtain ⟨hr9, h⟩ := f_c h
        refine lv_iload_n hx hb dX0_lawWorth_74 rfl (lv_at hl 1 rfl) ?_
        refine lv_aload_n hx hb dX0_lawWorth_75 rfl (lv_at hl 0 rfl) ?_
        refine va_get (D := D) (ci := 1) (v := .ref (G.2.1 13)) (C := RX0) (T := TX0) (N := 7) hx hb hts inU_X0 hown hK hP _ (hg_12 G Z Y (sJ (sJ (sJ (sJ σ0 13 (((4 : Int32) : Int32).toNatClampNeg) ((x2 : Int32).toInt64)) 13 (((6 : Int32) : Int32).toNatClampNeg) ((q3 : Int32).toInt64)) 13 (((7 : Int32) : Int32).toNatClampNeg) (((σ0.1 12 4) : Int32).toInt64)) 13 (((9 : Int32) : Int32).toNatClampNeg) (0 : Int64))) rfl 1 (by decide) (hts _ wd_129) (fun _ h9 => h9) rfl dX0_lawWorth_76 ?_
        obtain ⟨q10, hq10, h⟩ := f_b h
        refine cl_V (w := (hW G Z Y (sJ (sJ (sJ (sJ σ0 13 (((4 : Int32) : Int32).toNatClampNeg) ((x2 : Int32).toInt64)) 13 (((6 : Int32) : Int32).toNatClampNeg) ((q3 : Int32).toInt64)) 13 (((7 : Int32) : Int32).toNatClampNeg) (((σ0.1 12 4) : Int32).toInt64)) 13 (((9 : Int32) : Int32).toNatClampNeg) (0 : Int64)))) (w' := (hW G Z Y q10.2)) (rv := some (.long q10.1)) (bytes := cX3_labelWorth) (maxL := 10) (ret := (some .long)) (C := RX3) (As := [.ref (G.2.1 r9), .int x1, .ref (G.2.1 13)]) (rest := []) (stk := [.long q10.1]) ⟨hx, hb, hml, hown, hts⟩ hK hE hA hP hD hS (c_X3_labelWorth l D G Z Y (sJ (sJ (sJ (sJ σ0 13 (((4 : Int32) : Int32).toNatClampNeg) ((x2 : Int32).toInt64)) 13 (((6 : Int32) : Int32).toNatClampNeg) ((q3 : Int32).toInt64)) 13 (((7 : Int32) : Int32).toNatClampNeg) (((σ0.1 12 4) : Int32).toInt64)) 13 (((9 : Int32) : Int32).toNatClampNeg) (0 : Int64)) F r9 hr9 x1 13 (rfl : isJ 13 = true) q10 hq10) (cwV 3 hts (gwV wd_900 wd_832 wd_833 wd_5 wd_834) rfl rfl rfl hd_X3_labelWorth ⟨Nat.le_of_ble_eq_true rfl, Nat.le_of_ble_eq_true rfl⟩) (hg_7 G Z Y (sJ (sJ (sJ (sJ σ0 13 (((4 : Int32) : Int32).toNatClampNeg) ((x2 : Int32).toInt64)) 13 (((6 : Int32) : Int32).toNatClampNeg) ((q3 : Int32).toInt64)) 13 (((7 : Int32) : Int32).toNatClampNeg) (((σ0.1 12 4) : Int32).toInt64)) 13 (((9 : Int32) : Int32).toNatClampNeg) (0 : Int64))) rfl rfl rfl hl.1 rfl (Nat.le_of_ble_eq_true rfl) dX0_lawWorth_79 ⟨Nat.zero_le _, Nat.zero_le _⟩ rfl (fun H locs hP hD hS => ?_)
        obtain rfl := Option.some.inj h
        exact W.lret (v := q10.1) hx hb hr (q_end hK hP hD hS) hS.2.2 dX0_lawWorth_82
    · skip
      have h := f_f c7 h
      refine lv_aload_n hx hb dX0_lawWorth_55 rfl (lv_at hl 0 rfl) ?_
      refine lv_iload_n hx hb dX0_lawWorth_56 rfl (lv_at hl 2 rfl) ?_
      obtain ⟨q11, hq11, h⟩ := f_b h
      refine cl_V (w := (hW G Z Y (sJ (sJ (sJ σ0 13 (((4 : Int32) : Int32).toNatClampNeg) ((x2 : Int32).toInt64)) 13 (((6 : Int32) : Int32).toNatClampNeg) ((q3 : Int32).toInt64)) 13 (((7 : Int32) : Int32).toNatClampNeg) (((σ0.1 12 4) : Int32).toInt64)))) (w' := (hW G Z Y (sJ (sJ (sJ σ0 13 (((4 : Int32) : Int32).toNatClampNeg) ((x2 : Int32).toInt64)) 13 (((6 : Int32) : Int32).toNatClampNeg) ((q3 : Int32).toInt64)) 13 (((7 : Int32) : Int32).toNatClampNeg) (((σ0.1 12 4) : Int32).toInt64)))) (rv := some (.int q11)) (bytes := cX0_steepOf) (maxL := 2) (ret := (some .int)) (C := RX0) (As := [.int x2]) (rest := [.int (9 : Int32), .ref (G.2.1 13)]) (stk := [.int q11, .int (9 : Int32), .ref (G.2.1 13)]) ⟨hx, hb, hml, hown, hts⟩ hK hE hA hP hD hS (c_X0_steepOf l D G Z Y (sJ (sJ (sJ σ0 13 (((4 : Int32) : Int32).toNatClampNeg) ((x2 : Int32).toInt64)) 13 (((6 : Int32) : Int32).toNatClampNeg) ((q3 : Int32).toInt64)) 13 (((7 : Int32) : Int32).toNatClampNeg) (((σ0.1 12 4) : Int32).toInt64)) x2 q11 hq11) (cwV 1 hts (gwV wd_895 wd_897 wp_33 wd_6 wd_898) rfl rfl rfl hd_X0_steepOf ⟨Nat.le_of_ble_eq_true rfl, Nat.le_of_ble_eq_true rfl⟩) (hg_12 G Z Y (sJ (sJ (sJ σ0 13 (((4 : Int32) : Int32).toNatClampNeg) ((x2 : Int32).toInt64)) 13 (((6 : Int32) : Int32).toNatClampNeg) ((q3 : Int32).toInt64)) 13 (((7 : Int32) : Int32).toNatClampNeg) (((σ0.1 12 4) : Int32).toInt64))) rfl rfl rfl hl.1 rfl (Nat.le_of_ble_eq_true rfl) dX0_lawWorth_57 ⟨Nat.zero_le _, Nat.zero_le _⟩ rfl (fun H locs hP hD hS => ?_)
      refine lv_i2l (v := (q11 : Int32).toInt64) hx hb dX0_lawWorth_60 rfl ?_
      refine lv_goto (tgt := 65) hx hb dX0_lawWorth_61 (by decide) ?_
      obtain ⟨c12, h⟩ := f_n h
      refine va_last hx hb hK hP hD hS _ 1 (hg_13 G Z Y (sJ (sJ (sJ σ0 13 (((4 : Int32) : Int32).toNatClampNeg) ((x2 : Int32).toInt64)) 13 (((6 : Int32) : Int32).toNatClampNeg) ((q3 : Int32).toInt64)) 13 (((7 : Int32) : Int32).toNatClampNeg) (((σ0.1 12 4) : Int32).toInt64))) rfl c12 dX0_lawWorth_65 (fun H locs hP hD hS => ?_)
      have hP := wrP (hp_13 G Z Y (sJ (sJ (sJ σ0 13 (((4 : Int32) : Int32).toNatClampNeg) ((x2 : Int32).toInt64)) 13 (((6 : Int32) : Int32).toNatClampNeg) ((q3 : Int32).toInt64)) 13 (((7 : Int32) : Int32).toNatClampNeg) (((σ0.1 12 4) : Int32).toInt64)) _ _) hP
      have hD := wrD (hp_13 G Z Y (sJ (sJ (sJ σ0 13 (((4 : Int32) : Int32).toNatClampNeg) ((x2 : Int32).toInt64)) 13 (((6 : Int32) : Int32).toNatClampNeg) ((q3 : Int32).toInt64)) 13 (((7 : Int32) : Int32).toNatClampNeg) (((σ0.1 12 4) : Int32).toInt64)) _ _) hD
      refine lv_aload_n hx hb dX0_lawWorth_66 rfl (lv_at hl 0 rfl) ?_
      refine va_get (D := D) (ci := 1) (v := .ref (G.2.1 7)) (C := RX0) (T := TX0) (N := 7) hx hb hts inU_X0 hown hK hP _ (hg_12 G Z Y (sJ (sJ (sJ (sJ σ0 13 (((4 : Int32) : Int32).toNatClampNeg) ((x2 : Int32).toInt64)) 13 (((6 : Int32) : Int32).toNatClampNeg) ((q3 : Int32).toInt64)) 13 (((7 : Int32) : Int32).toNatClampNeg) (((σ0.1 12 4) : Int32).toInt64)) 13 (((9 : Int32) : Int32).toNatClampNeg) ((q11 : Int32).toInt64))) rfl 0 (by decide) (hts _ wd_128) (fun _ h9 => h9) rfl dX0_lawWorth_67 ?_
      refine lv_aload_n hx hb dX0_lawWorth_70 rfl (lv_at hl 0 rfl) ?_
      refine va_get (D := D) (ci := 1) (v := va_rf (((σ0.2.2 12 3)).map G.2.1)) (C := RX0) (T := TX0) (N := 7) hx hb hts inU_X0 hown hK hP _ (hg_12 G Z Y (sJ (sJ (sJ (sJ σ0 13 (((4 : Int32) : Int32).toNatClampNeg) ((x2 : Int32).toInt64)) 13 (((6 : Int32) : Int32).toNatClampNeg) ((q3 : Int32).toInt64)) 13 (((7 : Int32) : Int32).toNatClampNeg) (((σ0.1 12 4) : Int32).toInt64)) 13 (((9 : Int32) : Int32).toNatClampNeg) ((q11 : Int32).toInt64))) rfl 3 (by decide) (hts _ wd_131) (fun _ h9 => h9) rfl dX0_lawWorth_71 ?_
      rcases f_o h with ⟨ho, h⟩ | ⟨r13, ho, h⟩
      · rw [ho]
        refine lv_iload_n hx hb dX0_lawWorth_74 rfl (lv_at hl 1 rfl) ?_
        refine lv_aload_n hx hb dX0_lawWorth_75 rfl (lv_at hl 0 rfl) ?_
        refine va_get (D := D) (ci := 1) (v := .ref (G.2.1 13)) (C := RX0) (T := TX0) (N := 7) hx hb hts inU_X0 hown hK hP _ (hg_12 G Z Y (sJ (sJ (sJ (sJ σ0 13 (((4 : Int32) : Int32).toNatClampNeg) ((x2 : Int32).toInt64)) 13 (((6 : Int32) : Int32).toNatClampNeg) ((q3 : Int32).toInt64)) 13 (((7 : Int32) : Int32).toNatClampNeg) (((σ0.1 12 4) : Int32).toInt64)) 13 (((9 : Int32) : Int32).toNatClampNeg) ((q11 : Int32).toInt64))) rfl 1 (by decide) (hts _ wd_129) (fun _ h9 => h9) rfl dX0_lawWorth_76 ?_
        cases h
      · rw [ho]
        obtain ⟨hr13, h⟩ := f_c h
        refine lv_iload_n hx hb dX0_lawWorth_74 rfl (lv_at hl 1 rfl) ?_
        refine lv_aload_n hx hb dX0_lawWorth_75 rfl (lv_at hl 0 rfl) ?_
        refine va_get (D := D) (ci := 1) (v := .ref (G.2.1 13)) (C := RX0) (T := TX0) (N := 7) hx hb hts inU_X0 hown hK hP _ (hg_12 G Z Y (sJ (sJ (sJ (sJ σ0 13 (((4 : Int32) : Int32).toNatClampNeg) ((x2 : Int32).toInt64)) 13 (((6 : Int32) : Int32).toNatClampNeg) ((q3 : Int32).toInt64)) 13 (((7 : Int32) : Int32).toNatClampNeg) (((σ0.1 12 4) : Int32).toInt64)) 13 (((9 : Int32) : Int32).toNatClampNeg) ((q11 : Int32).toInt64))) rfl 1 (by decide) (hts _ wd_129) (fun _ h9 => h9) rfl dX0_lawWorth_76 ?_
        obtain ⟨q14, hq14, h⟩ := f_b h
        refine cl_V (w := (hW G Z Y (sJ (sJ (sJ (sJ σ0 13 (((4 : Int32) : Int32).toNatClampNeg) ((x2 : Int32).toInt64)) 13 (((6 : Int32) : Int32).toNatClampNeg) ((q3 : Int32).toInt64)) 13 (((7 : Int32) : Int32).toNatClampNeg) (((σ0.1 12 4) : Int32).toInt64)) 13 (((9 : Int32) : Int32).toNatClampNeg) ((q11 : Int32).toInt64)))) (w' := (hW G Z Y q14.2)) (rv := some (.long q14.1)) (bytes := cX3_labelWorth) (maxL := 10) (ret := (some .long)) (C := RX3) (As := [.ref (G.2.1 r13), .int x1, .ref (G.2.1 13)]) (rest := []) (stk := [.long q14.1]) ⟨hx, hb, hml, hown, hts⟩ hK hE hA hP hD hS (c_X3_labelWorth l D G Z Y (sJ (sJ (sJ (sJ σ0 13 (((4 : Int32) : Int32).toNatClampNeg) ((x2 : Int32).toInt64)) 13 (((6 : Int32) : Int32).toNatClampNeg) ((q3 : Int32).toInt64)) 13 (((7 : Int32) : Int32).toNatClampNeg) (((σ0.1 12 4) : Int32).toInt64)) 13 (((9 : Int32) : Int32).toNatClampNeg) ((q11 : Int32).toInt64)) F r13 hr13 x1 13 (rfl : isJ 13 = true) q14 hq14) (cwV 3 hts (gwV wd_900 wd_832 wd_833 wd_5 wd_834) rfl rfl rfl hd_X3_labelWorth ⟨Nat.le_of_ble_eq_true rfl, Nat.le_of_ble_eq_true rfl⟩) (hg_7 G Z Y (sJ (sJ (sJ (sJ σ0 13 (((4 : Int32) : Int32).toNatClampNeg) ((x2 : Int32).toInt64)) 13 (((6 : Int32) : Int32).toNatClampNeg) ((q3 : Int32).toInt64)) 13 (((7 : Int32) : Int32).toNatClampNeg) (((σ0.1 12 4) : Int32).toInt64)) 13 (((9 : Int32) : Int32).toNatClampNeg) ((q11 : Int32).toInt64))) rfl rfl rfl hl.1 rfl (Nat.le_of_ble_eq_true rfl) dX0_lawWorth_79 ⟨Nat.zero_le _, Nat.zero_le _⟩ rfl (fun H locs hP hD hS => ?_)
        obtain rfl := Option.some.inj h
        exact W.lret (v := q14.1) hx hb hr (q_end hK hP hD hS) hS.2.2 dX0_lawWorth_82
abbrev rm_X0_asksForSum : Room := { frames := 5, cells := 0, slots := 0, locals := 132 }
set_option maxRecDepth 100000 in
set_option maxHeartbeats 8000000 in
theorem c_X0_asksForSum (l : Launch) (D : va_G) (G : hG) (Z : hZ) (Y : va_W) (σ0 : hSt) (F : Nat) (x1 : Int32) (res : (Int32 × hSt)) (h : f_X0_asksForSum F Z σ0 x1 = some res) : CT l yX0_asksForSum cX0_asksForSum 2 (some .boolean) rm_X0_asksForSum D G 0 0 [.ref (G.2.1 12), .int x1] (hW G Z Y σ0) (hW G Z Y res.2) (some (.int res.1)) := by
  unfold f_X0_asksForSum at h
  refine CT.mk (cc := cX0_asksForSum) (maxL := 2) (ret := (some .boolean)) (own := RX0) (plainFor_of_name (by decide)) rfl (Nat.le_of_ble_eq_true rfl) ?_
  intro p e s m args below meth c A ls C0 hnm hA hP hD hl
  obtain ⟨hx, hb, hr, hml, hown, hts, hlocks, hK, hE⟩ := id C0
  have hS : va_S A s.heap s.heap [] := va_S.rf
  have hl : lv_has ls 2 [(0, .ref (G.2.1 12)), (1, .int x1)] := hl
  refine lv_aload_n hx hb dX0_asksForSum_0 rfl (lv_at hl 0 rfl) ?_
  refine lv_bipush (v := 99) hx hb dX0_asksForSum_1 (by decide) ?_
  refine lv_iload_n hx hb dX0_asksForSum_3 rfl (lv_at hl 1 rfl) ?_
  obtain ⟨q1, hq1, h⟩ := f_b h
  refine cl_V (w := (hW G Z Y σ0)) (w' := (hW G Z Y q1.2)) (rv := some (.long q1.1)) (bytes := cX0_lawWorth) (maxL := 3) (ret := (some .long)) (C := RX0) (As := [.int (99 : Int32), .int x1]) (rest := []) (stk := [.long q1.1]) ⟨hx, hb, hml, hown, hts⟩ hK hE hA hP hD hS (c_X0_lawWorth l D G Z Y σ0 F (99 : Int32) x1 q1 hq1) (cwV 2 hts (gwV wd_887 wd_889 wp_31 wd_6 wd_890) rfl rfl rfl hd_X0_lawWorth ⟨Nat.le_of_ble_eq_true rfl, Nat.le_of_ble_eq_true rfl⟩) (hg_12 G Z Y σ0) rfl rfl rfl hl.1 rfl (Nat.le_of_ble_eq_true rfl) dX0_asksForSum_4 ⟨Nat.zero_le _, Nat.zero_le _⟩ rfl (fun H locs hP hD hS => ?_)
  refine lv_lconst (v := 0) hx hb dX0_asksForSum_7 (by decide) ?_
  refine W.lcmp hx hb dX0_asksForSum_8 ?_
  refine lv_if_eq (tgt := 16) hx hb dX0_asksForSum_9 (by decide) (fun c2 => ?_) (fun c2 => ?_)
  · skip
    have c2 := (lg_cmp_eq _ _).mp c2
    have h := f_t c2 h
    refine lv_iconst (v := 0) hx hb dX0_asksForSum_16 (by decide) ?_
    obtain rfl := Option.some.inj h
    exact W.zret (v := (0 : Int32)) hx hb hr rfl (q_end hK hP hD hS) hS.2.2 dX0_asksForSum_17
  · skip
    have c2 := mt (lg_cmp_eq _ _).mpr c2
    have h := f_f c2 h
    refine lv_iconst (v := 1) hx hb dX0_asksForSum_12 (by decide) ?_
    refine lv_goto (tgt := 17) hx hb dX0_asksForSum_13 (by decide) ?_
    obtain rfl := Option.some.inj h
    exact W.zret (v := (1 : Int32)) hx hb hr rfl (q_end hK hP hD hS) hS.2.2 dX0_asksForSum_17
abbrev rm_X0_asksAtEnd : Room := { frames := 5, cells := 0, slots := 0, locals := 132 }
set_option maxRecDepth 100000 in
set_option maxHeartbeats 8000000 in
theorem c_X0_asksAtEnd (l : Launch) (D : va_G) (G : hG) (Z : hZ) (Y : va_W) (σ0 : hSt) (F : Nat) (res : (Int32 × hSt)) (h : f_X0_asksAtEnd F Z σ0 = some res) : CT l yX0_asksAtEnd cX0_asksAtEnd 1 (some .boolean) rm_X0_asksAtEnd D G 0 0 [.ref (G.2.1 12)] (hW G Z Y σ0) (hW G Z Y res.2) (some (.int res.1)) := by
  unfold f_X0_asksAtEnd at h
  refine CT.mk (cc := cX0_asksAtEnd) (maxL := 1) (ret := (some .boolean)) (own := RX0) (plainFor_of_name (by decide)) rfl (Nat.le_of_ble_eq_true rfl) ?_
  intro p e s m args below meth c A ls C0 hnm hA hP hD hl
  obtain ⟨hx, hb, hr, hml, hown, hts, hlocks, hK, hE⟩ := id C0
  have hS : va_S A s.heap s.heap [] := va_S.rf
  have hl : lv_has ls 1 [(0, .ref (G.2.1 12))] := hl
  refine lv_aload_n hx hb dX0_asksAtEnd_0 rfl (lv_at hl 0 rfl) ?_
  refine lv_bipush (v := 101) hx hb dX0_asksAtEnd_1 (by decide) ?_
  refine lv_aload_n hx hb dX0_asksAtEnd_3 rfl (lv_at hl 0 rfl) ?_
  obtain ⟨q1, hq1, h⟩ := f_b h
  refine cl_V (w := (hW G Z Y σ0)) (w' := (hW G Z Y σ0)) (rv := some (.int q1)) (bytes := cX0_rounds) (maxL := 1) (ret := (some .int)) (C := RX0) (As := []) (rest := [.int (101 : Int32), .ref (G.2.1 12)]) (stk := [.int q1, .int (101 : Int32), .ref (G.2.1 12)]) ⟨hx, hb, hml, hown, hts⟩ hK hE hA hP hD hS (c_X0_rounds l D G Z Y σ0 q1 hq1) (cwV 0 hts (gwV wd_891 wd_893 wp_32 wd_6 wd_894) rfl rfl rfl hd_X0_rounds ⟨Nat.le_of_ble_eq_true rfl, Nat.le_of_ble_eq_true rfl⟩) (hg_12 G Z Y σ0) rfl rfl rfl hl.1 rfl (Nat.le_of_ble_eq_true rfl) dX0_asksAtEnd_4 ⟨Nat.zero_le _, Nat.zero_le _⟩ rfl (fun H locs hP hD hS => ?_)
  obtain ⟨q2, hq2, h⟩ := f_b h
  refine cl_V (w := (hW G Z Y σ0)) (w' := (hW G Z Y q2.2)) (rv := some (.long q2.1)) (bytes := cX0_lawWorth) (maxL := 3) (ret := (some .long)) (C := RX0) (As := [.int (101 : Int32), .int q1]) (rest := []) (stk := [.long q2.1]) ⟨hx, hb, hml, hown, hts⟩ hK hE hA hP hD hS (c_X0_lawWorth l D G Z Y σ0 F (101 : Int32) q1 q2 hq2) (cwV 2 hts (gwV wd_887 wd_889 wp_31 wd_6 wd_890) rfl rfl rfl hd_X0_lawWorth ⟨Nat.le_of_ble_eq_true rfl, Nat.le_of_ble_eq_true rfl⟩) (hg_12 G Z Y σ0) rfl rfl rfl hl.1 rfl (Nat.le_of_ble_eq_true rfl) dX0_asksAtEnd_7 ⟨Nat.zero_le _, Nat.zero_le _⟩ rfl (fun H locs hP hD hS => ?_)
  refine lv_lconst (v := 0) hx hb dX0_asksAtEnd_10 (by decide) ?_
  refine W.lcmp hx hb dX0_asksAtEnd_11 ?_
  refine lv_if_eq (tgt := 19) hx hb dX0_asksAtEnd_12 (by decide) (fun c3 => ?_) (fun c3 => ?_)
  · skip
    have c3 := (lg_cmp_eq _ _).mp c3
    have h := f_t c3 h
    refine lv_iconst (v := 0) hx hb dX0_asksAtEnd_19 (by decide) ?_
    obtain rfl := Option.some.inj h
    exact W.zret (v := (0 : Int32)) hx hb hr rfl (q_end hK hP hD hS) hS.2.2 dX0_asksAtEnd_20
  · skip
    have c3 := mt (lg_cmp_eq _ _).mpr c3
    have h := f_f c3 h
    refine lv_iconst (v := 1) hx hb dX0_asksAtEnd_15 (by decide) ?_
    refine lv_goto (tgt := 20) hx hb dX0_asksAtEnd_16 (by decide) ?_
    obtain rfl := Option.some.inj h
    exact W.zret (v := (1 : Int32)) hx hb hr rfl (q_end hK hP hD hS) hS.2.2 dX0_asksAtEnd_20
abbrev rm_X0_dice : Room := { frames := 5, cells := 0, slots := 0, locals := 132 }
set_option maxRecDepth 100000 in
set_option maxHeartbeats 8000000 in
theorem c_X0_dice (l : Launch) (D : va_G) (G : hG) (Z : hZ) (Y : va_W) (σ0 : hSt) (F : Nat) (x1 : Int32) (res : (Int32 × hSt)) (h : f_X0_dice F Z σ0 x1 = some res) : CT l yX0_dice cX0_dice 2 (some .int) rm_X0_dice D G 0 0 [.ref (G.2.1 12), .int x1] (hW G Z Y σ0) (hW G Z Y res.2) (some (.int res.1)) := by
  unfold f_X0_dice at h
  refine CT.mk (cc := cX0_dice) (maxL := 2) (ret := (some .int)) (own := RX0) (plainFor_of_name (by decide)) rfl (Nat.le_of_ble_eq_true rfl) ?_
  intro p e s m args below meth c A ls C0 hnm hA hP hD hl
  obtain ⟨hx, hb, hr, hml, hown, hts, hlocks, hK, hE⟩ := id C0
  have hS : va_S A s.heap s.heap [] := va_S.rf
  have hl : lv_has ls 2 [(0, .ref (G.2.1 12)), (1, .int x1)] := hl
  refine lv_lconst (v := 1) hx hb dX0_dice_0 (by decide) ?_
  refine lv_aload_n hx hb dX0_dice_1 rfl (lv_at hl 0 rfl) ?_
  refine va_get (D := D) (ci := 1) (v := .int (σ0.1 12 4)) (C := RX0) (T := TX0) (N := 7) hx hb hts inU_X0 hown hK hP _ (hg_12 G Z Y σ0) rfl 4 (by decide) (hts _ wd_132) (fun _ h9 => h9) rfl dX0_dice_2 ?_
  refine lv_i2l (v := ((σ0.1 12 4) : Int32).toInt64) hx hb dX0_dice_5 rfl ?_
  refine lv_aload_n hx hb dX0_dice_6 rfl (lv_at hl 0 rfl) ?_
  refine lv_bipush (v := 100) hx hb dX0_dice_7 (by decide) ?_
  refine lv_iload_n hx hb dX0_dice_9 rfl (lv_at hl 1 rfl) ?_
  obtain ⟨q1, hq1, h⟩ := f_b h
  refine cl_V (w := (hW G Z Y σ0)) (w' := (hW G Z Y q1.2)) (rv := some (.long q1.1)) (bytes := cX0_lawWorth) (maxL := 3) (ret := (some .long)) (C := RX0) (As := [.int (100 : Int32), .int x1]) (rest := [.long ((σ0.1 12 4) : Int32).toInt64, .long (1 : Int64)]) (stk := [.long q1.1, .long ((σ0.1 12 4) : Int32).toInt64, .long (1 : Int64)]) ⟨hx, hb, hml, hown, hts⟩ hK hE hA hP hD hS (c_X0_lawWorth l D G Z Y σ0 F (100 : Int32) x1 q1 hq1) (cwV 2 hts (gwV wd_887 wd_889 wp_31 wd_6 wd_890) rfl rfl rfl hd_X0_lawWorth ⟨Nat.le_of_ble_eq_true rfl, Nat.le_of_ble_eq_true rfl⟩) (hg_12 G Z Y σ0) rfl rfl rfl hl.1 rfl (Nat.le_of_ble_eq_true rfl) dX0_dice_10 ⟨Nat.zero_le _, Nat.zero_le _⟩ rfl (fun H locs hP hD hS => ?_)
  refine va_mmin_long hx hb (hml.trans hl.1.symm) hown (hts _ wd_911) (hts _ wd_848) (hts _ wd_12) (hts _ wd_849) (Nat.le_of_ble_eq_true rfl) (Nat.le_of_ble_eq_true rfl) (Nat.zero_le _) (Nat.zero_le _) dX0_dice_13 ?_
  refine va_mmax_long hx hb (hml.trans hl.1.symm) hown (hts _ wd_912) (hts _ wd_851) (hts _ wd_12) (hts _ wd_852) (Nat.le_of_ble_eq_true rfl) (Nat.le_of_ble_eq_true rfl) (Nat.zero_le _) (Nat.zero_le _) dX0_dice_16 ?_
  refine lv_l2i (v := ((if (if q1.1 < ((σ0.1 12 4) : Int32).toInt64 then q1.1 else ((σ0.1 12 4) : Int32).toInt64) < (1 : Int64) then (1 : Int64) else (if q1.1 < ((σ0.1 12 4) : Int32).toInt64 then q1.1 else ((σ0.1 12 4) : Int32).toInt64)) : Int64).toInt32) hx hb dX0_dice_19 rfl ?_
  obtain rfl := Option.some.inj h
  exact W.iret (v := ((if (if q1.1 < ((σ0.1 12 4) : Int32).toInt64 then q1.1 else ((σ0.1 12 4) : Int32).toInt64) < (1 : Int64) then (1 : Int64) else (if q1.1 < ((σ0.1 12 4) : Int32).toInt64 then q1.1 else ((σ0.1 12 4) : Int32).toInt64)) : Int64).toInt32) hx hb hr (q_end hK hP hD hS) hS.2.2 dX0_dice_20
abbrev rm_X0_allRows : Room := { frames := 6, cells := 0, slots := 0, locals := 153 }
set_option maxRecDepth 100000 in
set_option maxHeartbeats 8000000 in
theorem W_X0_allRows_L4 {p : Program} {e : Env} {s : State} {m : MethodId} {args : Array Value} {below : List Frame} {meth : Method} {c : Code} {A : Nat → Prop} (l : Launch) (D : va_G) (G : hG) (Z : hZ) (Y : va_W) (σ0 : hSt) (F : Nat) (res : (Int32 × hSt)) (C0 : Cx p s m args meth c cX0_allRows (some .int) RX0 4 D G A) (hA : ∀ q : Nat, s.heap.size ≤ q → A q) : ∀ (n : Nat) (σ1 : hSt) (z1 : Int64) (z3 : Int32), f_X0_allRows_L4 F Z n σ1 z1 z3 = some res → ∀ (H : Heap) (locs : List Loc) (ls : Array Slot), va_P D vwCl (hW G Z Y σ1) H → va_D A (hW G Z Y σ1) → va_S A s.heap H locs → lv_has ls 4 [(0, .ref (G.2.1 12)), (1, .long z1), (3, .int z3)] → W p l e rm_X0_allRows s m args below meth c H locs 0 0 (MQ below (Qg (some (.int res.1)) D (tysG G) (hW G Z Y res.2) A) args s 0 0 A) (F0 m 4 ls []) := by
  obtain ⟨hx, hb, hr, hml, hown, hts, hlocks, hK, hE⟩ := id C0
  intro n
  induction n with
  | zero =>
    intro σ1 z1 z3 h
    cases h
  | succ n ih =>
    intro σ1 z1 z3 h H locs ls hP hD hS hl
    rw [f_X0_allRows_L4] at h
    refine lv_iload_n hx hb dX0_allRows_4 rfl (lv_at hl 2 rfl) ?_
    refine lv_aload_n hx hb dX0_allRows_5 rfl (lv_at hl 0 rfl) ?_
    obtain ⟨q1, hq1, h⟩ := f_b h
    refine cl_V (w := (hW G Z Y σ1)) (w' := (hW G Z Y σ1)) (rv := some (.int q1)) (bytes := cX0_rounds) (maxL := 1) (ret := (some .int)) (C := RX0) (As := []) (rest := [.int z3]) (stk := [.int q1, .int z3]) ⟨hx, hb, hml, hown, hts⟩ hK hE hA hP hD hS (c_X0_rounds l D G Z Y σ1 q1 hq1) (cwV 0 hts (gwV wd_891 wd_893 wp_32 wd_6 wd_894) rfl rfl rfl hd_X0_rounds ⟨Nat.le_of_ble_eq_true rfl, Nat.le_of_ble_eq_true rfl⟩) (hg_12 G Z Y σ1) rfl rfl rfl hl.1 rfl (Nat.le_of_ble_eq_true rfl) dX0_allRows_6 ⟨Nat.zero_le _, Nat.zero_le _⟩ rfl (fun H locs hP hD hS => ?_)
    refine lv_icmp_ge (tgt := 37) hx hb dX0_allRows_9 (by decide) (fun c2 => ?_) (fun c2 => ?_)
    · skip
      have h := f_t c2 h
      refine lv_lload_n hx hb dX0_allRows_37 rfl (lv_at hl 1 rfl) ?_
      refine lv_l2i (v := (z1 : Int64).toInt32) hx hb dX0_allRows_38 rfl ?_
      obtain rfl := Option.some.inj h
      exact W.iret (v := (z1 : Int64).toInt32) hx hb hr (q_end hK hP hD hS) hS.2.2 dX0_allRows_39
    · skip
      have h := f_f c2 h
      refine lv_lload_n hx hb dX0_allRows_12 rfl (lv_at hl 1 rfl) ?_
      refine lv_aload_n hx hb dX0_allRows_13 rfl (lv_at hl 0 rfl) ?_
      refine lv_iload_n hx hb dX0_allRows_14 rfl (lv_at hl 2 rfl) ?_
      obtain ⟨q3, hq3, h⟩ := f_b h
      refine cl_V (w := (hW G Z Y σ1)) (w' := (hW G Z Y q3.2)) (rv := some (.int q3.1)) (bytes := cX0_dice) (maxL := 2) (ret := (some .int)) (C := RX0) (As := [.int z3]) (rest := [.long z1]) (stk := [.int q3.1, .long z1]) ⟨hx, hb, hml, hown, hts⟩ hK hE hA hP hD hS (c_X0_dice l D G Z Y σ1 F z3 q3 hq3) (cwV 1 hts (gwV wd_970 wd_908 wd_909 wd_6 wd_910) rfl rfl rfl hd_X0_dice ⟨Nat.le_of_ble_eq_true rfl, Nat.le_of_ble_eq_true rfl⟩) (hg_12 G Z Y σ1) rfl rfl rfl hl.1 rfl (Nat.le_of_ble_eq_true rfl) dX0_allRows_15 ⟨Nat.zero_le _, Nat.zero_le _⟩ rfl (fun H locs hP hD hS => ?_)
      refine lv_i2l (v := (q3.1 : Int32).toInt64) hx hb dX0_allRows_18 rfl ?_
      refine lv_lmul hx hb dX0_allRows_19 ?_
      refine lv_lstore_n (lv' := [(1, .long (z1 * (q3.1 : Int32).toInt64)), (0, .ref (G.2.1 12)), (3, .int z3)]) hx hb dX0_allRows_20 rfl hl (by decide) rfl (fun ls hl => ?_)
      refine lv_lload_n hx hb dX0_allRows_21 rfl (lv_at hl 0 rfl) ?_
      refine lv_ldc2 (v := 2000) hx hb hown (hts _ wd_971) dX0_allRows_22 ?_
      refine W.lcmp hx hb dX0_allRows_25 ?_
      refine lv_if_le (tgt := 31) hx hb dX0_allRows_26 (by decide) (fun c4 => ?_) (fun c4 => ?_)
      · skip
        have c4 := (lg_cmp_le _ _).mp c4
        have h := f_t c4 h
        refine lv_iinc (v := (z3 + 1)) (lv' := [(3, .int (z3 + 1)), (1, .long (z1 * (q3.1 : Int32).toInt64)), (0, .ref (G.2.1 12))]) hx hb dX0_allRows_31 hl (k := 2) rfl rfl (by decide) rfl (fun ls hl => ?_)
        refine lv_goto (tgt := 4) hx hb dX0_allRows_34 (by decide) ?_
        exact ih q3.2 (z1 * (q3.1 : Int32).toInt64) (z3 + 1) h _ _ _ hP hD hS (lv_sub hl [2, 1, 0] rfl)
      · skip
        have c4 := mt (lg_cmp_le _ _).mpr c4
        have h := f_f c4 h
        refine lv_iconst (v := (-1)) hx hb dX0_allRows_29 (by decide) ?_
        obtain rfl := Option.some.inj h
        exact W.iret (v := (-1 : Int32)) hx hb hr (q_end hK hP hD hS) hS.2.2 dX0_allRows_30
set_option maxRecDepth 100000 in
set_option maxHeartbeats 8000000 in
theorem c_X0_allRows (l : Launch) (D : va_G) (G : hG) (Z : hZ) (Y : va_W) (σ0 : hSt) (F : Nat) (res : (Int32 × hSt)) (h : f_X0_allRows F Z σ0 = some res) : CT l yX0_allRows cX0_allRows 4 (some .int) rm_X0_allRows D G 0 0 [.ref (G.2.1 12)] (hW G Z Y σ0) (hW G Z Y res.2) (some (.int res.1)) := by
  unfold f_X0_allRows at h
  refine CT.mk (cc := cX0_allRows) (maxL := 4) (ret := (some .int)) (own := RX0) (plainFor_of_name (by decide)) rfl (Nat.le_of_ble_eq_true rfl) ?_
  intro p e s m args below meth c A ls C0 hnm hA hP hD hl
  obtain ⟨hx, hb, hr, hml, hown, hts, hlocks, hK, hE⟩ := id C0
  have hS : va_S A s.heap s.heap [] := va_S.rf
  have hl : lv_has ls 4 [(0, .ref (G.2.1 12))] := hl
  refine lv_lconst (v := 1) hx hb dX0_allRows_0 (by decide) ?_
  refine lv_lstore_n (lv' := [(1, .long (1 : Int64)), (0, .ref (G.2.1 12))]) hx hb dX0_allRows_1 rfl hl (by decide) rfl (fun ls hl => ?_)
  refine lv_iconst (v := 0) hx hb dX0_allRows_2 (by decide) ?_
  refine lv_istore_n (lv' := [(3, .int (0 : Int32)), (1, .long (1 : Int64)), (0, .ref (G.2.1 12))]) hx hb dX0_allRows_3 rfl hl (by decide) rfl (fun ls hl => ?_)
  refine W_X0_allRows_L4 l D G Z Y σ0 F res C0 hA F σ0 (1 : Int64) (0 : Int32) h _ _ _ hP hD hS (lv_sub hl [2, 1, 0] rfl)
abbrev rm_X0_mostRoots : Room := { frames := 6, cells := 0, slots := 0, locals := 153 }
set_option maxRecDepth 100000 in
set_option maxHeartbeats 8000000 in
theorem c_X0_mostRoots (l : Launch) (D : va_G) (G : hG) (Z : hZ) (Y : va_W) (σ0 : hSt) (F : Nat) (x1 : Int32) (res : (Int32 × hSt)) (h : f_X0_mostRoots F Z σ0 x1 = some res) : CT l yX0_mostRoots cX0_mostRoots 3 (some .int) rm_X0_mostRoots D G 0 0 [.ref (G.2.1 12), .int x1] (hW G Z Y σ0) (hW G Z Y res.2) (some (.int res.1)) := by
  unfold f_X0_mostRoots at h
  refine CT.mk (cc := cX0_mostRoots) (maxL := 3) (ret := (some .int)) (own := RX0) (plainFor_of_name (by decide)) rfl (Nat.le_of_ble_eq_true rfl) ?_
  intro p e s m args below meth c A ls C0 hnm hA hP hD hl
  obtain ⟨hx, hb, hr, hml, hown, hts, hlocks, hK, hE⟩ := id C0
  have hS : va_S A s.heap s.heap [] := va_S.rf
  have hl : lv_has ls 3 [(0, .ref (G.2.1 12)), (1, .int x1)] := hl
  refine lv_aload_n hx hb dX0_mostRoots_0 rfl (lv_at hl 0 rfl) ?_
  refine lv_iload_n hx hb dX0_mostRoots_1 rfl (lv_at hl 1 rfl) ?_
  obtain ⟨q1, hq1, h⟩ := f_b h
  refine cl_V (w := (hW G Z Y σ0)) (w' := (hW G Z Y q1.2)) (rv := some (.int q1.1)) (bytes := cX0_dice) (maxL := 2) (ret := (some .int)) (C := RX0) (As := [.int x1]) (rest := []) (stk := [.int q1.1]) ⟨hx, hb, hml, hown, hts⟩ hK hE hA hP hD hS (c_X0_dice l D G Z Y σ0 F x1 q1 hq1) (cwV 1 hts (gwV wd_970 wd_908 wd_909 wd_6 wd_910) rfl rfl rfl hd_X0_dice ⟨Nat.le_of_ble_eq_true rfl, Nat.le_of_ble_eq_true rfl⟩) (hg_12 G Z Y σ0) rfl rfl rfl hl.1 rfl (Nat.le_of_ble_eq_true rfl) dX0_mostRoots_2 ⟨Nat.zero_le _, Nat.zero_le _⟩ rfl (fun H locs hP hD hS => ?_)
  refine lv_istore_n (lv' := [(2, .int q1.1), (0, .ref (G.2.1 12)), (1, .int x1)]) hx hb dX0_mostRoots_5 rfl hl (by decide) rfl (fun ls hl => ?_)
  refine lv_aload_n hx hb dX0_mostRoots_6 rfl (lv_at hl 1 rfl) ?_
  refine lv_iload_n hx hb dX0_mostRoots_7 rfl (lv_at hl 2 rfl) ?_
  obtain ⟨q2, hq2, h⟩ := f_b h
  refine cl_V (w := (hW G Z Y q1.2)) (w' := (hW G Z Y q2.2)) (rv := some (.int q2.1)) (bytes := cX0_asksForSum) (maxL := 2) (ret := (some .boolean)) (C := RX0) (As := [.int x1]) (rest := []) (stk := [.int q2.1]) ⟨hx, hb, hml, hown, hts⟩ hK hE hA hP hD hS (c_X0_asksForSum l D G Z Y q1.2 F x1 q2 hq2) (cwV 1 hts (gwV wd_992 wd_884 wd_885 wd_6 wd_886) rfl rfl rfl hd_X0_asksForSum ⟨Nat.le_of_ble_eq_true rfl, Nat.le_of_ble_eq_true rfl⟩) (hg_12 G Z Y q1.2) rfl rfl rfl hl.1 rfl (Nat.le_of_ble_eq_true rfl) dX0_mostRoots_8 ⟨Nat.zero_le _, Nat.zero_le _⟩ rfl (fun H locs hP hD hS => ?_)
  refine lv_if_ne (tgt := 16) hx hb dX0_mostRoots_11 (by decide) (fun c3 => ?_) (fun c3 => ?_)
  · skip
    have h := f_f c3 h
    refine lv_aload_n hx hb dX0_mostRoots_16 rfl (lv_at hl 1 rfl) ?_
    refine lv_iload_n hx hb dX0_mostRoots_17 rfl (lv_at hl 2 rfl) ?_
    obtain ⟨q4, hq4, h⟩ := f_b h
    refine cl_V (w := (hW G Z Y q2.2)) (w' := (hW G Z Y q2.2)) (rv := some (.int q4)) (bytes := cX0_steepOf) (maxL := 2) (ret := (some .int)) (C := RX0) (As := [.int x1]) (rest := []) (stk := [.int q4]) ⟨hx, hb, hml, hown, hts⟩ hK hE hA hP hD hS (c_X0_steepOf l D G Z Y q2.2 x1 q4 hq4) (cwV 1 hts (gwV wd_895 wd_897 wp_33 wd_6 wd_898) rfl rfl rfl hd_X0_steepOf ⟨Nat.le_of_ble_eq_true rfl, Nat.le_of_ble_eq_true rfl⟩) (hg_12 G Z Y q2.2) rfl rfl rfl hl.1 rfl (Nat.le_of_ble_eq_true rfl) dX0_mostRoots_18 ⟨Nat.zero_le _, Nat.zero_le _⟩ rfl (fun H locs hP hD hS => ?_)
    refine lv_iconst (v := 1) hx hb dX0_mostRoots_21 (by decide) ?_
    refine lv_iload_n hx hb dX0_mostRoots_22 rfl (lv_at hl 0 rfl) ?_
    refine lv_iconst (v := 1) hx hb dX0_mostRoots_23 (by decide) ?_
    refine lv_isub hx hb dX0_mostRoots_24 ?_
    refine va_mmax hx hb (hml.trans hl.1.symm) hown (hts _ wd_993) (hts _ wd_328) (hts _ wd_12) (hts _ wd_329) (Nat.le_of_ble_eq_true rfl) (Nat.le_of_ble_eq_true rfl) (Nat.zero_le _) (Nat.zero_le _) dX0_mostRoots_25 ?_
    refine va_mmin hx hb (hml.trans hl.1.symm) hown (hts _ wd_994) (hts _ wd_400) (hts _ wd_12) (hts _ wd_401) (Nat.le_of_ble_eq_true rfl) (Nat.le_of_ble_eq_true rfl) (Nat.zero_le _) (Nat.zero_le _) dX0_mostRoots_28 ?_
    obtain rfl := Option.some.inj h
    exact W.iret (v := (if (if (1 : Int32) < (q1.1 - (1 : Int32)) then (q1.1 - (1 : Int32)) else (1 : Int32)) < q4 then (if (1 : Int32) < (q1.1 - (1 : Int32)) then (q1.1 - (1 : Int32)) else (1 : Int32)) else q4)) hx hb hr (q_end hK hP hD hS) hS.2.2 dX0_mostRoots_31
  · skip
    have h := f_t c3 h
    refine lv_iload_n hx hb dX0_mostRoots_14 rfl (lv_at hl 0 rfl) ?_
    obtain rfl := Option.some.inj h
    exact W.iret (v := q1.1) hx hb hr (q_end hK hP hD hS) hS.2.2 dX0_mostRoots_15
abbrev rm_X0_setFraction : Room := { frames := 0, cells := 0, slots := 0, locals := 0 }
set_option maxRecDepth 100000 in
set_option maxHeartbeats 8000000 in
theorem W_X0_setFraction_L11 {p : Program} {e : Env} {s : State} {m : MethodId} {args : Array Value} {below : List Frame} {meth : Method} {c : Code} {A : Nat → Prop} (l : Launch) (D : va_G) (G : hG) (Z : hZ) (Y : va_W) (σ0 : hSt) (F : Nat) (x1 : Int64) (x3 : Int64) (σ1 : hSt) (y1 : Int64) (y3 : Int64) (res : (Unit × hSt)) (C0 : Cx p s m args meth c cX0_setFraction none RX0 12 D G A) (hA : ∀ q : Nat, s.heap.size ≤ q → A q) (k44 : Int64 → Option (Unit × hSt)) (hk44 : ∀ (z5 : Int64), k44 z5 = some res → ∀ (H : Heap) (locs : List Loc) (ls : Array Slot), va_P D vwCl (hW G Z Y σ1) H → va_D A (hW G Z Y σ1) → va_S A s.heap H locs → lv_has ls 12 [(0, .ref (G.2.1 12)), (1, .long y1), (3, .long y3), (5, .long z5)] → W p l e rm_X0_setFraction s m args below meth c H locs 0 0 (MQ below (Qg none D (tysG G) (hW G Z Y res.2) A) args s 0 0 A) (F0 m 44 ls [])) : ∀ (n : Nat) (z5 : Int64) (z7 : Int64) (z9 : Int32), f_X0_setFraction_L11 y1 y3 k44 n z5 z7 z9 = some res → ∀ (H : Heap) (locs : List Loc) (ls : Array Slot), va_P D vwCl (hW G Z Y σ1) H → va_D A (hW G Z Y σ1) → va_S A s.heap H locs → lv_has ls 12 [(0, .ref (G.2.1 12)), (1, .long y1), (3, .long y3), (5, .long z5), (7, .long z7), (9, .int z9)] → W p l e rm_X0_setFraction s m args below meth c H locs 0 0 (MQ below (Qg none D (tysG G) (hW G Z Y res.2) A) args s 0 0 A) (F0 m 11 ls []) := by
  obtain ⟨hx, hb, hr, hml, hown, hts, hlocks, hK, hE⟩ := id C0
  intro n
  induction n with
  | zero =>
    intro z5 z7 z9 h
    cases h
  | succ n ih =>
    intro z5 z7 z9 h H locs ls hP hD hS hl
    rw [f_X0_setFraction_L11] at h
    refine lv_iload hx hb dX0_setFraction_11 (lv_at hl 5 rfl) ?_
    refine lv_if_le (tgt := 44) hx hb dX0_setFraction_13 (by decide) (fun c1 => ?_) (fun c1 => ?_)
    · skip
      have h := f_t c1 h
      exact hk44 z5 h _ _ _ hP hD hS (lv_sub hl [0, 1, 2, 3] rfl)
    · skip
      have h := f_f c1 h
      refine lv_lload hx hb dX0_setFraction_16 (lv_at hl 4 rfl) ?_
      refine lv_lconst (v := 0) hx hb dX0_setFraction_18 (by decide) ?_
      refine W.lcmp hx hb dX0_setFraction_19 ?_
      refine lv_if_le (tgt := 44) hx hb dX0_setFraction_20 (by decide) (fun c2 => ?_) (fun c2 => ?_)
      · skip
        have c2 := (lg_cmp_le _ _).mp c2
        have h := f_t c2 h
        exact hk44 z5 h _ _ _ hP hD hS (lv_sub hl [0, 1, 2, 3] rfl)
      · skip
        have c2 := mt (lg_cmp_le _ _).mpr c2
        have h := f_f c2 h
        refine lv_lload hx hb dX0_setFraction_23 (lv_at hl 3 rfl) ?_
        refine lv_lload hx hb dX0_setFraction_25 (lv_at hl 4 rfl) ?_
        obtain ⟨c3, h⟩ := f_n h
        refine lv_lrem hx hb dX0_setFraction_27 c3 ?_
        refine lv_lstore (lv' := [(10, .long (z5 - z5 / z7 * z7)), (0, .ref (G.2.1 12)), (1, .long y1), (3, .long y3), (5, .long z5), (7, .long z7), (9, .int z9)]) hx hb dX0_setFraction_28 hl (by decide) rfl (fun ls hl => ?_)
        refine lv_lload hx hb dX0_setFraction_30 (lv_at hl 5 rfl) ?_
        refine lv_lstore (lv' := [(5, .long z7), (10, .long (z5 - z5 / z7 * z7)), (0, .ref (G.2.1 12)), (1, .long y1), (3, .long y3), (7, .long z7), (9, .int z9)]) hx hb dX0_setFraction_32 hl (by decide) rfl (fun ls hl => ?_)
        refine lv_lload hx hb dX0_setFraction_34 (lv_at hl 1 rfl) ?_
        refine lv_lstore (lv' := [(7, .long (z5 - z5 / z7 * z7)), (5, .long z7), (10, .long (z5 - z5 / z7 * z7)), (0, .ref (G.2.1 12)), (1, .long y1), (3, .long y3), (9, .int z9)]) hx hb dX0_setFraction_36 hl (by decide) rfl (fun ls hl => ?_)
        refine lv_iinc (v := (z9 + (-1 : Int32))) (lv' := [(9, .int (z9 + (-1 : Int32))), (7, .long (z5 - z5 / z7 * z7)), (5, .long z7), (10, .long (z5 - z5 / z7 * z7)), (0, .ref (G.2.1 12)), (1, .long y1), (3, .long y3)]) hx hb dX0_setFraction_38 hl (k := 6) rfl rfl (by decide) rfl (fun ls hl => ?_)
        refine lv_goto (tgt := 11) hx hb dX0_setFraction_41 (by decide) ?_
        exact ih z7 (z5 - z5 / z7 * z7) (z9 + (-1 : Int32)) h _ _ _ hP hD hS (lv_sub hl [4, 5, 6, 2, 1, 0] rfl)
set_option maxRecDepth 100000 in
set_option maxHeartbeats 8000000 in
theorem c_X0_setFraction (l : Launch) (D : va_G) (G : hG) (Z : hZ) (Y : va_W) (σ0 : hSt) (F : Nat) (x1 : Int64) (x3 : Int64) (res : (Unit × hSt)) (h : f_X0_setFraction F Z σ0 x1 x3 = some res) : CT l yX0_setFraction cX0_setFraction 12 none rm_X0_setFraction D G 0 0 [.ref (G.2.1 12), .long x1, .long x3] (hW G Z Y σ0) (hW G Z Y res.2) none := by
  unfold f_X0_setFraction at h
  refine CT.mk (cc := cX0_setFraction) (maxL := 12) (ret := none) (own := RX0) (plainFor_of_name (by decide)) rfl (Nat.le_of_ble_eq_true rfl) ?_
  intro p e s m args below meth c A ls C0 hnm hA hP hD hl
  obtain ⟨hx, hb, hr, hml, hown, hts, hlocks, hK, hE⟩ := id C0
  have hS : va_S A s.heap s.heap [] := va_S.rf
  have hl : lv_has ls 12 [(0, .ref (G.2.1 12)), (1, .long x1), (3, .long x3)] := hl
  refine lv_lload_n hx hb dX0_setFraction_0 rfl (lv_at hl 2 rfl) ?_
  refine lv_lstore (lv' := [(5, .long x3), (0, .ref (G.2.1 12)), (1, .long x1), (3, .long x3)]) hx hb dX0_setFraction_1 hl (by decide) rfl (fun ls hl => ?_)
  refine lv_lload_n hx hb dX0_setFraction_3 rfl (lv_at hl 2 rfl) ?_
  refine lv_lstore (lv' := [(7, .long x1), (5, .long x3), (0, .ref (G.2.1 12)), (1, .long x1), (3, .long x3)]) hx hb dX0_setFraction_4 hl (by decide) rfl (fun ls hl => ?_)
  refine lv_sipush (v := 200) hx hb dX0_setFraction_6 (by decide) ?_
  refine lv_istore (lv' := [(9, .int (200 : Int32)), (7, .long x1), (5, .long x3), (0, .ref (G.2.1 12)), (1, .long x1), (3, .long x3)]) hx hb dX0_setFraction_9 hl (by decide) rfl (fun ls hl => ?_)
  refine W_X0_setFraction_L11 l D G Z Y σ0 F x1 x3 σ0 x1 x3 res C0 hA _ ?_ F x3 x1 (200 : Int32) h _ _ _ hP hD hS (lv_sub hl [3, 4, 5, 2, 1, 0] rfl)
  · intro z5 h H locs ls hP hD hS hl
    refine lv_aload_n hx hb dX0_setFraction_44 rfl (lv_at hl 0 rfl) ?_
    refine lv_lload hx hb dX0_setFraction_45 (lv_at hl 3 rfl) ?_
    refine lv_lconst (v := 1) hx hb dX0_setFraction_47 (by decide) ?_
    refine W.lcmp hx hb dX0_setFraction_48 ?_
    refine lv_if_ge (tgt := 56) hx hb dX0_setFraction_49 (by decide) (fun c4 => ?_) (fun c4 => ?_)
    · skip
      have c4 := (lg_cmp_ge _ _).mp c4
      have h := f_t c4 h
      refine lv_lload_n hx hb dX0_setFraction_56 rfl (lv_at hl 1 rfl) ?_
      refine lv_lload hx hb dX0_setFraction_57 (lv_at hl 3 rfl) ?_
      obtain ⟨c5, h⟩ := f_n h
      refine lv_ldiv hx hb dX0_setFraction_59 c5 ?_
      refine va_put (D := D) (ci := 1) (v := .long (x1 / z5)) (ty := .long) (C := RX0) (T := TX0) (N := 7) hx hb hts inU_X0 tyX0 tyX0_ok nmX0 hown hK hP hD hS _ (hg_12 G Z Y σ0) rfl 5 (by decide) (hts _ wd_133) (fun _ h9 => h9) rfl (by decide +kernel) rfl rfl (Nat.le_of_ble_eq_true rfl) dX0_setFraction_60 (fun H locs hP hD hS => ?_)
      have hP := wrP (hp_12_5 G Z Y σ0 (x1 / z5)) hP
      have hD := wrD (hp_12_5 G Z Y σ0 (x1 / z5)) hD
      refine lv_aload_n hx hb dX0_setFraction_63 rfl (lv_at hl 0 rfl) ?_
      refine lv_lload hx hb dX0_setFraction_64 (lv_at hl 3 rfl) ?_
      refine lv_lconst (v := 1) hx hb dX0_setFraction_66 (by decide) ?_
      refine W.lcmp hx hb dX0_setFraction_67 ?_
      refine lv_if_ge (tgt := 75) hx hb dX0_setFraction_68 (by decide) (fun c6 => ?_) (fun c6 => ?_)
      · skip
        have c6 := (lg_cmp_ge _ _).mp c6
        have h := f_t c6 h
        refine lv_lload_n hx hb dX0_setFraction_75 rfl (lv_at hl 2 rfl) ?_
        refine lv_lload hx hb dX0_setFraction_76 (lv_at hl 3 rfl) ?_
        obtain ⟨c7, h⟩ := f_n h
        refine lv_ldiv hx hb dX0_setFraction_78 c7 ?_
        refine va_put (D := D) (ci := 1) (v := .long (x3 / z5)) (ty := .long) (C := RX0) (T := TX0) (N := 7) hx hb hts inU_X0 tyX0 tyX0_ok nmX0 hown hK hP hD hS _ (hg_12 G Z Y (sJ σ0 12 5 (x1 / z5))) rfl 6 (by decide) (hts _ wd_134) (fun _ h9 => h9) rfl (by decide +kernel) rfl rfl (Nat.le_of_ble_eq_true rfl) dX0_setFraction_79 (fun H locs hP hD hS => ?_)
        have hP := wrP (hp_12_6 G Z Y (sJ σ0 12 5 (x1 / z5)) (x3 / z5)) hP
        have hD := wrD (hp_12_6 G Z Y (sJ σ0 12 5 (x1 / z5)) (x3 / z5)) hD
        obtain rfl := Option.some.inj h
        exact W.vret hx hb hr (q_end hK hP hD hS) hS.2.2 dX0_setFraction_82
      · skip
        have c6 := mt (lg_cmp_ge _ _).mpr c6
        have h := f_f c6 h
        refine lv_lload_n hx hb dX0_setFraction_71 rfl (lv_at hl 2 rfl) ?_
        refine lv_goto (tgt := 79) hx hb dX0_setFraction_72 (by decide) ?_
        refine va_put (D := D) (ci := 1) (v := .long x3) (ty := .long) (C := RX0) (T := TX0) (N := 7) hx hb hts inU_X0 tyX0 tyX0_ok nmX0 hown hK hP hD hS _ (hg_12 G Z Y (sJ σ0 12 5 (x1 / z5))) rfl 6 (by decide) (hts _ wd_134) (fun _ h9 => h9) rfl (by decide +kernel) rfl rfl (Nat.le_of_ble_eq_true rfl) dX0_setFraction_79 (fun H locs hP hD hS => ?_)
        have hP := wrP (hp_12_6 G Z Y (sJ σ0 12 5 (x1 / z5)) x3) hP
        have hD := wrD (hp_12_6 G Z Y (sJ σ0 12 5 (x1 / z5)) x3) hD
        obtain rfl := Option.some.inj h
        exact W.vret hx hb hr (q_end hK hP hD hS) hS.2.2 dX0_setFraction_82
    · skip
      have c4 := mt (lg_cmp_ge _ _).mpr c4
      have h := f_f c4 h
      refine lv_lload_n hx hb dX0_setFraction_52 rfl (lv_at hl 1 rfl) ?_
      refine lv_goto (tgt := 60) hx hb dX0_setFraction_53 (by decide) ?_
      refine va_put (D := D) (ci := 1) (v := .long x1) (ty := .long) (C := RX0) (T := TX0) (N := 7) hx hb hts inU_X0 tyX0 tyX0_ok nmX0 hown hK hP hD hS _ (hg_12 G Z Y σ0) rfl 5 (by decide) (hts _ wd_133) (fun _ h9 => h9) rfl (by decide +kernel) rfl rfl (Nat.le_of_ble_eq_true rfl) dX0_setFraction_60 (fun H locs hP hD hS => ?_)
      have hP := wrP (hp_12_5 G Z Y σ0 x1) hP
      have hD := wrD (hp_12_5 G Z Y σ0 x1) hD
      refine lv_aload_n hx hb dX0_setFraction_63 rfl (lv_at hl 0 rfl) ?_
      refine lv_lload hx hb dX0_setFraction_64 (lv_at hl 3 rfl) ?_
      refine lv_lconst (v := 1) hx hb dX0_setFraction_66 (by decide) ?_
      refine W.lcmp hx hb dX0_setFraction_67 ?_
      refine lv_if_ge (tgt := 75) hx hb dX0_setFraction_68 (by decide) (fun c8 => ?_) (fun c8 => ?_)
      · skip
        have c8 := (lg_cmp_ge _ _).mp c8
        have h := f_t c8 h
        refine lv_lload_n hx hb dX0_setFraction_75 rfl (lv_at hl 2 rfl) ?_
        refine lv_lload hx hb dX0_setFraction_76 (lv_at hl 3 rfl) ?_
        obtain ⟨c9, h⟩ := f_n h
        refine lv_ldiv hx hb dX0_setFraction_78 c9 ?_
        refine va_put (D := D) (ci := 1) (v := .long (x3 / z5)) (ty := .long) (C := RX0) (T := TX0) (N := 7) hx hb hts inU_X0 tyX0 tyX0_ok nmX0 hown hK hP hD hS _ (hg_12 G Z Y (sJ σ0 12 5 x1)) rfl 6 (by decide) (hts _ wd_134) (fun _ h9 => h9) rfl (by decide +kernel) rfl rfl (Nat.le_of_ble_eq_true rfl) dX0_setFraction_79 (fun H locs hP hD hS => ?_)
        have hP := wrP (hp_12_6 G Z Y (sJ σ0 12 5 x1) (x3 / z5)) hP
        have hD := wrD (hp_12_6 G Z Y (sJ σ0 12 5 x1) (x3 / z5)) hD
        obtain rfl := Option.some.inj h
        exact W.vret hx hb hr (q_end hK hP hD hS) hS.2.2 dX0_setFraction_82
      · skip
        have c8 := mt (lg_cmp_ge _ _).mpr c8
        have h := f_f c8 h
        refine lv_lload_n hx hb dX0_setFraction_71 rfl (lv_at hl 2 rfl) ?_
        refine lv_goto (tgt := 79) hx hb dX0_setFraction_72 (by decide) ?_
        refine va_put (D := D) (ci := 1) (v := .long x3) (ty := .long) (C := RX0) (T := TX0) (N := 7) hx hb hts inU_X0 tyX0 tyX0_ok nmX0 hown hK hP hD hS _ (hg_12 G Z Y (sJ σ0 12 5 x1)) rfl 6 (by decide) (hts _ wd_134) (fun _ h9 => h9) rfl (by decide +kernel) rfl rfl (Nat.le_of_ble_eq_true rfl) dX0_setFraction_79 (fun H locs hP hD hS => ?_)
        have hP := wrP (hp_12_6 G Z Y (sJ σ0 12 5 x1) x3) hP
        have hD := wrD (hp_12_6 G Z Y (sJ σ0 12 5 x1) x3) hD
        obtain rfl := Option.some.inj h
        exact W.vret hx hb hr (q_end hK hP hD hS) hS.2.2 dX0_setFraction_82
abbrev rm_X0_tellsBest : Room := { frames := 7, cells := 0, slots := 0, locals := 175 }
set_option maxRecDepth 100000 in
set_option maxHeartbeats 8000000 in
theorem W_X0_tellsBest_L7 {p : Program} {e : Env} {s : State} {m : MethodId} {args : Array Value} {below : List Frame} {meth : Method} {c : Code} {A : Nat → Prop} (l : Launch) (D : va_G) (G : hG) (Z : hZ) (Y : va_W) (σ0 : hSt) (F : Nat) (res : (Int32 × hSt)) (C0 : Cx p s m args meth c cX0_tellsBest (some .boolean) RX0 7 D G A) (hA : ∀ q : Nat, s.heap.size ≤ q → A q) (k71 : hSt → Int64 → Int64 → Option (Int32 × hSt)) (hk71 : ∀ (σ1 : hSt) (z1 : Int64) (z3 : Int64), k71 σ1 z1 z3 = some res → ∀ (H : Heap) (locs : List Loc) (ls : Array Slot), va_P D vwCl (hW G Z Y σ1) H → va_D A (hW G Z Y σ1) → va_S A s.heap H locs → lv_has ls 7 [(0, .ref (G.2.1 12)), (1, .long z1), (3, .long z3)] → W p l e rm_X0_tellsBest s m args below meth c H locs 0 0 (MQ below (Qg (some (.int res.1)) D (tysG G) (hW G Z Y res.2) A) args s 0 0 A) (F0 m 71 ls [])) : ∀ (n : Nat) (σ1 : hSt) (z1 : Int64) (z3 : Int64) (z5 : Int32), f_X0_tellsBest_L7 F Z k71 n σ1 z1 z3 z5 = some res → ∀ (H : Heap) (locs : List Loc) (ls : Array Slot), va_P D vwCl (hW G Z Y σ1) H → va_D A (hW G Z Y σ1) → va_S A s.heap H locs → lv_has ls 7 [(0, .ref (G.2.1 12)), (1, .long z1), (3, .long z3), (5, .int z5)] → W p l e rm_X0_tellsBest s m args below meth c H locs 0 0 (MQ below (Qg (some (.int res.1)) D (tysG G) (hW G Z Y res.2) A) args s 0 0 A) (F0 m 7 ls []) := by
  obtain ⟨hx, hb, hr, hml, hown, hts, hlocks, hK, hE⟩ := id C0
  intro n
  induction n with
  | zero =>
    intro σ1 z1 z3 z5 h
    cases h
  | succ n ih =>
    intro σ1 z1 z3 z5 h H locs ls hP hD hS hl
    rw [f_X0_tellsBest_L7] at h
    refine lv_iload hx hb dX0_tellsBest_7 (lv_at hl 3 rfl) ?_
    refine lv_aload_n hx hb dX0_tellsBest_9 rfl (lv_at hl 0 rfl) ?_
    obtain ⟨q1, hq1, h⟩ := f_b h
    refine cl_V (w := (hW G Z Y σ1)) (w' := (hW G Z Y σ1)) (rv := some (.int q1)) (bytes := cX0_rounds) (maxL := 1) (ret := (some .int)) (C := RX0) (As := []) (rest := [.int z5]) (stk := [.int q1, .int z5]) ⟨hx, hb, hml, hown, hts⟩ hK hE hA hP hD hS (c_X0_rounds l D G Z Y σ1 q1 hq1) (cwV 0 hts (gwV wd_891 wd_893 wp_32 wd_6 wd_894) rfl rfl rfl hd_X0_rounds ⟨Nat.le_of_ble_eq_true rfl, Nat.le_of_ble_eq_true rfl⟩) (hg_12 G Z Y σ1) rfl rfl rfl hl.1 rfl (Nat.le_of_ble_eq_true rfl) dX0_tellsBest_10 ⟨Nat.zero_le _, Nat.zero_le _⟩ rfl (fun H locs hP hD hS => ?_)
    refine lv_icmp_ge (tgt := 71) hx hb dX0_tellsBest_13 (by decide) (fun c2 => ?_) (fun c2 => ?_)
    · skip
      have h := f_t c2 h
      exact hk71 σ1 z1 z3 h _ _ _ hP hD hS (lv_sub hl [0, 1, 2] rfl)
    · skip
      have h := f_f c2 h
      refine lv_aload_n hx hb dX0_tellsBest_16 rfl (lv_at hl 0 rfl) ?_
      refine lv_iload hx hb dX0_tellsBest_17 (lv_at hl 3 rfl) ?_
      obtain ⟨q3, hq3, h⟩ := f_b h
      refine cl_V (w := (hW G Z Y σ1)) (w' := (hW G Z Y q3.2)) (rv := some (.int q3.1)) (bytes := cX0_dice) (maxL := 2) (ret := (some .int)) (C := RX0) (As := [.int z5]) (rest := []) (stk := [.int q3.1]) ⟨hx, hb, hml, hown, hts⟩ hK hE hA hP hD hS (c_X0_dice l D G Z Y σ1 F z5 q3 hq3) (cwV 1 hts (gwV wd_970 wd_908 wd_909 wd_6 wd_910) rfl rfl rfl hd_X0_dice ⟨Nat.le_of_ble_eq_true rfl, Nat.le_of_ble_eq_true rfl⟩) (hg_12 G Z Y σ1) rfl rfl rfl hl.1 rfl (Nat.le_of_ble_eq_true rfl) dX0_tellsBest_19 ⟨Nat.zero_le _, Nat.zero_le _⟩ rfl (fun H locs hP hD hS => ?_)
      refine lv_istore (lv' := [(6, .int q3.1), (0, .ref (G.2.1 12)), (1, .long z1), (3, .long z3), (5, .int z5)]) hx hb dX0_tellsBest_22 hl (by decide) rfl (fun ls hl => ?_)
      refine lv_iload hx hb dX0_tellsBest_24 (lv_at hl 0 rfl) ?_
      refine lv_sipush (v := 1000) hx hb dX0_tellsBest_26 (by decide) ?_
      refine lv_icmp_gt (tgt := 44) hx hb dX0_tellsBest_29 (by decide) (fun c4 => ?_) (fun c4 => ?_)
      · skip
        have h := f_t c4 h
        refine lv_iconst (v := 0) hx hb dX0_tellsBest_44 (by decide) ?_
        obtain rfl := Option.some.inj h
        exact W.zret (v := (0 : Int32)) hx hb hr rfl (q_end hK hP hD hS) hS.2.2 dX0_tellsBest_45
      · skip
        have h := f_f c4 h
        refine lv_lload_n hx hb dX0_tellsBest_32 rfl (lv_at hl 3 rfl) ?_
        refine lv_iload hx hb dX0_tellsBest_33 (lv_at hl 0 rfl) ?_
        refine lv_i2l (v := (q3.1 : Int32).toInt64) hx hb dX0_tellsBest_35 rfl ?_
        refine lv_lmul hx hb dX0_tellsBest_36 ?_
        refine lv_ldc2 (v := 1000000000000000) hx hb hown (hts _ wd_987) dX0_tellsBest_37 ?_
        refine W.lcmp hx hb dX0_tellsBest_40 ?_
        refine lv_if_le (tgt := 46) hx hb dX0_tellsBest_41 (by decide) (fun c5 => ?_) (fun c5 => ?_)
        · skip
          have c5 := (lg_cmp_le _ _).mp c5
          have h := f_t c5 h
          refine lv_lload_n hx hb dX0_tellsBest_46 rfl (lv_at hl 2 rfl) ?_
          refine lv_iload hx hb dX0_tellsBest_47 (lv_at hl 0 rfl) ?_
          refine lv_aload_n hx hb dX0_tellsBest_49 rfl (lv_at hl 1 rfl) ?_
          refine lv_iload hx hb dX0_tellsBest_50 (lv_at hl 4 rfl) ?_
          obtain ⟨q6, hq6, h⟩ := f_b h
          refine cl_V (w := (hW G Z Y q3.2)) (w' := (hW G Z Y q6.2)) (rv := some (.int q6.1)) (bytes := cX0_mostRoots) (maxL := 3) (ret := (some .int)) (C := RX0) (As := [.int z5]) (rest := [.int q3.1, .long z1]) (stk := [.int q6.1, .int q3.1, .long z1]) ⟨hx, hb, hml, hown, hts⟩ hK hE hA hP hD hS (c_X0_mostRoots l D G Z Y q3.2 F z5 q6 hq6) (cwV 1 hts (gwV wd_988 wd_989 wd_990 wd_6 wd_991) rfl rfl rfl hd_X0_mostRoots ⟨Nat.le_of_ble_eq_true rfl, Nat.le_of_ble_eq_true rfl⟩) (hg_12 G Z Y q3.2) rfl rfl rfl hl.1 rfl (Nat.le_of_ble_eq_true rfl) dX0_tellsBest_52 ⟨Nat.zero_le _, Nat.zero_le _⟩ rfl (fun H locs hP hD hS => ?_)
          refine lv_isub hx hb dX0_tellsBest_55 ?_
          refine lv_i2l (v := ((q3.1 - q6.1) : Int32).toInt64) hx hb dX0_tellsBest_56 rfl ?_
          refine lv_lmul hx hb dX0_tellsBest_57 ?_
          refine lv_lstore_n (lv' := [(1, .long (z1 * ((q3.1 - q6.1) : Int32).toInt64)), (6, .int q3.1), (0, .ref (G.2.1 12)), (3, .long z3), (5, .int z5)]) hx hb dX0_tellsBest_58 rfl hl (by decide) rfl (fun ls hl => ?_)
          refine lv_lload_n hx hb dX0_tellsBest_59 rfl (lv_at hl 3 rfl) ?_
          refine lv_iload hx hb dX0_tellsBest_60 (lv_at hl 1 rfl) ?_
          refine lv_i2l (v := (q3.1 : Int32).toInt64) hx hb dX0_tellsBest_62 rfl ?_
          refine lv_lmul hx hb dX0_tellsBest_63 ?_
          refine lv_lstore_n (lv' := [(3, .long (z3 * (q3.1 : Int32).toInt64)), (1, .long (z1 * ((q3.1 - q6.1) : Int32).toInt64)), (6, .int q3.1), (0, .ref (G.2.1 12)), (5, .int z5)]) hx hb dX0_tellsBest_64 rfl hl (by decide) rfl (fun ls hl => ?_)
          refine lv_iinc (v := (z5 + 1)) (lv' := [(5, .int (z5 + 1)), (3, .long (z3 * (q3.1 : Int32).toInt64)), (1, .long (z1 * ((q3.1 - q6.1) : Int32).toInt64)), (6, .int q3.1), (0, .ref (G.2.1 12))]) hx hb dX0_tellsBest_65 hl (k := 4) rfl rfl (by decide) rfl (fun ls hl => ?_)
          refine lv_goto (tgt := 7) hx hb dX0_tellsBest_68 (by decide) ?_
          exact ih q6.2 (z1 * ((q3.1 - q6.1) : Int32).toInt64) (z3 * (q3.1 : Int32).toInt64) (z5 + 1) h _ _ _ hP hD hS (lv_sub hl [4, 2, 1, 0] rfl)
        · skip
          have c5 := mt (lg_cmp_le _ _).mpr c5
          have h := f_f c5 h
          refine lv_iconst (v := 0) hx hb dX0_tellsBest_44 (by decide) ?_
          obtain rfl := Option.some.inj h
          exact W.zret (v := (0 : Int32)) hx hb hr rfl (q_end hK hP hD hS) hS.2.2 dX0_tellsBest_45
set_option maxRecDepth 100000 in
set_option maxHeartbeats 8000000 in
theorem c_X0_tellsBest (l : Launch) (D : va_G) (G : hG) (Z : hZ) (Y : va_W) (σ0 : hSt) (F : Nat) (res : (Int32 × hSt)) (h : f_X0_tellsBest F Z σ0 = some res) : CT l yX0_tellsBest cX0_tellsBest 7 (some .boolean) rm_X0_tellsBest D G 0 0 [.ref (G.2.1 12)] (hW G Z Y σ0) (hW G Z Y res.2) (some (.int res.1)) := by
  unfold f_X0_tellsBest at h
  refine CT.mk (cc := cX0_tellsBest) (maxL := 7) (ret := (some .boolean)) (own := RX0) (plainFor_of_name (by decide)) rfl (Nat.le_of_ble_eq_true rfl) ?_
  intro p e s m args below meth c A ls C0 hnm hA hP hD hl
  obtain ⟨hx, hb, hr, hml, hown, hts, hlocks, hK, hE⟩ := id C0
  have hS : va_S A s.heap s.heap [] := va_S.rf
  have hl : lv_has ls 7 [(0, .ref (G.2.1 12))] := hl
  refine lv_lconst (v := 1) hx hb dX0_tellsBest_0 (by decide) ?_
  refine lv_lstore_n (lv' := [(1, .long (1 : Int64)), (0, .ref (G.2.1 12))]) hx hb dX0_tellsBest_1 rfl hl (by decide) rfl (fun ls hl => ?_)
  refine lv_lconst (v := 1) hx hb dX0_tellsBest_2 (by decide) ?_
  refine lv_lstore_n (lv' := [(3, .long (1 : Int64)), (1, .long (1 : Int64)), (0, .ref (G.2.1 12))]) hx hb dX0_tellsBest_3 rfl hl (by decide) rfl (fun ls hl => ?_)
  refine lv_iconst (v := 0) hx hb dX0_tellsBest_4 (by decide) ?_
  refine lv_istore (lv' := [(5, .int (0 : Int32)), (3, .long (1 : Int64)), (1, .long (1 : Int64)), (0, .ref (G.2.1 12))]) hx hb dX0_tellsBest_5 hl (by decide) rfl (fun ls hl => ?_)
  refine W_X0_tellsBest_L7 l D G Z Y σ0 F res C0 hA _ ?_ F σ0 (1 : Int64) (1 : Int64) (0 : Int32) h _ _ _ hP hD hS (lv_sub hl [3, 2, 1, 0] rfl)
  · intro σ1 z1 z3 h H locs ls hP hD hS hl
    refine lv_aload_n hx hb dX0_tellsBest_71 rfl (lv_at hl 0 rfl) ?_
    refine lv_aload_n hx hb dX0_tellsBest_72 rfl (lv_at hl 0 rfl) ?_
    obtain ⟨q7, hq7, h⟩ := f_b h
    refine cl_V (w := (hW G Z Y σ1)) (w' := (hW G Z Y q7.2)) (rv := some (.int q7.1)) (bytes := cX0_asksAtEnd) (maxL := 1) (ret := (some .boolean)) (C := RX0) (As := []) (rest := [.ref (G.2.1 12)]) (stk := [.int q7.1, .ref (G.2.1 12)]) ⟨hx, hb, hml, hown, hts⟩ hK hE hA hP hD hS (c_X0_asksAtEnd l D G Z Y σ1 F q7 hq7) (cwV 0 hts (gwV wd_995 wd_927 wd_928 wd_6 wd_929) rfl rfl rfl hd_X0_asksAtEnd ⟨Nat.le_of_ble_eq_true rfl, Nat.le_of_ble_eq_true rfl⟩) (hg_12 G Z Y σ1) rfl rfl rfl hl.1 rfl (Nat.le_of_ble_eq_true rfl) dX0_tellsBest_73 ⟨Nat.zero_le _, Nat.zero_le _⟩ rfl (fun H locs hP hD hS => ?_)
    refine lv_if_eq (tgt := 85) hx hb dX0_tellsBest_76 (by decide) (fun c8 => ?_) (fun c8 => ?_)
    · skip
      have h := f_t c8 h
      refine lv_lload_n hx hb dX0_tellsBest_85 rfl (lv_at hl 2 rfl) ?_
      refine lv_lload_n hx hb dX0_tellsBest_86 rfl (lv_at hl 2 rfl) ?_
      obtain ⟨q9, hq9, h⟩ := f_b h
      refine cl_V (w := (hW G Z Y q7.2)) (w' := (hW G Z Y q9.2)) (rv := none) (bytes := cX0_setFraction) (maxL := 12) (ret := none) (C := RX0) (As := [.long z3, .long z3]) (rest := []) (stk := []) ⟨hx, hb, hml, hown, hts⟩ hK hE hA hP hD hS (c_X0_setFraction l D G Z Y q7.2 F z3 z3 q9 hq9) (cwV 2 hts (gwV wd_996 wd_998 wp_39 wd_6 wd_999) rfl rfl rfl hd_X0_setFraction ⟨Nat.le_of_ble_eq_true rfl, Nat.le_of_ble_eq_true rfl⟩) (hg_12 G Z Y q7.2) rfl rfl rfl hl.1 rfl (Nat.le_of_ble_eq_true rfl) dX0_tellsBest_87 ⟨Nat.zero_le _, Nat.zero_le _⟩ rfl (fun H locs hP hD hS => ?_)
      refine lv_iconst (v := 1) hx hb dX0_tellsBest_90 (by decide) ?_
      obtain rfl := Option.some.inj h
      exact W.zret (v := (1 : Int32)) hx hb hr rfl (q_end hK hP hD hS) hS.2.2 dX0_tellsBest_91
    · skip
      have h := f_f c8 h
      refine lv_lload_n hx hb dX0_tellsBest_79 rfl (lv_at hl 2 rfl) ?_
      refine lv_lload_n hx hb dX0_tellsBest_80 rfl (lv_at hl 1 rfl) ?_
      refine lv_lsub hx hb dX0_tellsBest_81 ?_
      refine lv_goto (tgt := 86) hx hb dX0_tellsBest_82 (by decide) ?_
      refine lv_lload_n hx hb dX0_tellsBest_86 rfl (lv_at hl 2 rfl) ?_
      obtain ⟨q10, hq10, h⟩ := f_b h
      refine cl_V (w := (hW G Z Y q7.2)) (w' := (hW G Z Y q10.2)) (rv := none) (bytes := cX0_setFraction) (maxL := 12) (ret := none) (C := RX0) (As := [.long (z3 - z1), .long z3]) (rest := []) (stk := []) ⟨hx, hb, hml, hown, hts⟩ hK hE hA hP hD hS (c_X0_setFraction l D G Z Y q7.2 F (z3 - z1) z3 q10 hq10) (cwV 2 hts (gwV wd_996 wd_998 wp_39 wd_6 wd_999) rfl rfl rfl hd_X0_setFraction ⟨Nat.le_of_ble_eq_true rfl, Nat.le_of_ble_eq_true rfl⟩) (hg_12 G Z Y q7.2) rfl rfl rfl hl.1 rfl (Nat.le_of_ble_eq_true rfl) dX0_tellsBest_87 ⟨Nat.zero_le _, Nat.zero_le _⟩ rfl (fun H locs hP hD hS => ?_)
      refine lv_iconst (v := 1) hx hb dX0_tellsBest_90 (by decide) ?_
      obtain rfl := Option.some.inj h
      exact W.zret (v := (1 : Int32)) hx hb hr rfl (q_end hK hP hD hS) hS.2.2 dX0_tellsBest_91
abbrev rm_X0_tellsBound : Room := { frames := 6, cells := 0, slots := 0, locals := 153 }
set_option maxRecDepth 100000 in
set_option maxHeartbeats 8000000 in
theorem W_X0_tellsBound_L7 {p : Program} {e : Env} {s : State} {m : MethodId} {args : Array Value} {below : List Frame} {meth : Method} {c : Code} {A : Nat → Prop} (l : Launch) (D : va_G) (G : hG) (Z : hZ) (Y : va_W) (σ0 : hSt) (F : Nat) (res : (Int32 × hSt)) (C0 : Cx p s m args meth c cX0_tellsBound (some .boolean) RX0 8 D G A) (hA : ∀ q : Nat, s.heap.size ≤ q → A q) (k92 : hSt → Int64 → Int64 → Option (Int32 × hSt)) (hk92 : ∀ (σ1 : hSt) (z1 : Int64) (z3 : Int64), k92 σ1 z1 z3 = some res → ∀ (H : Heap) (locs : List Loc) (ls : Array Slot), va_P D vwCl (hW G Z Y σ1) H → va_D A (hW G Z Y σ1) → va_S A s.heap H locs → lv_has ls 8 [(0, .ref (G.2.1 12)), (1, .long z1), (3, .long z3)] → W p l e rm_X0_tellsBound s m args below meth c H locs 0 0 (MQ below (Qg (some (.int res.1)) D (tysG G) (hW G Z Y res.2) A) args s 0 0 A) (F0 m 92 ls [])) : ∀ (n : Nat) (σ1 : hSt) (z1 : Int64) (z3 : Int64) (z5 : Int32), f_X0_tellsBound_L7 F Z k92 n σ1 z1 z3 z5 = some res → ∀ (H : Heap) (locs : List Loc) (ls : Array Slot), va_P D vwCl (hW G Z Y σ1) H → va_D A (hW G Z Y σ1) → va_S A s.heap H locs → lv_has ls 8 [(0, .ref (G.2.1 12)), (1, .long z1), (3, .long z3), (5, .int z5)] → W p l e rm_X0_tellsBound s m args below meth c H locs 0 0 (MQ below (Qg (some (.int res.1)) D (tysG G) (hW G Z Y res.2) A) args s 0 0 A) (F0 m 7 ls []) := by
  obtain ⟨hx, hb, hr, hml, hown, hts, hlocks, hK, hE⟩ := id C0
  intro n
  induction n with
  | zero =>
    intro σ1 z1 z3 z5 h
    cases h
  | succ n ih =>
    intro σ1 z1 z3 z5 h H locs ls hP hD hS hl
    rw [f_X0_tellsBound_L7] at h
    refine lv_iload hx hb dX0_tellsBound_7 (lv_at hl 3 rfl) ?_
    refine lv_aload_n hx hb dX0_tellsBound_9 rfl (lv_at hl 0 rfl) ?_
    obtain ⟨q1, hq1, h⟩ := f_b h
    refine cl_V (w := (hW G Z Y σ1)) (w' := (hW G Z Y σ1)) (rv := some (.int q1)) (bytes := cX0_rounds) (maxL := 1) (ret := (some .int)) (C := RX0) (As := []) (rest := [.int z5]) (stk := [.int q1, .int z5]) ⟨hx, hb, hml, hown, hts⟩ hK hE hA hP hD hS (c_X0_rounds l D G Z Y σ1 q1 hq1) (cwV 0 hts (gwV wd_891 wd_893 wp_32 wd_6 wd_894) rfl rfl rfl hd_X0_rounds ⟨Nat.le_of_ble_eq_true rfl, Nat.le_of_ble_eq_true rfl⟩) (hg_12 G Z Y σ1) rfl rfl rfl hl.1 rfl (Nat.le_of_ble_eq_true rfl) dX0_tellsBound_10 ⟨Nat.zero_le _, Nat.zero_le _⟩ rfl (fun H locs hP hD hS => ?_)
    refine lv_icmp_ge (tgt := 92) hx hb dX0_tellsBound_13 (by decide) (fun c2 => ?_) (fun c2 => ?_)
    · skip
      have h := f_t c2 h
      exact hk92 σ1 z1 z3 h _ _ _ hP hD hS (lv_sub hl [0, 1, 2] rfl)
    · skip
      have h := f_f c2 h
      refine lv_aload_n hx hb dX0_tellsBound_16 rfl (lv_at hl 0 rfl) ?_
      refine lv_iload hx hb dX0_tellsBound_17 (lv_at hl 3 rfl) ?_
      obtain ⟨q3, hq3, h⟩ := f_b h
      refine cl_V (w := (hW G Z Y σ1)) (w' := (hW G Z Y q3.2)) (rv := some (.int q3.1)) (bytes := cX0_dice) (maxL := 2) (ret := (some .int)) (C := RX0) (As := [.int z5]) (rest := []) (stk := [.int q3.1]) ⟨hx, hb, hml, hown, hts⟩ hK hE hA hP hD hS (c_X0_dice l D G Z Y σ1 F z5 q3 hq3) (cwV 1 hts (gwV wd_970 wd_908 wd_909 wd_6 wd_910) rfl rfl rfl hd_X0_dice ⟨Nat.le_of_ble_eq_true rfl, Nat.le_of_ble_eq_true rfl⟩) (hg_12 G Z Y σ1) rfl rfl rfl hl.1 rfl (Nat.le_of_ble_eq_true rfl) dX0_tellsBound_19 ⟨Nat.zero_le _, Nat.zero_le _⟩ rfl (fun H locs hP hD hS => ?_)
      refine lv_istore (lv' := [(6, .int q3.1), (0, .ref (G.2.1 12)), (1, .long z1), (3, .long z3), (5, .int z5)]) hx hb dX0_tellsBound_22 hl (by decide) rfl (fun ls hl => ?_)
      refine lv_aload_n hx hb dX0_tellsBound_24 rfl (lv_at hl 1 rfl) ?_
      refine lv_iload hx hb dX0_tellsBound_25 (lv_at hl 4 rfl) ?_
      obtain ⟨q4, hq4, h⟩ := f_b h
      refine cl_V (w := (hW G Z Y q3.2)) (w' := (hW G Z Y q4.2)) (rv := some (.int q4.1)) (bytes := cX0_asksForSum) (maxL := 2) (ret := (some .boolean)) (C := RX0) (As := [.int z5]) (rest := []) (stk := [.int q4.1]) ⟨hx, hb, hml, hown, hts⟩ hK hE hA hP hD hS (c_X0_asksForSum l D G Z Y q3.2 F z5 q4 hq4) (cwV 1 hts (gwV wd_992 wd_884 wd_885 wd_6 wd_886) rfl rfl rfl hd_X0_asksForSum ⟨Nat.le_of_ble_eq_true rfl, Nat.le_of_ble_eq_true rfl⟩) (hg_12 G Z Y q3.2) rfl rfl rfl hl.1 rfl (Nat.le_of_ble_eq_true rfl) dX0_tellsBound_27 ⟨Nat.zero_le _, Nat.zero_le _⟩ rfl (fun H locs hP hD hS => ?_)
      refine lv_if_eq (tgt := 42) hx hb dX0_tellsBound_30 (by decide) (fun c5 => ?_) (fun c5 => ?_)
      · skip
        have h := f_t c5 h
        refine lv_iload hx hb dX0_tellsBound_42 (lv_at hl 0 rfl) ?_
        refine lv_istore (lv' := [(7, .int q3.1), (6, .int q3.1), (0, .ref (G.2.1 12)), (1, .long z1), (3, .long z3), (5, .int z5)]) hx hb dX0_tellsBound_44 hl (by decide) rfl (fun ls hl => ?_)
        refine lv_iload hx hb dX0_tellsBound_46 (lv_at hl 1 rfl) ?_
        refine lv_sipush (v := 1000) hx hb dX0_tellsBound_48 (by decide) ?_
        refine lv_icmp_gt (tgt := 66) hx hb dX0_tellsBound_51 (by decide) (fun c6 => ?_) (fun c6 => ?_)
        · skip
          have h := f_t c6 h
          refine lv_iconst (v := 0) hx hb dX0_tellsBound_66 (by decide) ?_
          obtain rfl := Option.some.inj h
          exact W.zret (v := (0 : Int32)) hx hb hr rfl (q_end hK hP hD hS) hS.2.2 dX0_tellsBound_67
        · skip
          have h := f_f c6 h
          refine lv_lload_n hx hb dX0_tellsBound_54 rfl (lv_at hl 4 rfl) ?_
          refine lv_iload hx hb dX0_tellsBound_55 (lv_at hl 1 rfl) ?_
          refine lv_i2l (v := (q3.1 : Int32).toInt64) hx hb dX0_tellsBound_57 rfl ?_
          refine lv_lmul hx hb dX0_tellsBound_58 ?_
          refine lv_ldc2 (v := 1000000000000000) hx hb hown (hts _ wd_987) dX0_tellsBound_59 ?_
          refine W.lcmp hx hb dX0_tellsBound_62 ?_
          refine lv_if_le (tgt := 68) hx hb dX0_tellsBound_63 (by decide) (fun c7 => ?_) (fun c7 => ?_)
          · skip
            have c7 := (lg_cmp_le _ _).mp c7
            have h := f_t c7 h
            refine lv_lload_n hx hb dX0_tellsBound_68 rfl (lv_at hl 3 rfl) ?_
            refine lv_iload hx hb dX0_tellsBound_69 (lv_at hl 1 rfl) ?_
            refine lv_i2l (v := (q3.1 : Int32).toInt64) hx hb dX0_tellsBound_71 rfl ?_
            refine lv_lmul hx hb dX0_tellsBound_72 ?_
            refine lv_iload hx hb dX0_tellsBound_73 (lv_at hl 0 rfl) ?_
            refine lv_i2l (v := (q3.1 : Int32).toInt64) hx hb dX0_tellsBound_75 rfl ?_
            refine lv_lload_n hx hb dX0_tellsBound_76 rfl (lv_at hl 4 rfl) ?_
            refine lv_lmul hx hb dX0_tellsBound_77 ?_
            refine lv_ladd hx hb dX0_tellsBound_78 ?_
            refine lv_lstore_n (lv' := [(1, .long ((z1 * (q3.1 : Int32).toInt64) + ((q3.1 : Int32).toInt64 * z3))), (7, .int q3.1), (6, .int q3.1), (0, .ref (G.2.1 12)), (3, .long z3), (5, .int z5)]) hx hb dX0_tellsBound_79 rfl hl (by decide) rfl (fun ls hl => ?_)
            refine lv_lload_n hx hb dX0_tellsBound_80 rfl (lv_at hl 4 rfl) ?_
            refine lv_iload hx hb dX0_tellsBound_81 (lv_at hl 2 rfl) ?_
            refine lv_i2l (v := (q3.1 : Int32).toInt64) hx hb dX0_tellsBound_83 rfl ?_
            refine lv_lmul hx hb dX0_tellsBound_84 ?_
            refine lv_lstore_n (lv' := [(3, .long (z3 * (q3.1 : Int32).toInt64)), (1, .long ((z1 * (q3.1 : Int32).toInt64) + ((q3.1 : Int32).toInt64 * z3))), (7, .int q3.1), (6, .int q3.1), (0, .ref (G.2.1 12)), (5, .int z5)]) hx hb dX0_tellsBound_85 rfl hl (by decide) rfl (fun ls hl => ?_)
            refine lv_iinc (v := (z5 + 1)) (lv' := [(5, .int (z5 + 1)), (3, .long (z3 * (q3.1 : Int32).toInt64)), (1, .long ((z1 * (q3.1 : Int32).toInt64) + ((q3.1 : Int32).toInt64 * z3))), (7, .int q3.1), (6, .int q3.1), (0, .ref (G.2.1 12))]) hx hb dX0_tellsBound_86 hl (k := 5) rfl rfl (by decide) rfl (fun ls hl => ?_)
            refine lv_goto (tgt := 7) hx hb dX0_tellsBound_89 (by decide) ?_
            exact ih q4.2 ((z1 * (q3.1 : Int32).toInt64) + ((q3.1 : Int32).toInt64 * z3)) (z3 * (q3.1 : Int32).toInt64) (z5 + 1) h _ _ _ hP hD hS (lv_sub hl [5, 2, 1, 0] rfl)
          · skip
            have c7 := mt (lg_cmp_le _ _).mpr c7
            have h := f_f c7 h
            refine lv_iconst (v := 0) hx hb dX0_tellsBound_66 (by decide) ?_
            obtain rfl := Option.some.inj h
            exact W.zret (v := (0 : Int32)) hx hb hr rfl (q_end hK hP hD hS) hS.2.2 dX0_tellsBound_67
      · skip
        have h := f_f c5 h
        refine lv_aload_n hx hb dX0_tellsBound_33 rfl (lv_at hl 1 rfl) ?_
        refine lv_iload hx hb dX0_tellsBound_34 (lv_at hl 4 rfl) ?_
        obtain ⟨q8, hq8, h⟩ := f_b h
        refine cl_V (w := (hW G Z Y q4.2)) (w' := (hW G Z Y q4.2)) (rv := some (.int q8)) (bytes := cX0_steepOf) (maxL := 2) (ret := (some .int)) (C := RX0) (As := [.int z5]) (rest := []) (stk := [.int q8]) ⟨hx, hb, hml, hown, hts⟩ hK hE hA hP hD hS (c_X0_steepOf l D G Z Y q4.2 z5 q8 hq8) (cwV 1 hts (gwV wd_895 wd_897 wp_33 wd_6 wd_898) rfl rfl rfl hd_X0_steepOf ⟨Nat.le_of_ble_eq_true rfl, Nat.le_of_ble_eq_true rfl⟩) (hg_12 G Z Y q4.2) rfl rfl rfl hl.1 rfl (Nat.le_of_ble_eq_true rfl) dX0_tellsBound_36 ⟨Nat.zero_le _, Nat.zero_le _⟩ rfl (fun H locs hP hD hS => ?_)
        refine lv_goto (tgt := 44) hx hb dX0_tellsBound_39 (by decide) ?_
        refine lv_istore (lv' := [(7, .int q8), (6, .int q3.1), (0, .ref (G.2.1 12)), (1, .long z1), (3, .long z3), (5, .int z5)]) hx hb dX0_tellsBound_44 hl (by decide) rfl (fun ls hl => ?_)
        refine lv_iload hx hb dX0_tellsBound_46 (lv_at hl 1 rfl) ?_
        refine lv_sipush (v := 1000) hx hb dX0_tellsBound_48 (by decide) ?_
        refine lv_icmp_gt (tgt := 66) hx hb dX0_tellsBound_51 (by decide) (fun c9 => ?_) (fun c9 => ?_)
        · skip
          have h := f_t c9 h
          refine lv_iconst (v := 0) hx hb dX0_tellsBound_66 (by decide) ?_
          obtain rfl := Option.some.inj h
          exact W.zret (v := (0 : Int32)) hx hb hr rfl (q_end hK hP hD hS) hS.2.2 dX0_tellsBound_67
        · skip
          have h := f_f c9 h
          refine lv_lload_n hx hb dX0_tellsBound_54 rfl (lv_at hl 4 rfl) ?_
          refine lv_iload hx hb dX0_tellsBound_55 (lv_at hl 1 rfl) ?_
          refine lv_i2l (v := (q3.1 : Int32).toInt64) hx hb dX0_tellsBound_57 rfl ?_
          refine lv_lmul hx hb dX0_tellsBound_58 ?_
          refine lv_ldc2 (v := 1000000000000000) hx hb hown (hts _ wd_987) dX0_tellsBound_59 ?_
          refine W.lcmp hx hb dX0_tellsBound_62 ?_
          refine lv_if_le (tgt := 68) hx hb dX0_tellsBound_63 (by decide) (fun c10 => ?_) (fun c10 => ?_)
          · skip
            have c10 := (lg_cmp_le _ _).mp c10
            have h := f_t c10 h
            refine lv_lload_n hx hb dX0_tellsBound_68 rfl (lv_at hl 3 rfl) ?_
            refine lv_iload hx hb dX0_tellsBound_69 (lv_at hl 1 rfl) ?_
            refine lv_i2l (v := (q3.1 : Int32).toInt64) hx hb dX0_tellsBound_71 rfl ?_
            refine lv_lmul hx hb dX0_tellsBound_72 ?_
            refine lv_iload hx hb dX0_tellsBound_73 (lv_at hl 0 rfl) ?_
            refine lv_i2l (v := (q8 : Int32).toInt64) hx hb dX0_tellsBound_75 rfl ?_
            refine lv_lload_n hx hb dX0_tellsBound_76 rfl (lv_at hl 4 rfl) ?_
            refine lv_lmul hx hb dX0_tellsBound_77 ?_
            refine lv_ladd hx hb dX0_tellsBound_78 ?_
            refine lv_lstore_n (lv' := [(1, .long ((z1 * (q3.1 : Int32).toInt64) + ((q8 : Int32).toInt64 * z3))), (7, .int q8), (6, .int q3.1), (0, .ref (G.2.1 12)), (3, .long z3), (5, .int z5)]) hx hb dX0_tellsBound_79 rfl hl (by decide) rfl (fun ls hl => ?_)
            refine lv_lload_n hx hb dX0_tellsBound_80 rfl (lv_at hl 4 rfl) ?_
            refine lv_iload hx hb dX0_tellsBound_81 (lv_at hl 2 rfl) ?_
            refine lv_i2l (v := (q3.1 : Int32).toInt64) hx hb dX0_tellsBound_83 rfl ?_
            refine lv_lmul hx hb dX0_tellsBound_84 ?_
            refine lv_lstore_n (lv' := [(3, .long (z3 * (q3.1 : Int32).toInt64)), (1, .long ((z1 * (q3.1 : Int32).toInt64) + ((q8 : Int32).toInt64 * z3))), (7, .int q8), (6, .int q3.1), (0, .ref (G.2.1 12)), (5, .int z5)]) hx hb dX0_tellsBound_85 rfl hl (by decide) rfl (fun ls hl => ?_)
            refine lv_iinc (v := (z5 + 1)) (lv' := [(5, .int (z5 + 1)), (3, .long (z3 * (q3.1 : Int32).toInt64)), (1, .long ((z1 * (q3.1 : Int32).toInt64) + ((q8 : Int32).toInt64 * z3))), (7, .int q8), (6, .int q3.1), (0, .ref (G.2.1 12))]) hx hb dX0_tellsBound_86 hl (k := 5) rfl rfl (by decide) rfl (fun ls hl => ?_)
            refine lv_goto (tgt := 7) hx hb dX0_tellsBound_89 (by decide) ?_
            exact ih q4.2 ((z1 * (q3.1 : Int32).toInt64) + ((q8 : Int32).toInt64 * z3)) (z3 * (q3.1 : Int32).toInt64) (z5 + 1) h _ _ _ hP hD hS (lv_sub hl [5, 2, 1, 0] rfl)
          · skip
            have c10 := mt (lg_cmp_le _ _).mpr c10
            have h := f_f c10 h
            refine lv_iconst (v := 0) hx hb dX0_tellsBound_66 (by decide) ?_
            obtain rfl := Option.some.inj h
            exact W.zret (v := (0 : Int32)) hx hb hr rfl (q_end hK hP hD hS) hS.2.2 dX0_tellsBound_67
set_option maxRecDepth 100000 in
set_option maxHeartbeats 8000000 in
theorem c_X0_tellsBound (l : Launch) (D : va_G) (G : hG) (Z : hZ) (Y : va_W) (σ0 : hSt) (F : Nat) (res : (Int32 × hSt)) (h : f_X0_tellsBound F Z σ0 = some res) : CT l yX0_tellsBound cX0_tellsBound 8 (some .boolean) rm_X0_tellsBound D G 0 0 [.ref (G.2.1 12)] (hW G Z Y σ0) (hW G Z Y res.2) (some (.int res.1)) := by
  unfold f_X0_tellsBound at h
  refine CT.mk (cc := cX0_tellsBound) (maxL := 8) (ret := (some .boolean)) (own := RX0) (plainFor_of_name (by decide)) rfl (Nat.le_of_ble_eq_true rfl) ?_
  intro p e s m args below meth c A ls C0 hnm hA hP hD hl
  obtain ⟨hx, hb, hr, hml, hown, hts, hlocks, hK, hE⟩ := id C0
  have hS : va_S A s.heap s.heap [] := va_S.rf
  have hl : lv_has ls 8 [(0, .ref (G.2.1 12))] := hl
  refine lv_lconst (v := 0) hx hb dX0_tellsBound_0 (by decide) ?_
  refine lv_lstore_n (lv' := [(1, .long (0 : Int64)), (0, .ref (G.2.1 12))]) hx hb dX0_tellsBound_1 rfl hl (by decide) rfl (fun ls hl => ?_)
  refine lv_lconst (v := 1) hx hb dX0_tellsBound_2 (by decide) ?_
  refine lv_lstore_n (lv' := [(3, .long (1 : Int64)), (1, .long (0 : Int64)), (0, .ref (G.2.1 12))]) hx hb dX0_tellsBound_3 rfl hl (by decide) rfl (fun ls hl => ?_)
  refine lv_iconst (v := 0) hx hb dX0_tellsBound_4 (by decide) ?_
  refine lv_istore (lv' := [(5, .int (0 : Int32)), (3, .long (1 : Int64)), (1, .long (0 : Int64)), (0, .ref (G.2.1 12))]) hx hb dX0_tellsBound_5 hl (by decide) rfl (fun ls hl => ?_)
  refine W_X0_tellsBound_L7 l D G Z Y σ0 F res C0 hA _ ?_ F σ0 (0 : Int64) (1 : Int64) (0 : Int32) h _ _ _ hP hD hS (lv_sub hl [3, 2, 1, 0] rfl)
  · intro σ1 z1 z3 h H locs ls hP hD hS hl
    refine lv_aload_n hx hb dX0_tellsBound_92 rfl (lv_at hl 0 rfl) ?_
    refine lv_aload_n hx hb dX0_tellsBound_93 rfl (lv_at hl 0 rfl) ?_
    obtain ⟨q11, hq11, h⟩ := f_b h
    refine cl_V (w := (hW G Z Y σ1)) (w' := (hW G Z Y q11.2)) (rv := some (.int q11.1)) (bytes := cX0_asksAtEnd) (maxL := 1) (ret := (some .boolean)) (C := RX0) (As := []) (rest := [.ref (G.2.1 12)]) (stk := [.int q11.1, .ref (G.2.1 12)]) ⟨hx, hb, hml, hown, hts⟩ hK hE hA hP hD hS (c_X0_asksAtEnd l D G Z Y σ1 F q11 hq11) (cwV 0 hts (gwV wd_995 wd_927 wd_928 wd_6 wd_929) rfl rfl rfl hd_X0_asksAtEnd ⟨Nat.le_of_ble_eq_true rfl, Nat.le_of_ble_eq_true rfl⟩) (hg_12 G Z Y σ1) rfl rfl rfl hl.1 rfl (Nat.le_of_ble_eq_true rfl) dX0_tellsBound_94 ⟨Nat.zero_le _, Nat.zero_le _⟩ rfl (fun H locs hP hD hS => ?_)
    refine lv_if_eq (tgt := 108) hx hb dX0_tellsBound_97 (by decide) (fun c12 => ?_) (fun c12 => ?_)
    · skip
      have h := f_t c12 h
      refine lv_lload_n hx hb dX0_tellsBound_108 rfl (lv_at hl 2 rfl) ?_
      refine lv_lload_n hx hb dX0_tellsBound_109 rfl (lv_at hl 2 rfl) ?_
      obtain ⟨q13, hq13, h⟩ := f_b h
      refine cl_V (w := (hW G Z Y q11.2)) (w' := (hW G Z Y q13.2)) (rv := none) (bytes := cX0_setFraction) (maxL := 12) (ret := none) (C := RX0) (As := [.long z3, .long z3]) (rest := []) (stk := []) ⟨hx, hb, hml, hown, hts⟩ hK hE hA hP hD hS (c_X0_setFraction l D G Z Y q11.2 F z3 z3 q13 hq13) (cwV 2 hts (gwV wd_996 wd_998 wp_39 wd_6 wd_999) rfl rfl rfl hd_X0_setFraction ⟨Nat.le_of_ble_eq_true rfl, Nat.le_of_ble_eq_true rfl⟩) (hg_12 G Z Y q11.2) rfl rfl rfl hl.1 rfl (Nat.le_of_ble_eq_true rfl) dX0_tellsBound_110 ⟨Nat.zero_le _, Nat.zero_le _⟩ rfl (fun H locs hP hD hS => ?_)
      refine lv_iconst (v := 1) hx hb dX0_tellsBound_113 (by decide) ?_
      obtain rfl := Option.some.inj h
      exact W.zret (v := (1 : Int32)) hx hb hr rfl (q_end hK hP hD hS) hS.2.2 dX0_tellsBound_114
    · skip
      have h := f_f c12 h
      refine lv_lload_n hx hb dX0_tellsBound_100 rfl (lv_at hl 1 rfl) ?_
      refine lv_lload_n hx hb dX0_tellsBound_101 rfl (lv_at hl 2 rfl) ?_
      refine va_mmin_long hx hb (hml.trans hl.1.symm) hown (hts _ wd_911) (hts _ wd_848) (hts _ wd_12) (hts _ wd_849) (Nat.le_of_ble_eq_true rfl) (Nat.le_of_ble_eq_true rfl) (Nat.zero_le _) (Nat.zero_le _) dX0_tellsBound_102 ?_
      refine lv_goto (tgt := 109) hx hb dX0_tellsBound_105 (by decide) ?_
      refine lv_lload_n hx hb dX0_tellsBound_109 rfl (lv_at hl 2 rfl) ?_
      obtain ⟨q14, hq14, h⟩ := f_b h
      refine cl_V (w := (hW G Z Y q11.2)) (w' := (hW G Z Y q14.2)) (rv := none) (bytes := cX0_setFraction) (maxL := 12) (ret := none) (C := RX0) (As := [.long (if z3 < z1 then z3 else z1), .long z3]) (rest := []) (stk := []) ⟨hx, hb, hml, hown, hts⟩ hK hE hA hP hD hS (c_X0_setFraction l D G Z Y q11.2 F (if z3 < z1 then z3 else z1) z3 q14 hq14) (cwV 2 hts (gwV wd_996 wd_998 wp_39 wd_6 wd_999) rfl rfl rfl hd_X0_setFraction ⟨Nat.le_of_ble_eq_true rfl, Nat.le_of_ble_eq_true rfl⟩) (hg_12 G Z Y q11.2) rfl rfl rfl hl.1 rfl (Nat.le_of_ble_eq_true rfl) dX0_tellsBound_110 ⟨Nat.zero_le _, Nat.zero_le _⟩ rfl (fun H locs hP hD hS => ?_)
      refine lv_iconst (v := 1) hx hb dX0_tellsBound_113 (by decide) ?_
      obtain rfl := Option.some.inj h
      exact W.zret (v := (1 : Int32)) hx hb hr rfl (q_end hK hP hD hS) hS.2.2 dX0_tellsBound_114
abbrev rm_X0_fraction : Room := { frames := 0, cells := 0, slots := 0, locals := 0 }
set_option maxRecDepth 100000 in
set_option maxHeartbeats 8000000 in
theorem c_X0_fraction (l : Launch) (D : va_G) (G : hG) (Z : hZ) (Y : va_W) (σ0 : hSt) (x1 : Int32) (res : Int64) (h : f_X0_fraction Z σ0 x1 = some res) : CT l yX0_fraction cX0_fraction 2 (some .long) rm_X0_fraction D G 0 0 [.ref (G.2.1 12), .int x1] (hW G Z Y σ0) (hW G Z Y σ0) (some (.long res)) := by
  unfold f_X0_fraction at h
  refine CT.mk (cc := cX0_fraction) (maxL := 2) (ret := (some .long)) (own := RX0) (plainFor_of_name (by decide)) rfl (Nat.le_of_ble_eq_true rfl) ?_
  intro p e s m args below meth c A ls C0 hnm hA hP hD hl
  obtain ⟨hx, hb, hr, hml, hown, hts, hlocks, hK, hE⟩ := id C0
  have hS : va_S A s.heap s.heap [] := va_S.rf
  have hl : lv_has ls 2 [(0, .ref (G.2.1 12)), (1, .int x1)] := hl
  refine lv_iload_n hx hb dX0_fraction_0 rfl (lv_at hl 1 rfl) ?_
  refine lv_if_ne (tgt := 9) hx hb dX0_fraction_1 (by decide) (fun c1 => ?_) (fun c1 => ?_)
  · skip
    have h := f_f c1 h
    refine lv_iload_n hx hb dX0_fraction_9 rfl (lv_at hl 1 rfl) ?_
    refine lv_iconst (v := 1) hx hb dX0_fraction_10 (by decide) ?_
    refine lv_icmp_ne (tgt := 21) hx hb dX0_fraction_11 (by decide) (fun c2 => ?_) (fun c2 => ?_)
    · skip
      have h := f_f c2 h
      refine lv_ldc2 (v := (-1)) hx hb hown (hts _ wd_1004) dX0_fraction_21 ?_
      obtain rfl := Option.some.inj h
      exact W.lret (v := (-1 : Int64)) hx hb hr (q_end hK hP hD hS) hS.2.2 dX0_fraction_24
    · skip
      have h := f_t c2 h
      refine lv_aload_n hx hb dX0_fraction_14 rfl (lv_at hl 0 rfl) ?_
      refine va_get (D := D) (ci := 1) (v := .long (σ0.2.1 12 6)) (C := RX0) (T := TX0) (N := 7) hx hb hts inU_X0 hown hK hP _ (hg_12 G Z Y σ0) rfl 6 (by decide) (hts _ wd_134) (fun _ h9 => h9) rfl dX0_fraction_15 ?_
      refine lv_goto (tgt := 24) hx hb dX0_fraction_18 (by decide) ?_
      obtain rfl := Option.some.inj h
      exact W.lret (v := (σ0.2.1 12 6)) hx hb hr (q_end hK hP hD hS) hS.2.2 dX0_fraction_24
  · skip
    have h := f_t c1 h
    refine lv_aload_n hx hb dX0_fraction_4 rfl (lv_at hl 0 rfl) ?_
    refine va_get (D := D) (ci := 1) (v := .long (σ0.2.1 12 5)) (C := RX0) (T := TX0) (N := 7) hx hb hts inU_X0 hown hK hP _ (hg_12 G Z Y σ0) rfl 5 (by decide) (hts _ wd_133) (fun _ h9 => h9) rfl dX0_fraction_5 ?_
    obtain rfl := Option.some.inj h
    exact W.lret (v := (σ0.2.1 12 5)) hx hb hr (q_end hK hP hD hS) hS.2.2 dX0_fraction_8
abbrev rm_X0_isAtMostOneBy : Room := { frames := 0, cells := 0, slots := 0, locals := 0 }
set_option maxRecDepth 100000 in
set_option maxHeartbeats 8000000 in
theorem c_X0_isAtMostOneBy (l : Launch) (D : va_G) (G : hG) (Z : hZ) (Y : va_W) (σ0 : hSt) (x1 : Int32) (res : Int32) (h : f_X0_isAtMostOneBy Z σ0 x1 = some res) : CT l yX0_isAtMostOneBy cX0_isAtMostOneBy 2 (some .boolean) rm_X0_isAtMostOneBy D G 0 0 [.ref (G.2.1 12), .int x1] (hW G Z Y σ0) (hW G Z Y σ0) (some (.int res)) := by
  unfold f_X0_isAtMostOneBy at h
  refine CT.mk (cc := cX0_isAtMostOneBy) (maxL := 2) (ret := (some .boolean)) (own := RX0) (plainFor_of_name (by decide)) rfl (Nat.le_of_ble_eq_true rfl) ?_
  intro p e s m args below meth c A ls C0 hnm hA hP hD hl
  obtain ⟨hx, hb, hr, hml, hown, hts, hlocks, hK, hE⟩ := id C0
  have hS : va_S A s.heap s.heap [] := va_S.rf
  have hl : lv_has ls 2 [(0, .ref (G.2.1 12)), (1, .int x1)] := hl
  refine lv_iload_n hx hb dX0_isAtMostOneBy_0 rfl (lv_at hl 1 rfl) ?_
  refine lv_if_le (tgt := 23) hx hb dX0_isAtMostOneBy_1 (by decide) (fun c1 => ?_) (fun c1 => ?_)
  · skip
    have h := f_t c1 h
    refine lv_iconst (v := 0) hx hb dX0_isAtMostOneBy_23 (by decide) ?_
    obtain rfl := Option.some.inj h
    exact W.zret (v := (0 : Int32)) hx hb hr rfl (q_end hK hP hD hS) hS.2.2 dX0_isAtMostOneBy_24
  · skip
    have h := f_f c1 h
    refine lv_aload_n hx hb dX0_isAtMostOneBy_4 rfl (lv_at hl 0 rfl) ?_
    refine va_get (D := D) (ci := 1) (v := .long (σ0.2.1 12 5)) (C := RX0) (T := TX0) (N := 7) hx hb hts inU_X0 hown hK hP _ (hg_12 G Z Y σ0) rfl 5 (by decide) (hts _ wd_133) (fun _ h9 => h9) rfl dX0_isAtMostOneBy_5 ?_
    refine lv_aload_n hx hb dX0_isAtMostOneBy_8 rfl (lv_at hl 0 rfl) ?_
    refine va_get (D := D) (ci := 1) (v := .long (σ0.2.1 12 6)) (C := RX0) (T := TX0) (N := 7) hx hb hts inU_X0 hown hK hP _ (hg_12 G Z Y σ0) rfl 6 (by decide) (hts _ wd_134) (fun _ h9 => h9) rfl dX0_isAtMostOneBy_9 ?_
    refine lv_iload_n hx hb dX0_isAtMostOneBy_12 rfl (lv_at hl 1 rfl) ?_
    refine lv_i2l (v := (x1 : Int32).toInt64) hx hb dX0_isAtMostOneBy_13 rfl ?_
    obtain ⟨c2, h⟩ := f_n h
    refine lv_ldiv hx hb dX0_isAtMostOneBy_14 c2 ?_
    refine W.lcmp hx hb dX0_isAtMostOneBy_15 ?_
    refine lv_if_gt (tgt := 23) hx hb dX0_isAtMostOneBy_16 (by decide) (fun c3 => ?_) (fun c3 => ?_)
    · skip
      have c3 := (lg_cmp_gt _ _).mp c3
      have h := f_t c3 h
      refine lv_iconst (v := 0) hx hb dX0_isAtMostOneBy_23 (by decide) ?_
      obtain rfl := Option.some.inj h
      exact W.zret (v := (0 : Int32)) hx hb hr rfl (q_end hK hP hD hS) hS.2.2 dX0_isAtMostOneBy_24
    · skip
      have c3 := mt (lg_cmp_gt _ _).mpr c3
      have h := f_f c3 h
      refine lv_iconst (v := 1) hx hb dX0_isAtMostOneBy_19 (by decide) ?_
      refine lv_goto (tgt := 24) hx hb dX0_isAtMostOneBy_20 (by decide) ?_
      obtain rfl := Option.some.inj h
      exact W.zret (v := (1 : Int32)) hx hb hr rfl (q_end hK hP hD hS) hS.2.2 dX0_isAtMostOneBy_24
abbrev rm_X2_joins : Room := { frames := 1, cells := 0, slots := 0, locals := 30 }
set_option maxRecDepth 100000 in
set_option maxHeartbeats 8000000 in
theorem c_X2_joins (l : Launch) (D : va_G) (G : hG) (Z : hZ) (Y : va_W) (σ0 : hSt) (r0 : Nat) (hr0 : isNe Z r0 = true) (x1 : Int32) (x2 : Int32) (res : Int32) (h : f_X2_joins Z σ0 r0 x1 x2 = some res) : CT l yX2_joins cX2_joins 5 (some .boolean) rm_X2_joins D G 0 0 [.ref (G.2.1 r0), .int x1, .int x2] (hW G Z Y σ0) (hW G Z Y σ0) (some (.int res)) := by
  unfold f_X2_joins at h
  refine CT.mk (cc := cX2_joins) (maxL := 5) (ret := (some .boolean)) (own := RX2) (plainFor_of_name (by decide)) rfl (Nat.le_of_ble_eq_true rfl) ?_
  intro p e s m args below meth c A ls C0 hnm hA hP hD hl
  obtain ⟨hx, hb, hr, hml, hown, hts, hlocks, hK, hE⟩ := id C0
  have hS : va_S A s.heap s.heap [] := va_S.rf
  have hl : lv_has ls 5 [(0, .ref (G.2.1 r0)), (1, .int x1), (2, .int x2)] := hl
  refine lv_iload_n hx hb dX2_joins_0 rfl (lv_at hl 1 rfl) ?_
  refine lv_iload_n hx hb dX2_joins_1 rfl (lv_at hl 2 rfl) ?_
  refine va_mmax hx hb (hml.trans hl.1.symm) hown (hts _ wd_1090) (hts _ wd_328) (hts _ wd_12) (hts _ wd_329) (Nat.le_of_ble_eq_true rfl) (Nat.le_of_ble_eq_true rfl) (Nat.zero_le _) (Nat.zero_le _) dX2_joins_2 ?_
  refine lv_istore_n (lv' := [(3, .int (if x1 < x2 then x2 else x1)), (0, .ref (G.2.1 r0)), (1, .int x1), (2, .int x2)]) hx hb dX2_joins_5 rfl hl (by decide) rfl (fun ls hl => ?_)
  refine lv_iload_n hx hb dX2_joins_6 rfl (lv_at hl 2 rfl) ?_
  refine lv_iload_n hx hb dX2_joins_7 rfl (lv_at hl 3 rfl) ?_
  refine va_mmin hx hb (hml.trans hl.1.symm) hown (hts _ wd_1091) (hts _ wd_400) (hts _ wd_12) (hts _ wd_401) (Nat.le_of_ble_eq_true rfl) (Nat.le_of_ble_eq_true rfl) (Nat.zero_le _) (Nat.zero_le _) dX2_joins_8 ?_
  refine lv_istore (lv' := [(4, .int (if x2 < x1 then x2 else x1)), (3, .int (if x1 < x2 then x2 else x1)), (0, .ref (G.2.1 r0)), (1, .int x1), (2, .int x2)]) hx hb dX2_joins_11 hl (by decide) rfl (fun ls hl => ?_)
  refine lv_aload_n hx hb dX2_joins_13 rfl (lv_at hl 2 rfl) ?_
  obtain ⟨qq1, hq1⟩ := hg_Ne G Z Y σ0 hr0
  refine va_get (D := D) (ci := 3) (v := .int (Z.2.2.1 r0 1)) (C := RX2) (T := TX2) (N := 2) hx hb hts inU_X2 hown hK hP _ hq1 rfl 1 (by decide) (hts _ wd_1060) (fun _ h9 => h9) rfl dX2_joins_14 ?_
  refine lv_iload_n hx hb dX2_joins_17 rfl (lv_at hl 1 rfl) ?_
  refine lv_iload_n hx hb dX2_joins_18 rfl (lv_at hl 1 rfl) ?_
  refine lv_iconst (v := 1) hx hb dX2_joins_19 (by decide) ?_
  refine lv_isub hx hb dX2_joins_20 ?_
  refine lv_imul hx hb dX2_joins_21 ?_
  refine lv_iconst (v := 2) hx hb dX2_joins_22 (by decide) ?_
  refine lv_idiv hx hb dX2_joins_23 (by decide) ?_
  refine lv_iload hx hb dX2_joins_24 (lv_at hl 0 rfl) ?_
  refine lv_iadd hx hb dX2_joins_26 ?_
  refine lv_ishr hx hb dX2_joins_27 ?_
  refine lv_iconst (v := 1) hx hb dX2_joins_28 (by decide) ?_
  refine lv_iand hx hb dX2_joins_29 ?_
  refine lv_iconst (v := 1) hx hb dX2_joins_30 (by decide) ?_
  refine lv_icmp_ne (tgt := 38) hx hb dX2_joins_31 (by decide) (fun c2 => ?_) (fun c2 => ?_)
  · skip
    have h := f_f c2 h
    refine lv_iconst (v := 0) hx hb dX2_joins_38 (by decide) ?_
    obtain rfl := Option.some.inj h
    exact W.zret (v := (0 : Int32)) hx hb hr rfl (q_end hK hP hD hS) hS.2.2 dX2_joins_39
  · skip
    have h := f_t c2 h
    refine lv_iconst (v := 1) hx hb dX2_joins_34 (by decide) ?_
    refine lv_goto (tgt := 39) hx hb dX2_joins_35 (by decide) ?_
    obtain rfl := Option.some.inj h
    exact W.zret (v := (1 : Int32)) hx hb hr rfl (q_end hK hP hD hS) hS.2.2 dX2_joins_39
abbrev rm_X2_fits : Room := { frames := 2, cells := 0, slots := 0, locals := 54 }
set_option maxRecDepth 100000 in
set_option maxHeartbeats 8000000 in
theorem W_X2_fits_L3 {p : Program} {e : Env} {s : State} {m : MethodId} {args : Array Value} {below : List Frame} {meth : Method} {c : Code} {A : Nat → Prop} (l : Launch) (D : va_G) (G : hG) (Z : hZ) (Y : va_W) (σ0 : hSt) (F : Nat) (r0 : Nat) (hr0 : isNe Z r0 = true) (x1 : Int32) (x2 : Int32) (r3 : Nat) (hr3 : isNe Z r3 = true) (y1 : Int32) (y2 : Int32) (res : Int32) (C0 : Cx p s m args meth c cX2_fits (some .boolean) RX2 6 D G A) (hA : ∀ q : Nat, s.heap.size ≤ q → A q) : ∀ (n : Nat) (z5 : Int32), f_X2_fits_L3 Z σ0 r0 r3 y1 y2 n z5 = some res → ∀ (H : Heap) (locs : List Loc) (ls : Array Slot), va_P D vwCl (hW G Z Y σ0) H → va_D A (hW G Z Y σ0) → va_S A s.heap H locs → lv_has ls 6 [(0, .ref (G.2.1 r0)), (1, .int y1), (2, .int y2), (3, .ref (G.2.1 r3)), (4, .ref (G.2.1 44)), (5, .int z5)] → W p l e rm_X2_fits s m args below meth c H locs 0 0 (MQ below (Qg (some (.int res)) D (tysG G) (hW G Z Y σ0) A) args s 0 0 A) (F0 m 3 ls []) := by
  obtain ⟨hx, hb, hr, hml, hown, hts, hlocks, hK, hE⟩ := id C0
  intro n
  induction n with
  | zero =>
    intro z5 h
    cases h
  | succ n ih =>
    intro z5 h H locs ls hP hD hS hl
    rw [f_X2_fits_L3] at h
    refine lv_iload hx hb dX2_fits_3 (lv_at hl 5 rfl) ?_
    refine lv_iload_n hx hb dX2_fits_5 rfl (lv_at hl 1 rfl) ?_
    refine lv_icmp_ge (tgt := 45) hx hb dX2_fits_6 (by decide) (fun c1 => ?_) (fun c1 => ?_)
    · skip
      have h := f_t c1 h
      refine lv_iconst (v := 1) hx hb dX2_fits_45 (by decide) ?_
      obtain rfl := Option.some.inj h
      exact W.zret (v := (1 : Int32)) hx hb hr rfl (q_end hK hP hD hS) hS.2.2 dX2_fits_46
    · skip
      have h := f_f c1 h
      refine lv_iload hx hb dX2_fits_9 (lv_at hl 5 rfl) ?_
      refine lv_aload hx hb dX2_fits_11 (lv_at hl 4 rfl) ?_
      refine va_alen (ty := .int) (v := (6 : Int32)) hx hb hK hP _ 0 (hg_44 G Z Y σ0) rfl rfl dX2_fits_13 ?_
      refine lv_icmp_ge (tgt := 45) hx hb dX2_fits_14 (by decide) (fun c2 => ?_) (fun c2 => ?_)
      · skip
        have h := f_t c2 h
        refine lv_iconst (v := 1) hx hb dX2_fits_45 (by decide) ?_
        obtain rfl := Option.some.inj h
        exact W.zret (v := (1 : Int32)) hx hb hr rfl (q_end hK hP hD hS) hS.2.2 dX2_fits_46
      · skip
        have h := f_f c2 h
        refine lv_aload_n hx hb dX2_fits_17 rfl (lv_at hl 0 rfl) ?_
        refine lv_iload hx hb dX2_fits_18 (lv_at hl 5 rfl) ?_
        refine lv_iload_n hx hb dX2_fits_20 rfl (lv_at hl 1 rfl) ?_
        obtain ⟨q3, hq3, h⟩ := f_b h
        obtain ⟨qq4, hq4⟩ := hg_Ne G Z Y σ0 hr0
        refine cl_V (w := (hW G Z Y σ0)) (w' := (hW G Z Y σ0)) (rv := some (.int q3)) (bytes := cX2_joins) (maxL := 5) (ret := (some .boolean)) (C := RX2) (As := [.int z5, .int y1]) (rest := []) (stk := [.int q3]) ⟨hx, hb, hml, hown, hts⟩ hK hE hA hP hD hS (c_X2_joins l D G Z Y σ0 r0 hr0 z5 y1 q3 hq3) (cwV 2 hts (gwV wd_1086 wd_1088 wp_44 wd_29 wd_1089) rfl rfl rfl hd_X2_joins ⟨Nat.le_of_ble_eq_true rfl, Nat.le_of_ble_eq_true rfl⟩) hq4 rfl rfl rfl hl.1 rfl (Nat.le_of_ble_eq_true rfl) dX2_fits_21 ⟨Nat.zero_le _, Nat.zero_le _⟩ rfl (fun H locs hP hD hS => ?_)
        refine lv_aload_n hx hb dX2_fits_24 rfl (lv_at hl 3 rfl) ?_
        refine lv_aload hx hb dX2_fits_25 (lv_at hl 4 rfl) ?_
        refine lv_iload hx hb dX2_fits_27 (lv_at hl 5 rfl) ?_
        obtain ⟨c5, h⟩ := f_n h
        refine va_ialdE (v := (σ0.1 44 ((z5 : Int32).toNatClampNeg))) hx hb hK hP _ 0 (hg_44 G Z Y σ0) rfl c5 dX2_fits_29 rfl ?_
        refine lv_iload_n hx hb dX2_fits_30 rfl (lv_at hl 2 rfl) ?_
        obtain ⟨q6, hq6, h⟩ := f_b h
        obtain ⟨qq7, hq7⟩ := hg_Ne G Z Y σ0 hr3
        refine cl_V (w := (hW G Z Y σ0)) (w' := (hW G Z Y σ0)) (rv := some (.int q6)) (bytes := cX2_joins) (maxL := 5) (ret := (some .boolean)) (C := RX2) (As := [.int (σ0.1 44 ((z5 : Int32).toNatClampNeg)), .int y2]) (rest := [.int q3]) (stk := [.int q6, .int q3]) ⟨hx, hb, hml, hown, hts⟩ hK hE hA hP hD hS (c_X2_joins l D G Z Y σ0 r3 hr3 (σ0.1 44 ((z5 : Int32).toNatClampNeg)) y2 q6 hq6) (cwV 2 hts (gwV wd_1086 wd_1088 wp_44 wd_29 wd_1089) rfl rfl rfl hd_X2_joins ⟨Nat.le_of_ble_eq_true rfl, Nat.le_of_ble_eq_true rfl⟩) hq7 rfl rfl rfl hl.1 rfl (Nat.le_of_ble_eq_true rfl) dX2_fits_31 ⟨Nat.zero_le _, Nat.zero_le _⟩ rfl (fun H locs hP hD hS => ?_)
        refine lv_icmp_eq (tgt := 39) hx hb dX2_fits_34 (by decide) (fun c8 => ?_) (fun c8 => ?_)
        · skip
          have h := f_t c8 h
          refine lv_iinc (v := (z5 + 1)) (lv' := [(5, .int (z5 + 1)), (0, .ref (G.2.1 r0)), (1, .int y1), (2, .int y2), (3, .ref (G.2.1 r3)), (4, .ref (G.2.1 44))]) hx hb dX2_fits_39 hl (k := 5) rfl rfl (by decide) rfl (fun ls hl => ?_)
          refine lv_goto (tgt := 3) hx hb dX2_fits_42 (by decide) ?_
          exact ih (z5 + 1) h _ _ _ hP hD hS (lv_sub hl [1, 2, 3, 4, 5, 0] rfl)
        · skip
          have h := f_f c8 h
          refine lv_iconst (v := 0) hx hb dX2_fits_37 (by decide) ?_
          obtain rfl := Option.some.inj h
          exact W.zret (v := (0 : Int32)) hx hb hr rfl (q_end hK hP hD hS) hS.2.2 dX2_fits_38
set_option maxRecDepth 100000 in
set_option maxHeartbeats 8000000 in
theorem c_X2_fits (l : Launch) (D : va_G) (G : hG) (Z : hZ) (Y : va_W) (σ0 : hSt) (F : Nat) (r0 : Nat) (hr0 : isNe Z r0 = true) (x1 : Int32) (x2 : Int32) (r3 : Nat) (hr3 : isNe Z r3 = true) (res : Int32) (h : f_X2_fits F Z σ0 r0 x1 x2 r3 = some res) : CT l yX2_fits cX2_fits 6 (some .boolean) rm_X2_fits D G 0 0 [.ref (G.2.1 r0), .int x1, .int x2, .ref (G.2.1 r3), .ref (G.2.1 44)] (hW G Z Y σ0) (hW G Z Y σ0) (some (.int res)) := by
  unfold f_X2_fits at h
  refine CT.mk (cc := cX2_fits) (maxL := 6) (ret := (some .boolean)) (own := RX2) (plainFor_of_name (by decide)) rfl (Nat.le_of_ble_eq_true rfl) ?_
  intro p e s m args below meth c A ls C0 hnm hA hP hD hl
  obtain ⟨hx, hb, hr, hml, hown, hts, hlocks, hK, hE⟩ := id C0
  have hS : va_S A s.heap s.heap [] := va_S.rf
  have hl : lv_has ls 6 [(0, .ref (G.2.1 r0)), (1, .int x1), (2, .int x2), (3, .ref (G.2.1 r3)), (4, .ref (G.2.1 44))] := hl
  refine lv_iconst (v := 0) hx hb dX2_fits_0 (by decide) ?_
  refine lv_istore (lv' := [(5, .int (0 : Int32)), (0, .ref (G.2.1 r0)), (1, .int x1), (2, .int x2), (3, .ref (G.2.1 r3)), (4, .ref (G.2.1 44))]) hx hb dX2_fits_1 hl (by decide) rfl (fun ls hl => ?_)
  refine W_X2_fits_L3 l D G Z Y σ0 F r0 hr0 x1 x2 r3 hr3 x1 x2 res C0 hA F (0 : Int32) h _ _ _ hP hD hS (lv_sub hl [1, 2, 3, 4, 5, 0] rfl)
def rmG_X2g (d : Nat) : Room := { frames := 3 + d, cells := 0, slots := 0, locals := 79 + d * 25 }
set_option maxRecDepth 100000 in
set_option maxHeartbeats 8000000 in
theorem W_X2_goOnFrom_L20 {p : Program} {e : Env} {s : State} {m : MethodId} {args : Array Value} {below : List Frame} {meth : Method} {c : Code} {A : Nat → Prop} (l : Launch) (D : va_G) (G : hG) (Z : hZ) (Y : va_W) (F : Nat) (d : Nat) (u_X2_goOnFrom : (hSt → Nat → Int32 → Int32 → Nat → Option (Int32 × hSt))) (hu_X2_goOnFrom : ∀ (σ0 : hSt) (r0 : Nat) (hr0 : isNe Z r0 = true) (x1 : Int32) (x2 : Int32) (r3 : Nat) (hr3 : isNe Z r3 = true) (res : (Int32 × hSt)), u_X2_goOnFrom σ0 r0 x1 x2 r3 = some res → CT l yX2_goOnFrom cX2_goOnFrom 6 (some .boolean) (rmG_X2g d) D G 0 0 [.ref (G.2.1 r0), .int x1, .int x2, .ref (G.2.1 r3), .ref (G.2.1 44)] (hW G Z Y σ0) (hW G Z Y res.2) (some (.int res.1))) (σ0 : hSt) (r0 : Nat) (hr0 : isNe Z r0 = true) (x1 : Int32) (x2 : Int32) (r3 : Nat) (hr3 : isNe Z r3 = true) (y1 : Int32) (y2 : Int32) (res : (Int32 × hSt)) (C0 : Cx p s m args meth c cX2_goOnFrom (some .boolean) RX2 6 D G A) (hA : ∀ q : Nat, s.heap.size ≤ q → A q) : ∀ (n : Nat) (σ1 : hSt) (z5 : Int32), f_X2_goOnFrom_L20 F Z u_X2_goOnFrom r0 r3 y1 y2 n σ1 z5 = some res → ∀ (H : Heap) (locs : List Loc) (ls : Array Slot), va_P D vwCl (hW G Z Y σ1) H → va_D A (hW G Z Y σ1) → va_S A s.heap H locs → lv_has ls 6 [(0, .ref (G.2.1 r0)), (1, .int y1), (2, .int y2), (3, .ref (G.2.1 r3)), (4, .ref (G.2.1 44)), (5, .int z5)] → W p l e (rmG_X2g (d + 1)) s m args below meth c H locs 0 0 (MQ below (Qg (some (.int res.1)) D (tysG G) (hW G Z Y res.2) A) args s 0 0 A) (F0 m 20 ls []) := by
  obtain ⟨hx, hb, hr, hml, hown, hts, hlocks, hK, hE⟩ := id C0
  intro n
  induction n with
  | zero =>
    intro σ1 z5 h
    cases h
  | succ n ih =>
    intro σ1 z5 h H locs ls hP hD hS hl
    rw [f_X2_goOnFrom_L20] at h
    refine lv_iload hx hb dX2_goOnFrom_20 (lv_at hl 5 rfl) ?_
    refine lv_aload_n hx hb dX2_goOnFrom_22 rfl (lv_at hl 0 rfl) ?_
    obtain ⟨qq4, hq4⟩ := hg_Ne G Z Y σ1 hr0
    refine va_get (D := D) (ci := 3) (v := .int (Z.2.2.1 r0 0)) (C := RX2) (T := TX2) (N := 2) hx hb hts inU_X2 hown hK hP _ hq4 rfl 0 (by decide) (hts _ wd_1058) (fun _ h9 => h9) rfl dX2_goOnFrom_23 ?_
    refine lv_icmp_ge (tgt := 84) hx hb dX2_goOnFrom_26 (by decide) (fun c5 => ?_) (fun c5 => ?_)
    · skip
      have h := f_t c5 h
      refine lv_iconst (v := 0) hx hb dX2_goOnFrom_84 (by decide) ?_
      obtain rfl := Option.some.inj h
      exact W.zret (v := (0 : Int32)) hx hb hr rfl (q_end hK hP hD hS) hS.2.2 dX2_goOnFrom_85
    · skip
      have h := f_f c5 h
      refine lv_iload_n hx hb dX2_goOnFrom_29 rfl (lv_at hl 2 rfl) ?_
      refine lv_iload hx hb dX2_goOnFrom_30 (lv_at hl 5 rfl) ?_
      refine lv_ishr hx hb dX2_goOnFrom_32 ?_
      refine lv_iconst (v := 1) hx hb dX2_goOnFrom_33 (by decide) ?_
      refine lv_iand hx hb dX2_goOnFrom_34 ?_
      refine lv_if_ne (tgt := 78) hx hb dX2_goOnFrom_35 (by decide) (fun c6 => ?_) (fun c6 => ?_)
      · skip
        have h := f_f c6 h
        refine lv_iinc (v := (z5 + 1)) (lv' := [(5, .int (z5 + 1)), (0, .ref (G.2.1 r0)), (1, .int y1), (2, .int y2), (3, .ref (G.2.1 r3)), (4, .ref (G.2.1 44))]) hx hb dX2_goOnFrom_78 hl (k := 5) rfl rfl (by decide) rfl (fun ls hl => ?_)
        refine lv_goto (tgt := 20) hx hb dX2_goOnFrom_81 (by decide) ?_
        exact ih σ1 (z5 + 1) h _ _ _ hP hD hS (lv_sub hl [1, 2, 3, 4, 5, 0] rfl)
      · skip
        have h := f_t c6 h
        refine lv_aload_n hx hb dX2_goOnFrom_38 rfl (lv_at hl 0 rfl) ?_
        refine lv_iload_n hx hb dX2_goOnFrom_39 rfl (lv_at hl 1 rfl) ?_
        refine lv_iload hx hb dX2_goOnFrom_40 (lv_at hl 5 rfl) ?_
        refine lv_aload_n hx hb dX2_goOnFrom_42 rfl (lv_at hl 3 rfl) ?_
        refine lv_aload hx hb dX2_goOnFrom_43 (lv_at hl 4 rfl) ?_
        obtain ⟨q7, hq7, h⟩ := f_b h
        obtain ⟨qq8, hq8⟩ := hg_Ne G Z Y σ1 hr0
        refine cl_V (w := (hW G Z Y σ1)) (w' := (hW G Z Y σ1)) (rv := some (.int q7)) (bytes := cX2_fits) (maxL := 6) (ret := (some .boolean)) (C := RX2) (As := [.int y1, .int z5, .ref (G.2.1 r3), .ref (G.2.1 44)]) (rest := []) (stk := [.int q7]) ⟨hx, hb, hml, hown, hts⟩ hK hE hA hP hD hS (c_X2_fits l D G Z Y σ1 F r0 hr0 y1 z5 r3 hr3 q7 hq7) (cwV 4 hts (gwV wd_1082 wd_1084 wp_43 wd_29 wd_1085) rfl rfl rfl hd_X2_fits ⟨by show 2 + 1 ≤ 3 + (d + 1); omega, by show 8 + (6 + 11) + 54 ≤ 79 + (d + 1) * 25; omega⟩) hq8 rfl rfl rfl hl.1 rfl (Nat.le_of_ble_eq_true rfl) dX2_goOnFrom_45 ⟨Nat.zero_le _, Nat.zero_le _⟩ rfl (fun H locs hP hD hS => ?_)
        refine lv_if_eq (tgt := 78) hx hb dX2_goOnFrom_48 (by decide) (fun c9 => ?_) (fun c9 => ?_)
        · skip
          have h := f_t c9 h
          refine lv_iinc (v := (z5 + 1)) (lv' := [(5, .int (z5 + 1)), (0, .ref (G.2.1 r0)), (1, .int y1), (2, .int y2), (3, .ref (G.2.1 r3)), (4, .ref (G.2.1 44))]) hx hb dX2_goOnFrom_78 hl (k := 5) rfl rfl (by decide) rfl (fun ls hl => ?_)
          refine lv_goto (tgt := 20) hx hb dX2_goOnFrom_81 (by decide) ?_
          exact ih σ1 (z5 + 1) h _ _ _ hP hD hS (lv_sub hl [1, 2, 3, 4, 5, 0] rfl)
        · skip
          have h := f_f c9 h
          refine lv_aload hx hb dX2_goOnFrom_51 (lv_at hl 4 rfl) ?_
          refine lv_iload_n hx hb dX2_goOnFrom_53 rfl (lv_at hl 1 rfl) ?_
          refine lv_iload hx hb dX2_goOnFrom_54 (lv_at hl 5 rfl) ?_
          obtain ⟨c10, h⟩ := f_n h
          refine va_iast hx hb hK hP hD hS _ 0 (hg_44 G Z Y σ1) rfl c10 dX2_goOnFrom_56 (fun H locs hP hD hS => ?_)
          have hP := wrP (hp_44 G Z Y σ1 _ _) hP
          have hD := wrD (hp_44 G Z Y σ1 _ _) hD
          refine lv_aload_n hx hb dX2_goOnFrom_57 rfl (lv_at hl 0 rfl) ?_
          refine lv_iload_n hx hb dX2_goOnFrom_58 rfl (lv_at hl 1 rfl) ?_
          refine lv_iconst (v := 1) hx hb dX2_goOnFrom_59 (by decide) ?_
          refine lv_iadd hx hb dX2_goOnFrom_60 ?_
          refine lv_iload_n hx hb dX2_goOnFrom_61 rfl (lv_at hl 2 rfl) ?_
          refine lv_iconst (v := 1) hx hb dX2_goOnFrom_62 (by decide) ?_
          refine lv_iload hx hb dX2_goOnFrom_63 (lv_at hl 5 rfl) ?_
          refine lv_ishl hx hb dX2_goOnFrom_65 ?_
          refine lv_ior hx hb dX2_goOnFrom_66 ?_
          refine lv_aload_n hx hb dX2_goOnFrom_67 rfl (lv_at hl 3 rfl) ?_
          refine lv_aload hx hb dX2_goOnFrom_68 (lv_at hl 4 rfl) ?_
          obtain ⟨q11, hq11, h⟩ := f_b h
          obtain ⟨qq12, hq12⟩ := hg_Ne G Z Y (sI σ1 44 ((y1 : Int32).toNatClampNeg) z5) hr0
          refine cl_V (w := (hW G Z Y (sI σ1 44 ((y1 : Int32).toNatClampNeg) z5))) (w' := (hW G Z Y q11.2)) (rv := some (.int q11.1)) (bytes := cX2_goOnFrom) (maxL := 6) (ret := (some .boolean)) (C := RX2) (As := [.int (y1 + (1 : Int32)), .int (y2 ||| ((1 : Int32) <<< (z5 &&& 31))), .ref (G.2.1 r3), .ref (G.2.1 44)]) (rest := []) (stk := [.int q11.1]) ⟨hx, hb, hml, hown, hts⟩ hK hE hA hP hD hS (hu_X2_goOnFrom (sI σ1 44 ((y1 : Int32).toNatClampNeg) z5) r0 hr0 (y1 + (1 : Int32)) (y2 ||| ((1 : Int32) <<< (z5 &&& 31))) r3 hr3 q11 hq11) (cwV 4 hts (gwV wd_1078 wd_1080 wp_42 wd_29 wd_1081) rfl rfl rfl hd_X2_goOnFrom ⟨by show 3 + d + 1 ≤ 3 + (d + 1); omega, by show 8 + (6 + 11) + (79 + d * 25) ≤ 79 + (d + 1) * 25; omega⟩) hq12 rfl rfl rfl hl.1 rfl (Nat.le_of_ble_eq_true rfl) dX2_goOnFrom_70 ⟨Nat.zero_le _, Nat.zero_le _⟩ rfl (fun H locs hP hD hS => ?_)
          refine lv_if_eq (tgt := 78) hx hb dX2_goOnFrom_73 (by decide) (fun c13 => ?_) (fun c13 => ?_)
          · skip
            have h := f_t c13 h
            refine lv_iinc (v := (z5 + 1)) (lv' := [(5, .int (z5 + 1)), (0, .ref (G.2.1 r0)), (1, .int y1), (2, .int y2), (3, .ref (G.2.1 r3)), (4, .ref (G.2.1 44))]) hx hb dX2_goOnFrom_78 hl (k := 5) rfl rfl (by decide) rfl (fun ls hl => ?_)
            refine lv_goto (tgt := 20) hx hb dX2_goOnFrom_81 (by decide) ?_
            exact ih q11.2 (z5 + 1) h _ _ _ hP hD hS (lv_sub hl [1, 2, 3, 4, 5, 0] rfl)
          · skip
            have h := f_f c13 h
            refine lv_iconst (v := 1) hx hb dX2_goOnFrom_76 (by decide) ?_
            obtain rfl := Option.some.inj h
            exact W.zret (v := (1 : Int32)) hx hb hr rfl (q_end hK hP hD hS) hS.2.2 dX2_goOnFrom_77
set_option maxRecDepth 100000 in
set_option maxHeartbeats 8000000 in
theorem o_X2_goOnFrom (l : Launch) (D : va_G) (G : hG) (Z : hZ) (Y : va_W) (F : Nat) (d : Nat) (u_X2_goOnFrom : (hSt → Nat → Int32 → Int32 → Nat → Option (Int32 × hSt))) (hu_X2_goOnFrom : ∀ (σ0 : hSt) (r0 : Nat) (hr0 : isNe Z r0 = true) (x1 : Int32) (x2 : Int32) (r3 : Nat) (hr3 : isNe Z r3 = true) (res : (Int32 × hSt)), u_X2_goOnFrom σ0 r0 x1 x2 r3 = some res → CT l yX2_goOnFrom cX2_goOnFrom 6 (some .boolean) (rmG_X2g d) D G 0 0 [.ref (G.2.1 r0), .int x1, .int x2, .ref (G.2.1 r3), .ref (G.2.1 44)] (hW G Z Y σ0) (hW G Z Y res.2) (some (.int res.1))) (σ0 : hSt) (r0 : Nat) (hr0 : isNe Z r0 = true) (x1 : Int32) (x2 : Int32) (r3 : Nat) (hr3 : isNe Z r3 = true) (res : (Int32 × hSt)) (h : b_X2_goOnFrom F Z u_X2_goOnFrom σ0 r0 x1 x2 r3 = some res) : CT l yX2_goOnFrom cX2_goOnFrom 6 (some .boolean) (rmG_X2g (d + 1)) D G 0 0 [.ref (G.2.1 r0), .int x1, .int x2, .ref (G.2.1 r3), .ref (G.2.1 44)] (hW G Z Y σ0) (hW G Z Y res.2) (some (.int res.1)) := by
  unfold b_X2_goOnFrom at h
  refine CT.mk (cc := cX2_goOnFrom) (maxL := 6) (ret := (some .boolean)) (own := RX2) (plainFor_of_name (by decide)) rfl (Nat.le_of_ble_eq_true rfl) ?_
  intro p e s m args below meth c A ls C0 hnm hA hP hD hl
  obtain ⟨hx, hb, hr, hml, hown, hts, hlocks, hK, hE⟩ := id C0
  have hS : va_S A s.heap s.heap [] := va_S.rf
  have hl : lv_has ls 6 [(0, .ref (G.2.1 r0)), (1, .int x1), (2, .int x2), (3, .ref (G.2.1 r3)), (4, .ref (G.2.1 44))] := hl
  refine lv_iload_n hx hb dX2_goOnFrom_0 rfl (lv_at hl 1 rfl) ?_
  refine lv_aload_n hx hb dX2_goOnFrom_1 rfl (lv_at hl 0 rfl) ?_
  obtain ⟨qq1, hq1⟩ := hg_Ne G Z Y σ0 hr0
  refine va_get (D := D) (ci := 3) (v := .int (Z.2.2.1 r0 0)) (C := RX2) (T := TX2) (N := 2) hx hb hts inU_X2 hown hK hP _ hq1 rfl 0 (by decide) (hts _ wd_1058) (fun _ h9 => h9) rfl dX2_goOnFrom_2 ?_
  refine lv_icmp_ge (tgt := 15) hx hb dX2_goOnFrom_5 (by decide) (fun c2 => ?_) (fun c2 => ?_)
  · skip
    have h := f_t c2 h
    refine lv_iconst (v := 1) hx hb dX2_goOnFrom_15 (by decide) ?_
    obtain rfl := Option.some.inj h
    exact W.zret (v := (1 : Int32)) hx hb hr rfl (q_end hK hP hD hS) hS.2.2 dX2_goOnFrom_16
  · skip
    have h := f_f c2 h
    refine lv_iload_n hx hb dX2_goOnFrom_8 rfl (lv_at hl 1 rfl) ?_
    refine lv_aload hx hb dX2_goOnFrom_9 (lv_at hl 4 rfl) ?_
    refine va_alen (ty := .int) (v := (6 : Int32)) hx hb hK hP _ 0 (hg_44 G Z Y σ0) rfl rfl dX2_goOnFrom_11 ?_
    refine lv_icmp_lt (tgt := 17) hx hb dX2_goOnFrom_12 (by decide) (fun c3 => ?_) (fun c3 => ?_)
    · skip
      have h := f_t c3 h
      refine lv_iconst (v := 0) hx hb dX2_goOnFrom_17 (by decide) ?_
      refine lv_istore (lv' := [(5, .int (0 : Int32)), (0, .ref (G.2.1 r0)), (1, .int x1), (2, .int x2), (3, .ref (G.2.1 r3)), (4, .ref (G.2.1 44))]) hx hb dX2_goOnFrom_18 hl (by decide) rfl (fun ls hl => ?_)
      refine W_X2_goOnFrom_L20 l D G Z Y F d u_X2_goOnFrom hu_X2_goOnFrom σ0 r0 hr0 x1 x2 r3 hr3 x1 x2 res C0 hA F σ0 (0 : Int32) h _ _ _ hP hD hS (lv_sub hl [1, 2, 3, 4, 5, 0] rfl)
    · skip
      have h := f_f c3 h
      refine lv_iconst (v := 1) hx hb dX2_goOnFrom_15 (by decide) ?_
      obtain rfl := Option.some.inj h
      exact W.zret (v := (1 : Int32)) hx hb hr rfl (q_end hK hP hD hS) hS.2.2 dX2_goOnFrom_16
set_option maxRecDepth 100000 in
set_option maxHeartbeats 8000000 in
theorem c_G_X2g (l : Launch) (D : va_G) (G : hG) (Z : hZ) (Y : va_W) (F : Nat) : ∀ d : Nat, (∀ (σ0 : hSt) (r0 : Nat) (hr0 : isNe Z r0 = true) (x1 : Int32) (x2 : Int32) (r3 : Nat) (hr3 : isNe Z r3 = true) (res : (Int32 × hSt)), (G_X2g F Z d) σ0 r0 x1 x2 r3 = some res → CT l yX2_goOnFrom cX2_goOnFrom 6 (some .boolean) (rmG_X2g d) D G 0 0 [.ref (G.2.1 r0), .int x1, .int x2, .ref (G.2.1 r3), .ref (G.2.1 44)] (hW G Z Y σ0) (hW G Z Y res.2) (some (.int res.1))) := by
  intro d
  induction d with
  | zero =>
    exact fun σ0 r0 hr0 x1 x2 r3 hr3 res h => by
        have h1 : (none : Option (Int32 × hSt)) = some res := h
        cases h1
  | succ d ih =>
    have i_X2_goOnFrom := ih
    exact fun σ0 r0 hr0 x1 x2 r3 hr3 res h => o_X2_goOnFrom l D G Z Y F d _ i_X2_goOnFrom σ0 r0 hr0 x1 x2 r3 hr3 res h
abbrev rm_X2_goOnFrom : Room := rmG_X2g 8
theorem c_X2_goOnFrom (l : Launch) (D : va_G) (G : hG) (Z : hZ) (Y : va_W) (σ0 : hSt) (F : Nat) (r0 : Nat) (hr0 : isNe Z r0 = true) (x1 : Int32) (x2 : Int32) (r3 : Nat) (hr3 : isNe Z r3 = true) (res : (Int32 × hSt)) (h : f_X2_goOnFrom F Z σ0 r0 x1 x2 r3 = some res) : CT l yX2_goOnFrom cX2_goOnFrom 6 (some .boolean) rm_X2_goOnFrom D G 0 0 [.ref (G.2.1 r0), .int x1, .int x2, .ref (G.2.1 r3), .ref (G.2.1 44)] (hW G Z Y σ0) (hW G Z Y res.2) (some (.int res.1)) := (c_G_X2g l D G Z Y F 8) σ0 r0 hr0 x1 x2 r3 hr3 res h
abbrev rm_X2_isAlike : Room := { frames := 12, cells := 0, slots := 0, locals := 304 }
set_option maxRecDepth 100000 in
set_option maxHeartbeats 8000000 in
theorem c_X2_isAlike (l : Launch) (D : va_G) (G : hG) (Z : hZ) (Y : va_W) (σ0 : hSt) (F : Nat) (r0 : Nat) (hr0 : isNe Z r0 = true) (r1 : Nat) (hr1 : isNe Z r1 = true) (res : (Int32 × hSt)) (h : f_X2_isAlike F Z σ0 r0 r1 = some res) : CT l yX2_isAlike cX2_isAlike 3 (some .boolean) rm_X2_isAlike D G 0 0 [.ref (G.2.1 r0), .ref (G.2.1 r1), .ref (G.2.1 44)] (hW G Z Y σ0) (hW G Z Y res.2) (some (.int res.1)) := by
  unfold f_X2_isAlike at h
  refine CT.mk (cc := cX2_isAlike) (maxL := 3) (ret := (some .boolean)) (own := RX2) (plainFor_of_name (by decide)) rfl (Nat.le_of_ble_eq_true rfl) ?_
  intro p e s m args below meth c A ls C0 hnm hA hP hD hl
  obtain ⟨hx, hb, hr, hml, hown, hts, hlocks, hK, hE⟩ := id C0
  have hS : va_S A s.heap s.heap [] := va_S.rf
  have hl : lv_has ls 3 [(0, .ref (G.2.1 r0)), (1, .ref (G.2.1 r1)), (2, .ref (G.2.1 44))] := hl
  refine lv_aload_n hx hb dX2_isAlike_0 rfl (lv_at hl 0 rfl) ?_
  obtain ⟨qq1, hq1⟩ := hg_Ne G Z Y σ0 hr0
  refine va_get (D := D) (ci := 3) (v := .int (Z.2.2.1 r0 0)) (C := RX2) (T := TX2) (N := 2) hx hb hts inU_X2 hown hK hP _ hq1 rfl 0 (by decide) (hts _ wd_1058) (fun _ h9 => h9) rfl dX2_isAlike_1 ?_
  refine lv_aload_n hx hb dX2_isAlike_4 rfl (lv_at hl 1 rfl) ?_
  obtain ⟨qq2, hq2⟩ := hg_Ne G Z Y σ0 hr1
  refine va_get (D := D) (ci := 3) (v := .int (Z.2.2.1 r1 0)) (C := RX2) (T := TX2) (N := 2) hx hb hts inU_X2 hown hK hP _ hq2 rfl 0 (by decide) (hts _ wd_1058) (fun _ h9 => h9) rfl dX2_isAlike_5 ?_
  refine lv_icmp_ne (tgt := 26) hx hb dX2_isAlike_8 (by decide) (fun c3 => ?_) (fun c3 => ?_)
  · skip
    have h := f_f c3 h
    refine lv_iconst (v := 0) hx hb dX2_isAlike_26 (by decide) ?_
    obtain rfl := Option.some.inj h
    exact W.zret (v := (0 : Int32)) hx hb hr rfl (q_end hK hP hD hS) hS.2.2 dX2_isAlike_27
  · skip
    have h := f_t c3 h
    refine lv_aload_n hx hb dX2_isAlike_11 rfl (lv_at hl 0 rfl) ?_
    refine lv_iconst (v := 0) hx hb dX2_isAlike_12 (by decide) ?_
    refine lv_iconst (v := 0) hx hb dX2_isAlike_13 (by decide) ?_
    refine lv_aload_n hx hb dX2_isAlike_14 rfl (lv_at hl 1 rfl) ?_
    refine lv_aload_n hx hb dX2_isAlike_15 rfl (lv_at hl 2 rfl) ?_
    obtain ⟨q4, hq4, h⟩ := f_b h
    obtain ⟨qq5, hq5⟩ := hg_Ne G Z Y σ0 hr0
    refine cl_V (w := (hW G Z Y σ0)) (w' := (hW G Z Y q4.2)) (rv := some (.int q4.1)) (bytes := cX2_goOnFrom) (maxL := 6) (ret := (some .boolean)) (C := RX2) (As := [.int (0 : Int32), .int (0 : Int32), .ref (G.2.1 r1), .ref (G.2.1 44)]) (rest := []) (stk := [.int q4.1]) ⟨hx, hb, hml, hown, hts⟩ hK hE hA hP hD hS (c_X2_goOnFrom l D G Z Y σ0 F r0 hr0 (0 : Int32) (0 : Int32) r1 hr1 q4 hq4) (cwV 4 hts (gwV wd_1078 wd_1080 wp_42 wd_29 wd_1081) rfl rfl rfl hd_X2_goOnFrom ⟨Nat.le_of_ble_eq_true rfl, Nat.le_of_ble_eq_true rfl⟩) hq5 rfl rfl rfl hl.1 rfl (Nat.le_of_ble_eq_true rfl) dX2_isAlike_16 ⟨Nat.zero_le _, Nat.zero_le _⟩ rfl (fun H locs hP hD hS => ?_)
    refine lv_if_eq (tgt := 26) hx hb dX2_isAlike_19 (by decide) (fun c6 => ?_) (fun c6 => ?_)
    · skip
      have h := f_t c6 h
      refine lv_iconst (v := 0) hx hb dX2_isAlike_26 (by decide) ?_
      obtain rfl := Option.some.inj h
      exact W.zret (v := (0 : Int32)) hx hb hr rfl (q_end hK hP hD hS) hS.2.2 dX2_isAlike_27
    · skip
      have h := f_f c6 h
      refine lv_iconst (v := 1) hx hb dX2_isAlike_22 (by decide) ?_
      refine lv_goto (tgt := 27) hx hb dX2_isAlike_23 (by decide) ?_
      obtain rfl := Option.some.inj h
      exact W.zret (v := (1 : Int32)) hx hb hr rfl (q_end hK hP hD hS) hS.2.2 dX2_isAlike_27
abbrev rm_X1_drawBefore : Room := { frames := 0, cells := 0, slots := 0, locals := 0 }
set_option maxRecDepth 100000 in
set_option maxHeartbeats 8000000 in
theorem c_X1_drawBefore (l : Launch) (D : va_G) (G : hG) (Z : hZ) (Y : va_W) (σ0 : hSt) (r0 : Nat) (hr0 : isCo r0 = true) (x1 : Int32) (res : Int64) (h : f_X1_drawBefore Z σ0 r0 x1 = some res) : CT l yX1_drawBefore cX1_drawBefore 2 (some .long) rm_X1_drawBefore D G 0 0 [.ref (G.2.1 r0), .int x1] (hW G Z Y σ0) (hW G Z Y σ0) (some (.long res)) := by
  unfold f_X1_drawBefore at h
  refine CT.mk (cc := cX1_drawBefore) (maxL := 2) (ret := (some .long)) (own := RX1) (plainFor_of_name (by decide)) rfl (Nat.le_of_ble_eq_true rfl) ?_
  intro p e s m args below meth c A ls C0 hnm hA hP hD hl
  obtain ⟨hx, hb, hr, hml, hown, hts, hlocks, hK, hE⟩ := id C0
  have hS : va_S A s.heap s.heap [] := va_S.rf
  have hl : lv_has ls 2 [(0, .ref (G.2.1 r0)), (1, .int x1)] := hl
  refine lv_iload_n hx hb dX1_drawBefore_0 rfl (lv_at hl 1 rfl) ?_
  refine lv_iconst (v := 1) hx hb dX1_drawBefore_1 (by decide) ?_
  refine lv_icmp_lt (tgt := 14) hx hb dX1_drawBefore_2 (by decide) (fun c1 => ?_) (fun c1 => ?_)
  · skip
    have h := f_t c1 h
    refine lv_lconst (v := 0) hx hb dX1_drawBefore_14 (by decide) ?_
    refine lv_goto (tgt := 26) hx hb dX1_drawBefore_15 (by decide) ?_
    obtain rfl := Option.some.inj h
    exact W.lret (v := (0 : Int64)) hx hb hr (q_end hK hP hD hS) hS.2.2 dX1_drawBefore_26
  · skip
    have h := f_f c1 h
    refine lv_iload_n hx hb dX1_drawBefore_5 rfl (lv_at hl 1 rfl) ?_
    refine lv_aload_n hx hb dX1_drawBefore_6 rfl (lv_at hl 0 rfl) ?_
    refine va_get (D := D) (ci := 2) (v := .ref (G.2.1 (r0 + 4))) (C := RX1) (T := TX1) (N := 15) hx hb hts inU_X1 hown hK hP _ (hg_Co G Z Y σ0 hr0) rfl 4 (by decide) (hts _ wd_162) (fun _ h9 => h9) rfl dX1_drawBefore_7 ?_
    refine va_alen (ty := .long) (v := (6 : Int32)) hx hb hK hP _ 1 (hg_Codr G Z Y σ0 hr0) rfl rfl dX1_drawBefore_10 ?_
    refine lv_icmp_le (tgt := 18) hx hb dX1_drawBefore_11 (by decide) (fun c2 => ?_) (fun c2 => ?_)
    · skip
      have h := f_t c2 h
      refine lv_aload_n hx hb dX1_drawBefore_18 rfl (lv_at hl 0 rfl) ?_
      refine va_get (D := D) (ci := 2) (v := .ref (G.2.1 (r0 + 4))) (C := RX1) (T := TX1) (N := 15) hx hb hts inU_X1 hown hK hP _ (hg_Co G Z Y σ0 hr0) rfl 4 (by decide) (hts _ wd_162) (fun _ h9 => h9) rfl dX1_drawBefore_19 ?_
      refine lv_iload_n hx hb dX1_drawBefore_22 rfl (lv_at hl 1 rfl) ?_
      refine lv_iconst (v := 1) hx hb dX1_drawBefore_23 (by decide) ?_
      refine lv_isub hx hb dX1_drawBefore_24 ?_
      obtain ⟨c3, h⟩ := f_n h
      refine va_laldE (v := (σ0.2.1 (r0 + 4) (((x1 - (1 : Int32)) : Int32).toNatClampNeg))) hx hb hK hP _ 1 (hg_Codr G Z Y σ0 hr0) rfl c3 dX1_drawBefore_25 rfl ?_
      obtain rfl := Option.some.inj h
      exact W.lret (v := (σ0.2.1 (r0 + 4) (((x1 - (1 : Int32)) : Int32).toNatClampNeg))) hx hb hr (q_end hK hP hD hS) hS.2.2 dX1_drawBefore_26
    · skip
      have h := f_f c2 h
      refine lv_lconst (v := 0) hx hb dX1_drawBefore_14 (by decide) ?_
      refine lv_goto (tgt := 26) hx hb dX1_drawBefore_15 (by decide) ?_
      obtain rfl := Option.some.inj h
      exact W.lret (v := (0 : Int64)) hx hb hr (q_end hK hP hD hS) hS.2.2 dX1_drawBefore_26
abbrev rm_X1_saidAt : Room := { frames := 0, cells := 0, slots := 0, locals := 0 }
set_option maxRecDepth 100000 in
set_option maxHeartbeats 8000000 in
theorem c_X1_saidAt (l : Launch) (D : va_G) (G : hG) (Z : hZ) (Y : va_W) (σ0 : hSt) (r0 : Nat) (hr0 : isCo r0 = true) (x1 : Int32) (x2 : Int32) (res : Int64) (h : f_X1_saidAt Z σ0 r0 x1 x2 = some res) : CT l yX1_saidAt cX1_saidAt 3 (some .long) rm_X1_saidAt D G 0 0 [.ref (G.2.1 r0), .int x1, .int x2] (hW G Z Y σ0) (hW G Z Y σ0) (some (.long res)) := by
  unfold f_X1_saidAt at h
  refine CT.mk (cc := cX1_saidAt) (maxL := 3) (ret := (some .long)) (own := RX1) (plainFor_of_name (by decide)) rfl (Nat.le_of_ble_eq_true rfl) ?_
  intro p e s m args below meth c A ls C0 hnm hA hP hD hl
  obtain ⟨hx, hb, hr, hml, hown, hts, hlocks, hK, hE⟩ := id C0
  have hS : va_S A s.heap s.heap [] := va_S.rf
  have hl : lv_has ls 3 [(0, .ref (G.2.1 r0)), (1, .int x1), (2, .int x2)] := hl
  refine lv_iload_n hx hb dX1_saidAt_0 rfl (lv_at hl 1 rfl) ?_
  refine lv_if_lt (tgt := 28) hx hb dX1_saidAt_1 (by decide) (fun c1 => ?_) (fun c1 => ?_)
  · skip
    have h := f_t c1 h
    refine lv_lconst (v := 0) hx hb dX1_saidAt_28 (by decide) ?_
    obtain rfl := Option.some.inj h
    exact W.lret (v := (0 : Int64)) hx hb hr (q_end hK hP hD hS) hS.2.2 dX1_saidAt_29
  · skip
    have h := f_f c1 h
    refine lv_iload_n hx hb dX1_saidAt_4 rfl (lv_at hl 1 rfl) ?_
    refine lv_aload_n hx hb dX1_saidAt_5 rfl (lv_at hl 0 rfl) ?_
    refine va_get (D := D) (ci := 2) (v := .ref (G.2.1 (r0 + 22))) (C := RX1) (T := TX1) (N := 15) hx hb hts inU_X1 hown hK hP _ (hg_Co G Z Y σ0 hr0) rfl 3 (by decide) (hts _ wd_161) (fun _ h9 => h9) rfl dX1_saidAt_6 ?_
    refine va_alen (ty := .array .long) (v := (6 : Int32)) hx hb hK hP _ 4 (hg_Cogr G Z Y σ0 hr0) rfl rfl dX1_saidAt_9 ?_
    refine lv_icmp_ge (tgt := 28) hx hb dX1_saidAt_10 (by decide) (fun c2 => ?_) (fun c2 => ?_)
    · skip
      have h := f_t c2 h
      refine lv_lconst (v := 0) hx hb dX1_saidAt_28 (by decide) ?_
      obtain rfl := Option.some.inj h
      exact W.lret (v := (0 : Int64)) hx hb hr (q_end hK hP hD hS) hS.2.2 dX1_saidAt_29
    · skip
      have h := f_f c2 h
      refine lv_iload_n hx hb dX1_saidAt_13 rfl (lv_at hl 2 rfl) ?_
      refine lv_if_lt (tgt := 28) hx hb dX1_saidAt_14 (by decide) (fun c3 => ?_) (fun c3 => ?_)
      · skip
        have h := f_t c3 h
        refine lv_lconst (v := 0) hx hb dX1_saidAt_28 (by decide) ?_
        obtain rfl := Option.some.inj h
        exact W.lret (v := (0 : Int64)) hx hb hr (q_end hK hP hD hS) hS.2.2 dX1_saidAt_29
      · skip
        have h := f_f c3 h
        refine lv_iload_n hx hb dX1_saidAt_17 rfl (lv_at hl 2 rfl) ?_
        refine lv_aload_n hx hb dX1_saidAt_18 rfl (lv_at hl 0 rfl) ?_
        refine va_get (D := D) (ci := 2) (v := .ref (G.2.1 (r0 + 22))) (C := RX1) (T := TX1) (N := 15) hx hb hts inU_X1 hown hK hP _ (hg_Co G Z Y σ0 hr0) rfl 3 (by decide) (hts _ wd_161) (fun _ h9 => h9) rfl dX1_saidAt_19 ?_
        refine lv_iload_n hx hb dX1_saidAt_22 rfl (lv_at hl 1 rfl) ?_
        obtain ⟨c4, h⟩ := f_n h
        refine va_aldg (ty := .array .long) (v := .ref (G.2.1 (24 + 6 * (r0 - 14) + (x1 : Int32).toNatClampNeg))) hx hb hK hP _ 4 (hg_Cogr G Z Y σ0 hr0) rfl rfl c4 dX1_saidAt_23 (by rw [if_pos (vin_lt c4)]; rfl) ?_
        refine va_alen (ty := .long) (v := (Int32.ofNat (jlen (24 + 6 * (r0 - 14) + (x1 : Int32).toNatClampNeg)))) hx hb hK hP _ 1 (hg_J G Z Y σ0 (isJ_Corow hr0 (vin_lt c4))) rfl rfl dX1_saidAt_24 ?_
        refine lv_icmp_lt (tgt := 30) hx hb dX1_saidAt_25 (by decide) (fun c5 => ?_) (fun c5 => ?_)
        · skip
          have h := f_t c5 h
          refine lv_aload_n hx hb dX1_saidAt_30 rfl (lv_at hl 0 rfl) ?_
          refine va_get (D := D) (ci := 2) (v := .ref (G.2.1 (r0 + 22))) (C := RX1) (T := TX1) (N := 15) hx hb hts inU_X1 hown hK hP _ (hg_Co G Z Y σ0 hr0) rfl 3 (by decide) (hts _ wd_161) (fun _ h9 => h9) rfl dX1_saidAt_31 ?_
          refine lv_iload_n hx hb dX1_saidAt_34 rfl (lv_at hl 1 rfl) ?_
          obtain ⟨c6, h⟩ := f_n h
          refine va_aldg (ty := .array .long) (v := .ref (G.2.1 (24 + 6 * (r0 - 14) + (x1 : Int32).toNatClampNeg))) hx hb hK hP _ 4 (hg_Cogr G Z Y σ0 hr0) rfl rfl c6 dX1_saidAt_35 (by rw [if_pos (vin_lt c6)]; rfl) ?_
          refine lv_iload_n hx hb dX1_saidAt_36 rfl (lv_at hl 2 rfl) ?_
          obtain ⟨c7, h⟩ := f_n h
          refine va_laldE (v := (σ0.2.1 (24 + 6 * (r0 - 14) + (x1 : Int32).toNatClampNeg) ((x2 : Int32).toNatClampNeg))) hx hb hK hP _ 1 (hg_J G Z Y σ0 (isJ_Corow hr0 (vin_lt c6))) rfl c7 dX1_saidAt_37 rfl ?_
          obtain rfl := Option.some.inj h
          exact W.lret (v := (σ0.2.1 (24 + 6 * (r0 - 14) + (x1 : Int32).toNatClampNeg) ((x2 : Int32).toNatClampNeg))) hx hb hr (q_end hK hP hD hS) hS.2.2 dX1_saidAt_38
        · skip
          have h := f_f c5 h
          refine lv_lconst (v := 0) hx hb dX1_saidAt_28 (by decide) ?_
          obtain rfl := Option.some.inj h
          exact W.lret (v := (0 : Int64)) hx hb hr (q_end hK hP hD hS) hS.2.2 dX1_saidAt_29
abbrev rm_X1_stir : Room := { frames := 0, cells := 0, slots := 0, locals := 0 }
set_option maxRecDepth 100000 in
set_option maxHeartbeats 8000000 in
theorem c_X1_stir (l : Launch) (D : va_G) (G : hG) (Z : hZ) (Y : va_W) (σ0 : hSt) (r0 : Nat) (hr0 : isCo r0 = true) (x1 : Int64) (res : (Unit × hSt)) (h : f_X1_stir Z σ0 r0 x1 = some res) : CT l yX1_stir cX1_stir 3 none rm_X1_stir D G 0 0 [.ref (G.2.1 r0), .long x1] (hW G Z Y σ0) (hW G Z Y res.2) none := by
  unfold f_X1_stir at h
  refine CT.mk (cc := cX1_stir) (maxL := 3) (ret := none) (own := RX1) (plainFor_of_name (by decide)) rfl (Nat.le_of_ble_eq_true rfl) ?_
  intro p e s m args below meth c A ls C0 hnm hA hP hD hl
  obtain ⟨hx, hb, hr, hml, hown, hts, hlocks, hK, hE⟩ := id C0
  have hS : va_S A s.heap s.heap [] := va_S.rf
  have hl : lv_has ls 3 [(0, .ref (G.2.1 r0)), (1, .long x1)] := hl
  refine lv_aload_n hx hb dX1_stir_0 rfl (lv_at hl 0 rfl) ?_
  refine lv_aload_n hx hb dX1_stir_1 rfl (lv_at hl 0 rfl) ?_
  refine va_get (D := D) (ci := 2) (v := .long (σ0.2.1 r0 14)) (C := RX1) (T := TX1) (N := 15) hx hb hts inU_X1 hown hK hP _ (hg_Co G Z Y σ0 hr0) rfl 14 (by decide) (hts _ wd_177) (fun _ h9 => h9) rfl dX1_stir_2 ?_
  refine lv_ldc2 (v := 6364136223846793005) hx hb hown (hts _ wd_905) dX1_stir_5 ?_
  refine lv_lmul hx hb dX1_stir_8 ?_
  refine lv_ldc2 (v := 1442695040888963407) hx hb hown (hts _ wd_906) dX1_stir_9 ?_
  refine lv_ladd hx hb dX1_stir_12 ?_
  refine lv_lload_n hx hb dX1_stir_13 rfl (lv_at hl 1 rfl) ?_
  refine lv_ladd hx hb dX1_stir_14 ?_
  refine va_put (D := D) (ci := 2) (v := .long ((((σ0.2.1 r0 14) * (6364136223846793005 : Int64)) + (1442695040888963407 : Int64)) + x1)) (ty := .long) (C := RX1) (T := TX1) (N := 15) hx hb hts inU_X1 tyX1 tyX1_ok nmX1 hown hK hP hD hS _ (hg_Co G Z Y σ0 hr0) rfl 14 (by decide) (hts _ wd_177) (fun _ h9 => h9) rfl (by decide +kernel) rfl rfl (Nat.le_of_ble_eq_true rfl) dX1_stir_15 (fun H locs hP hD hS => ?_)
  have hP := wrP (hp_Co_14 G Z Y σ0 hr0 ((((σ0.2.1 r0 14) * (6364136223846793005 : Int64)) + (1442695040888963407 : Int64)) + x1)) hP
  have hD := wrD (hp_Co_14 G Z Y σ0 hr0 ((((σ0.2.1 r0 14) * (6364136223846793005 : Int64)) + (1442695040888963407 : Int64)) + x1)) hD
  obtain rfl := Option.some.inj h
  exact W.vret hx hb hr (q_end hK hP hD hS) hS.2.2 dX1_stir_18
abbrev rm_X1_drawOfDice : Room := { frames := 0, cells := 0, slots := 0, locals := 0 }
set_option maxRecDepth 100000 in
set_option maxHeartbeats 8000000 in
theorem c_X1_drawOfDice (l : Launch) (D : va_G) (G : hG) (Z : hZ) (Y : va_W) (σ0 : hSt) (r0 : Nat) (hr0 : isCo r0 = true) (x1 : Int32) (res : Int32) (h : f_X1_drawOfDice Z σ0 r0 x1 = some res) : CT l yX1_drawOfDice cX1_drawOfDice 2 (some .int) rm_X1_drawOfDice D G 0 0 [.ref (G.2.1 r0), .int x1] (hW G Z Y σ0) (hW G Z Y σ0) (some (.int res)) := by
  unfold f_X1_drawOfDice at h
  refine CT.mk (cc := cX1_drawOfDice) (maxL := 2) (ret := (some .int)) (own := RX1) (plainFor_of_name (by decide)) rfl (Nat.le_of_ble_eq_true rfl) ?_
  intro p e s m args below meth c A ls C0 hnm hA hP hD hl
  obtain ⟨hx, hb, hr, hml, hown, hts, hlocks, hK, hE⟩ := id C0
  have hS : va_S A s.heap s.heap [] := va_S.rf
  have hl : lv_has ls 2 [(0, .ref (G.2.1 r0)), (1, .int x1)] := hl
  refine lv_iload_n hx hb dX1_drawOfDice_0 rfl (lv_at hl 1 rfl) ?_
  refine lv_iconst (v := 1) hx hb dX1_drawOfDice_1 (by decide) ?_
  refine lv_icmp_ge (tgt := 9) hx hb dX1_drawOfDice_2 (by decide) (fun c1 => ?_) (fun c1 => ?_)
  · skip
    have h := f_t c1 h
    refine lv_aload_n hx hb dX1_drawOfDice_9 rfl (lv_at hl 0 rfl) ?_
    refine va_get (D := D) (ci := 2) (v := .long (σ0.2.1 r0 14)) (C := RX1) (T := TX1) (N := 15) hx hb hts inU_X1 hown hK hP _ (hg_Co G Z Y σ0 hr0) rfl 14 (by decide) (hts _ wd_177) (fun _ h9 => h9) rfl dX1_drawOfDice_10 ?_
    refine lv_bipush (v := 33) hx hb dX1_drawOfDice_13 (by decide) ?_
    refine lv_lushr (v := (((σ0.2.1 r0 14)).toUInt64 >>> (((33 : Int32) : Int32).toInt64.toUInt64 &&& Int64.toUInt64 63)).toInt64) hx hb dX1_drawOfDice_15 rfl ?_
    refine lv_iload_n hx hb dX1_drawOfDice_16 rfl (lv_at hl 1 rfl) ?_
    refine lv_i2l (v := (x1 : Int32).toInt64) hx hb dX1_drawOfDice_17 rfl ?_
    obtain ⟨c2, h⟩ := f_n h
    refine lv_lrem hx hb dX1_drawOfDice_18 c2 ?_
    refine lv_l2i (v := (((((σ0.2.1 r0 14)).toUInt64 >>> (((33 : Int32) : Int32).toInt64.toUInt64 &&& Int64.toUInt64 63)).toInt64 - (((σ0.2.1 r0 14)).toUInt64 >>> (((33 : Int32) : Int32).toInt64.toUInt64 &&& Int64.toUInt64 63)).toInt64 / (x1 : Int32).toInt64 * (x1 : Int32).toInt64) : Int64).toInt32) hx hb dX1_drawOfDice_19 rfl ?_
    obtain rfl := Option.some.inj h
    exact W.iret (v := (((((σ0.2.1 r0 14)).toUInt64 >>> (((33 : Int32) : Int32).toInt64.toUInt64 &&& Int64.toUInt64 63)).toInt64 - (((σ0.2.1 r0 14)).toUInt64 >>> (((33 : Int32) : Int32).toInt64.toUInt64 &&& Int64.toUInt64 63)).toInt64 / (x1 : Int32).toInt64 * (x1 : Int32).toInt64) : Int64).toInt32) hx hb hr (q_end hK hP hD hS) hS.2.2 dX1_drawOfDice_20
  · skip
    have h := f_f c1 h
    refine lv_iconst (v := 0) hx hb dX1_drawOfDice_5 (by decide) ?_
    refine lv_goto (tgt := 20) hx hb dX1_drawOfDice_6 (by decide) ?_
    obtain rfl := Option.some.inj h
    exact W.iret (v := (0 : Int32)) hx hb hr (q_end hK hP hD hS) hS.2.2 dX1_drawOfDice_20
abbrev rm_X1_note : Room := { frames := 0, cells := 0, slots := 0, locals := 0 }
set_option maxRecDepth 100000 in
set_option maxHeartbeats 8000000 in
theorem c_X1_note (l : Launch) (D : va_G) (G : hG) (Z : hZ) (Y : va_W) (σ0 : hSt) (r0 : Nat) (hr0 : isCo r0 = true) (x1 : Int32) (x2 : Int32) (x3 : Int64) (res : (Unit × hSt)) (h : f_X1_note Z σ0 r0 x1 x2 x3 = some res) : CT l yX1_note cX1_note 5 none rm_X1_note D G 0 0 [.ref (G.2.1 r0), .int x1, .int x2, .long x3] (hW G Z Y σ0) (hW G Z Y res.2) none := by
  unfold f_X1_note at h
  refine CT.mk (cc := cX1_note) (maxL := 5) (ret := none) (own := RX1) (plainFor_of_name (by decide)) rfl (Nat.le_of_ble_eq_true rfl) ?_
  intro p e s m args below meth c A ls C0 hnm hA hP hD hl
  obtain ⟨hx, hb, hr, hml, hown, hts, hlocks, hK, hE⟩ := id C0
  have hS : va_S A s.heap s.heap [] := va_S.rf
  have hl : lv_has ls 5 [(0, .ref (G.2.1 r0)), (1, .int x1), (2, .int x2), (3, .long x3)] := hl
  refine lv_iload_n hx hb dX1_note_0 rfl (lv_at hl 1 rfl) ?_
  refine lv_if_lt (tgt := 37) hx hb dX1_note_1 (by decide) (fun c1 => ?_) (fun c1 => ?_)
  · skip
    have h := f_t c1 h
    obtain rfl := Option.some.inj h
    exact W.vret hx hb hr (q_end hK hP hD hS) hS.2.2 dX1_note_37
  · skip
    have h := f_f c1 h
    refine lv_iload_n hx hb dX1_note_4 rfl (lv_at hl 1 rfl) ?_
    refine lv_aload_n hx hb dX1_note_5 rfl (lv_at hl 0 rfl) ?_
    refine va_get (D := D) (ci := 2) (v := .ref (G.2.1 (r0 + 22))) (C := RX1) (T := TX1) (N := 15) hx hb hts inU_X1 hown hK hP _ (hg_Co G Z Y σ0 hr0) rfl 3 (by decide) (hts _ wd_161) (fun _ h9 => h9) rfl dX1_note_6 ?_
    refine va_alen (ty := .array .long) (v := (6 : Int32)) hx hb hK hP _ 4 (hg_Cogr G Z Y σ0 hr0) rfl rfl dX1_note_9 ?_
    refine lv_icmp_ge (tgt := 37) hx hb dX1_note_10 (by decide) (fun c2 => ?_) (fun c2 => ?_)
    · skip
      have h := f_t c2 h
      obtain rfl := Option.some.inj h
      exact W.vret hx hb hr (q_end hK hP hD hS) hS.2.2 dX1_note_37
    · skip
      have h := f_f c2 h
      refine lv_iload_n hx hb dX1_note_13 rfl (lv_at hl 2 rfl) ?_
      refine lv_if_lt (tgt := 37) hx hb dX1_note_14 (by decide) (fun c3 => ?_) (fun c3 => ?_)
      · skip
        have h := f_t c3 h
        obtain rfl := Option.some.inj h
        exact W.vret hx hb hr (q_end hK hP hD hS) hS.2.2 dX1_note_37
      · skip
        have h := f_f c3 h
        refine lv_iload_n hx hb dX1_note_17 rfl (lv_at hl 2 rfl) ?_
        refine lv_aload_n hx hb dX1_note_18 rfl (lv_at hl 0 rfl) ?_
        refine va_get (D := D) (ci := 2) (v := .ref (G.2.1 (r0 + 22))) (C := RX1) (T := TX1) (N := 15) hx hb hts inU_X1 hown hK hP _ (hg_Co G Z Y σ0 hr0) rfl 3 (by decide) (hts _ wd_161) (fun _ h9 => h9) rfl dX1_note_19 ?_
        refine lv_iload_n hx hb dX1_note_22 rfl (lv_at hl 1 rfl) ?_
        obtain ⟨c4, h⟩ := f_n h
        refine va_aldg (ty := .array .long) (v := .ref (G.2.1 (24 + 6 * (r0 - 14) + (x1 : Int32).toNatClampNeg))) hx hb hK hP _ 4 (hg_Cogr G Z Y σ0 hr0) rfl rfl c4 dX1_note_23 (by rw [if_pos (vin_lt c4)]; rfl) ?_
        refine va_alen (ty := .long) (v := (Int32.ofNat (jlen (24 + 6 * (r0 - 14) + (x1 : Int32).toNatClampNeg)))) hx hb hK hP _ 1 (hg_J G Z Y σ0 (isJ_Corow hr0 (vin_lt c4))) rfl rfl dX1_note_24 ?_
        refine lv_icmp_ge (tgt := 37) hx hb dX1_note_25 (by decide) (fun c5 => ?_) (fun c5 => ?_)
        · skip
          have h := f_t c5 h
          obtain rfl := Option.some.inj h
          exact W.vret hx hb hr (q_end hK hP hD hS) hS.2.2 dX1_note_37
        · skip
          have h := f_f c5 h
          refine lv_aload_n hx hb dX1_note_28 rfl (lv_at hl 0 rfl) ?_
          refine va_get (D := D) (ci := 2) (v := .ref (G.2.1 (r0 + 22))) (C := RX1) (T := TX1) (N := 15) hx hb hts inU_X1 hown hK hP _ (hg_Co G Z Y σ0 hr0) rfl 3 (by decide) (hts _ wd_161) (fun _ h9 => h9) rfl dX1_note_29 ?_
          refine lv_iload_n hx hb dX1_note_32 rfl (lv_at hl 1 rfl) ?_
          obtain ⟨c6, h⟩ := f_n h
          refine va_aldg (ty := .array .long) (v := .ref (G.2.1 (24 + 6 * (r0 - 14) + (x1 : Int32).toNatClampNeg))) hx hb hK hP _ 4 (hg_Cogr G Z Y σ0 hr0) rfl rfl c6 dX1_note_33 (by rw [if_pos (vin_lt c6)]; rfl) ?_
          refine lv_iload_n hx hb dX1_note_34 rfl (lv_at hl 2 rfl) ?_
          refine lv_lload_n hx hb dX1_note_35 rfl (lv_at hl 3 rfl) ?_
          obtain ⟨c7, h⟩ := f_n h
          refine va_last hx hb hK hP hD hS _ 1 (hg_J G Z Y σ0 (isJ_Corow hr0 (vin_lt c6))) rfl c7 dX1_note_36 (fun H locs hP hD hS => ?_)
          have hP := wrP (hp_J G Z Y σ0 (isJ_Corow hr0 (vin_lt c6)) _ _) hP
          have hD := wrD (hp_J G Z Y σ0 (isJ_Corow hr0 (vin_lt c6)) _ _) hD
          obtain rfl := Option.some.inj h
          exact W.vret hx hb hr (q_end hK hP hD hS) hS.2.2 dX1_note_37
abbrev rm_X1_hasSaid : Room := { frames := 1, cells := 0, slots := 0, locals := 21 }
set_option maxRecDepth 100000 in
set_option maxHeartbeats 8000000 in
theorem c_X1_hasSaid (l : Launch) (D : va_G) (G : hG) (Z : hZ) (Y : va_W) (σ0 : hSt) (r0 : Nat) (hr0 : isCo r0 = true) (x1 : Int32) (x2 : Int32) (res : Int32) (h : f_X1_hasSaid Z σ0 r0 x1 x2 = some res) : CT l yX1_hasSaid cX1_hasSaid 3 (some .boolean) rm_X1_hasSaid D G 0 0 [.ref (G.2.1 r0), .int x1, .int x2] (hW G Z Y σ0) (hW G Z Y σ0) (some (.int res)) := by
  unfold f_X1_hasSaid at h
  refine CT.mk (cc := cX1_hasSaid) (maxL := 3) (ret := (some .boolean)) (own := RX1) (plainFor_of_name (by decide)) rfl (Nat.le_of_ble_eq_true rfl) ?_
  intro p e s m args below meth c A ls C0 hnm hA hP hD hl
  obtain ⟨hx, hb, hr, hml, hown, hts, hlocks, hK, hE⟩ := id C0
  have hS : va_S A s.heap s.heap [] := va_S.rf
  have hl : lv_has ls 3 [(0, .ref (G.2.1 r0)), (1, .int x1), (2, .int x2)] := hl
  refine lv_aload_n hx hb dX1_hasSaid_0 rfl (lv_at hl 0 rfl) ?_
  refine va_get (D := D) (ci := 2) (v := va_rf (((σ0.2.2 r0 8)).map G.2.1)) (C := RX1) (T := TX1) (N := 15) hx hb hts inU_X1 hown hK hP _ (hg_Co G Z Y σ0 hr0) rfl 8 (by decide) (hts _ wd_166) (fun _ h9 => h9) rfl dX1_hasSaid_1 ?_
  rcases f_o h with ⟨ho, h⟩ | ⟨r1, ho, h⟩
  · rw [ho]
    refine lv_ifnullN (tgt := 42) hx hb dX1_hasSaid_4 (by decide) ?_
    refine lv_iconst (v := 0) hx hb dX1_hasSaid_42 (by decide) ?_
    obtain rfl := Option.some.inj h
    exact W.zret (v := (0 : Int32)) hx hb hr rfl (q_end hK hP hD hS) hS.2.2 dX1_hasSaid_43
  · rw [ho]
    obtain ⟨hr1, h⟩ := f_c h
    refine lv_ifnull hx hb dX1_hasSaid_4 ?_
    refine lv_iload_n hx hb dX1_hasSaid_7 rfl (lv_at hl 1 rfl) ?_
    refine lv_if_lt (tgt := 42) hx hb dX1_hasSaid_8 (by decide) (fun c2 => ?_) (fun c2 => ?_)
    · skip
      have h := f_t c2 h
      refine lv_iconst (v := 0) hx hb dX1_hasSaid_42 (by decide) ?_
      obtain rfl := Option.some.inj h
      exact W.zret (v := (0 : Int32)) hx hb hr rfl (q_end hK hP hD hS) hS.2.2 dX1_hasSaid_43
    · skip
      have h := f_f c2 h
      refine lv_iload_n hx hb dX1_hasSaid_11 rfl (lv_at hl 1 rfl) ?_
      refine lv_aload_n hx hb dX1_hasSaid_12 rfl (lv_at hl 0 rfl) ?_
      refine va_get (D := D) (ci := 2) (v := .int (σ0.1 r0 13)) (C := RX1) (T := TX1) (N := 15) hx hb hts inU_X1 hown hK hP _ (hg_Co G Z Y σ0 hr0) rfl 13 (by decide) (hts _ wd_176) (fun _ h9 => h9) rfl dX1_hasSaid_13 ?_
      refine lv_icmp_ge (tgt := 42) hx hb dX1_hasSaid_16 (by decide) (fun c3 => ?_) (fun c3 => ?_)
      · skip
        have h := f_t c3 h
        refine lv_iconst (v := 0) hx hb dX1_hasSaid_42 (by decide) ?_
        obtain rfl := Option.some.inj h
        exact W.zret (v := (0 : Int32)) hx hb hr rfl (q_end hK hP hD hS) hS.2.2 dX1_hasSaid_43
      · skip
        have h := f_f c3 h
        refine lv_iload_n hx hb dX1_hasSaid_19 rfl (lv_at hl 2 rfl) ?_
        refine lv_if_lt (tgt := 42) hx hb dX1_hasSaid_20 (by decide) (fun c4 => ?_) (fun c4 => ?_)
        · skip
          have h := f_t c4 h
          refine lv_iconst (v := 0) hx hb dX1_hasSaid_42 (by decide) ?_
          obtain rfl := Option.some.inj h
          exact W.zret (v := (0 : Int32)) hx hb hr rfl (q_end hK hP hD hS) hS.2.2 dX1_hasSaid_43
        · skip
          have h := f_f c4 h
          refine lv_iload_n hx hb dX1_hasSaid_23 rfl (lv_at hl 2 rfl) ?_
          refine lv_aload_n hx hb dX1_hasSaid_24 rfl (lv_at hl 0 rfl) ?_
          refine va_get (D := D) (ci := 2) (v := va_rf (((σ0.2.2 r0 8)).map G.2.1)) (C := RX1) (T := TX1) (N := 15) hx hb hts inU_X1 hown hK hP _ (hg_Co G Z Y σ0 hr0) rfl 8 (by decide) (hts _ wd_166) (fun _ h9 => h9) rfl dX1_hasSaid_25 ?_
          rcases f_o h with ⟨ho, h⟩ | ⟨r5, ho, h⟩
          · rw [ho]
            cases h
          · rw [ho]
            obtain ⟨hr5, h⟩ := f_c h
            obtain ⟨qq6, hq6⟩ := hg_Ta G Z Y σ0 hr5
            refine va_getN (D := D) (ci := 7) (v := va_rf (((Z.2.2.2 r5 0)).map G.2.1)) (C := RX7) (T := TX7) (N := 4) hx hb hts inU_X7 hown hK hP _ hq6 rfl 0 (by decide) (nF_use 19 hE rfl) (fun _ h9 => h9) rfl dX1_hasSaid_28 ?_
            rcases f_o h with ⟨ho, h⟩ | ⟨r7, ho, h⟩
            · rw [ho]
              refine lv_iload_n hx hb dX1_hasSaid_31 rfl (lv_at hl 1 rfl) ?_
              cases h
            · rw [ho]
              obtain ⟨hr7, h⟩ := f_c h
              refine lv_iload_n hx hb dX1_hasSaid_31 rfl (lv_at hl 1 rfl) ?_
              obtain ⟨q8, hq8, h⟩ := f_b h
              obtain ⟨qq9, hq9⟩ := hg_Sa G Z Y σ0 hr7
              refine cl_V (w := (hW G Z Y σ0)) (w' := (hW G Z Y σ0)) (rv := some (.int q8)) (bytes := cX4_steepOf) (maxL := 2) (ret := (some .int)) (C := RX4) (As := [.int x1]) (rest := [.int x2]) (stk := [.int q8, .int x2]) ⟨hx, hb, hml, hown, hts⟩ hK hE hA hP hD hS (c_X4_steepOf l D G Z Y σ0 r7 hr7 x1 q8 hq8) (cwV 1 hts (gwV wd_862 wd_676 wd_677 wd_18 wd_678) rfl rfl rfl hd_X4_steepOf ⟨Nat.le_of_ble_eq_true rfl, Nat.le_of_ble_eq_true rfl⟩) hq9 rfl rfl rfl hl.1 rfl (Nat.le_of_ble_eq_true rfl) dX1_hasSaid_32 ⟨Nat.zero_le _, Nat.zero_le _⟩ rfl (fun H locs hP hD hS => ?_)
              refine lv_icmp_gt (tgt := 42) hx hb dX1_hasSaid_35 (by decide) (fun c10 => ?_) (fun c10 => ?_)
              · skip
                have h := f_t c10 h
                refine lv_iconst (v := 0) hx hb dX1_hasSaid_42 (by decide) ?_
                obtain rfl := Option.some.inj h
                exact W.zret (v := (0 : Int32)) hx hb hr rfl (q_end hK hP hD hS) hS.2.2 dX1_hasSaid_43
              · skip
                have h := f_f c10 h
                refine lv_iconst (v := 1) hx hb dX1_hasSaid_38 (by decide) ?_
                refine lv_goto (tgt := 43) hx hb dX1_hasSaid_39 (by decide) ?_
                obtain rfl := Option.some.inj h
                exact W.zret (v := (1 : Int32)) hx hb hr rfl (q_end hK hP hD hS) hS.2.2 dX1_hasSaid_43
abbrev rm_X1_drawOf : Room := { frames := 0, cells := 0, slots := 0, locals := 0 }
set_option maxRecDepth 100000 in
set_option maxHeartbeats 8000000 in
theorem c_X1_drawOf (l : Launch) (D : va_G) (G : hG) (Z : hZ) (Y : va_W) (σ0 : hSt) (r0 : Nat) (hr0 : isCo r0 = true) (x1 : Int32) (res : Int32) (h : f_X1_drawOf Z σ0 r0 x1 = some res) : CT l yX1_drawOf cX1_drawOf 2 (some .int) rm_X1_drawOf D G 0 0 [.ref (G.2.1 r0), .int x1] (hW G Z Y σ0) (hW G Z Y σ0) (some (.int res)) := by
  unfold f_X1_drawOf at h
  refine CT.mk (cc := cX1_drawOf) (maxL := 2) (ret := (some .int)) (own := RX1) (plainFor_of_name (by decide)) rfl (Nat.le_of_ble_eq_true rfl) ?_
  intro p e s m args below meth c A ls C0 hnm hA hP hD hl
  obtain ⟨hx, hb, hr, hml, hown, hts, hlocks, hK, hE⟩ := id C0
  have hS : va_S A s.heap s.heap [] := va_S.rf
  have hl : lv_has ls 2 [(0, .ref (G.2.1 r0)), (1, .int x1)] := hl
  refine lv_iload_n hx hb dX1_drawOf_0 rfl (lv_at hl 1 rfl) ?_
  refine lv_if_lt (tgt := 21) hx hb dX1_drawOf_1 (by decide) (fun c1 => ?_) (fun c1 => ?_)
  · skip
    have h := f_t c1 h
    refine lv_iconst (v := (-1)) hx hb dX1_drawOf_21 (by decide) ?_
    refine lv_goto (tgt := 32) hx hb dX1_drawOf_22 (by decide) ?_
    obtain rfl := Option.some.inj h
    exact W.iret (v := (-1 : Int32)) hx hb hr (q_end hK hP hD hS) hS.2.2 dX1_drawOf_32
  · skip
    have h := f_f c1 h
    refine lv_iload_n hx hb dX1_drawOf_4 rfl (lv_at hl 1 rfl) ?_
    refine lv_aload_n hx hb dX1_drawOf_5 rfl (lv_at hl 0 rfl) ?_
    refine va_get (D := D) (ci := 2) (v := .int (σ0.1 r0 12)) (C := RX1) (T := TX1) (N := 15) hx hb hts inU_X1 hown hK hP _ (hg_Co G Z Y σ0 hr0) rfl 12 (by decide) (hts _ wd_174) (fun _ h9 => h9) rfl dX1_drawOf_6 ?_
    refine lv_icmp_ge (tgt := 21) hx hb dX1_drawOf_9 (by decide) (fun c2 => ?_) (fun c2 => ?_)
    · skip
      have h := f_t c2 h
      refine lv_iconst (v := (-1)) hx hb dX1_drawOf_21 (by decide) ?_
      refine lv_goto (tgt := 32) hx hb dX1_drawOf_22 (by decide) ?_
      obtain rfl := Option.some.inj h
      exact W.iret (v := (-1 : Int32)) hx hb hr (q_end hK hP hD hS) hS.2.2 dX1_drawOf_32
    · skip
      have h := f_f c2 h
      refine lv_iload_n hx hb dX1_drawOf_12 rfl (lv_at hl 1 rfl) ?_
      refine lv_aload_n hx hb dX1_drawOf_13 rfl (lv_at hl 0 rfl) ?_
      refine va_get (D := D) (ci := 2) (v := .ref (G.2.1 (r0 + 4))) (C := RX1) (T := TX1) (N := 15) hx hb hts inU_X1 hown hK hP _ (hg_Co G Z Y σ0 hr0) rfl 4 (by decide) (hts _ wd_162) (fun _ h9 => h9) rfl dX1_drawOf_14 ?_
      refine va_alen (ty := .long) (v := (6 : Int32)) hx hb hK hP _ 1 (hg_Codr G Z Y σ0 hr0) rfl rfl dX1_drawOf_17 ?_
      refine lv_icmp_lt (tgt := 25) hx hb dX1_drawOf_18 (by decide) (fun c3 => ?_) (fun c3 => ?_)
      · skip
        have h := f_t c3 h
        refine lv_aload_n hx hb dX1_drawOf_25 rfl (lv_at hl 0 rfl) ?_
        refine va_get (D := D) (ci := 2) (v := .ref (G.2.1 (r0 + 4))) (C := RX1) (T := TX1) (N := 15) hx hb hts inU_X1 hown hK hP _ (hg_Co G Z Y σ0 hr0) rfl 4 (by decide) (hts _ wd_162) (fun _ h9 => h9) rfl dX1_drawOf_26 ?_
        refine lv_iload_n hx hb dX1_drawOf_29 rfl (lv_at hl 1 rfl) ?_
        obtain ⟨c4, h⟩ := f_n h
        refine va_laldE (v := (σ0.2.1 (r0 + 4) ((x1 : Int32).toNatClampNeg))) hx hb hK hP _ 1 (hg_Codr G Z Y σ0 hr0) rfl c4 dX1_drawOf_30 rfl ?_
        refine lv_l2i (v := ((σ0.2.1 (r0 + 4) ((x1 : Int32).toNatClampNeg)) : Int64).toInt32) hx hb dX1_drawOf_31 rfl ?_
        obtain rfl := Option.some.inj h
        exact W.iret (v := ((σ0.2.1 (r0 + 4) ((x1 : Int32).toNatClampNeg)) : Int64).toInt32) hx hb hr (q_end hK hP hD hS) hS.2.2 dX1_drawOf_32
      · skip
        have h := f_f c3 h
        refine lv_iconst (v := (-1)) hx hb dX1_drawOf_21 (by decide) ?_
        refine lv_goto (tgt := 32) hx hb dX1_drawOf_22 (by decide) ?_
        obtain rfl := Option.some.inj h
        exact W.iret (v := (-1 : Int32)) hx hb hr (q_end hK hP hD hS) hS.2.2 dX1_drawOf_32
abbrev rm_X1_saidBy : Room := { frames := 4, cells := 0, slots := 0, locals := 110 }
set_option maxRecDepth 100000 in
set_option maxHeartbeats 8000000 in
theorem c_X1_saidBy (l : Launch) (D : va_G) (G : hG) (Z : hZ) (Y : va_W) (σ0 : hSt) (F : Nat) (r0 : Nat) (hr0 : isCo r0 = true) (r1 : Nat) (hr1 : isTa Z r1 = true) (x2 : Int32) (res : (Int64 × hSt)) (h : f_X1_saidBy F Z σ0 r0 r1 x2 = some res) : CT l yX1_saidBy cX1_saidBy 3 (some .long) rm_X1_saidBy D G 0 0 [.ref (G.2.1 r0), .ref (G.2.1 r1), .int x2] (hW G Z Y σ0) (hW G Z Y res.2) (some (.long res.1)) := by
  unfold f_X1_saidBy at h
  refine CT.mk (cc := cX1_saidBy) (maxL := 3) (ret := (some .long)) (own := RX1) (plainFor_of_name (by decide)) rfl (Nat.le_of_ble_eq_true rfl) ?_
  intro p e s m args below meth c A ls C0 hnm hA hP hD hl
  obtain ⟨hx, hb, hr, hml, hown, hts, hlocks, hK, hE⟩ := id C0
  have hS : va_S A s.heap s.heap [] := va_S.rf
  have hl : lv_has ls 3 [(0, .ref (G.2.1 r0)), (1, .ref (G.2.1 r1)), (2, .int x2)] := hl
  refine lv_aload_n hx hb dX1_saidBy_0 rfl (lv_at hl 0 rfl) ?_
  refine va_get (D := D) (ci := 2) (v := .ref (G.2.1 7)) (C := RX1) (T := TX1) (N := 15) hx hb hts inU_X1 hown hK hP _ (hg_Co G Z Y σ0 hr0) rfl 0 (by decide) (hts _ wd_158) (fun _ h9 => h9) rfl dX1_saidBy_1 ?_
  refine lv_aload_n hx hb dX1_saidBy_4 rfl (lv_at hl 1 rfl) ?_
  obtain ⟨qq1, hq1⟩ := hg_Ta G Z Y σ0 hr1
  refine va_getN (D := D) (ci := 7) (v := va_rf (((Z.2.2.2 r1 3)).map G.2.1)) (C := RX7) (T := TX7) (N := 4) hx hb hts inU_X7 hown hK hP _ hq1 rfl 3 (by decide) (nF_use 25 hE rfl) (fun _ h9 => h9) rfl dX1_saidBy_5 ?_
  rcases f_o h with ⟨ho, h⟩ | ⟨r2, ho, h⟩
  · rw [ho]
    refine lv_iload_n hx hb dX1_saidBy_8 rfl (lv_at hl 2 rfl) ?_
    refine lv_aload_n hx hb dX1_saidBy_9 rfl (lv_at hl 0 rfl) ?_
    refine va_get (D := D) (ci := 2) (v := .ref (G.2.1 (r0 + 2))) (C := RX1) (T := TX1) (N := 15) hx hb hts inU_X1 hown hK hP _ (hg_Co G Z Y σ0 hr0) rfl 2 (by decide) (hts _ wd_160) (fun _ h9 => h9) rfl dX1_saidBy_10 ?_
    cases h
  · rw [ho]
    obtain ⟨hr2, h⟩ := f_c h
    refine lv_iload_n hx hb dX1_saidBy_8 rfl (lv_at hl 2 rfl) ?_
    refine lv_aload_n hx hb dX1_saidBy_9 rfl (lv_at hl 0 rfl) ?_
    refine va_get (D := D) (ci := 2) (v := .ref (G.2.1 (r0 + 2))) (C := RX1) (T := TX1) (N := 15) hx hb hts inU_X1 hown hK hP _ (hg_Co G Z Y σ0 hr0) rfl 2 (by decide) (hts _ wd_160) (fun _ h9 => h9) rfl dX1_saidBy_10 ?_
    obtain ⟨q3, hq3, h⟩ := f_b h
    refine cl_V (w := (hW G Z Y σ0)) (w' := (hW G Z Y q3.2)) (rv := some (.long q3.1)) (bytes := cX3_labelWorth) (maxL := 10) (ret := (some .long)) (C := RX3) (As := [.ref (G.2.1 r2), .int x2, .ref (G.2.1 (r0 + 2))]) (rest := []) (stk := [.long q3.1]) ⟨hx, hb, hml, hown, hts⟩ hK hE hA hP hD hS (c_X3_labelWorth l D G Z Y σ0 F r2 hr2 x2 (r0 + 2) (isJ_Cole hr0) q3 hq3) (cwV 3 hts (gwV wd_831 wd_832 wd_833 wd_5 wd_834) rfl rfl rfl hd_X3_labelWorth ⟨Nat.le_of_ble_eq_true rfl, Nat.le_of_ble_eq_true rfl⟩) (hg_7 G Z Y σ0) rfl rfl rfl hl.1 rfl (Nat.le_of_ble_eq_true rfl) dX1_saidBy_13 ⟨Nat.zero_le _, Nat.zero_le _⟩ rfl (fun H locs hP hD hS => ?_)
    refine lv_aload_n hx hb dX1_saidBy_16 rfl (lv_at hl 1 rfl) ?_
    obtain ⟨qq4, hq4⟩ := hg_Ta G Z Y q3.2 hr1
    refine va_getN (D := D) (ci := 7) (v := .int (Z.2.2.1 r1 1)) (C := RX7) (T := TX7) (N := 4) hx hb hts inU_X7 hown hK hP _ hq4 rfl 1 (by decide) (nF_use 21 hE rfl) (fun _ h9 => h9) rfl dX1_saidBy_17 ?_
    refine lv_i2l (v := ((Z.2.2.1 r1 1) : Int32).toInt64) hx hb dX1_saidBy_20 rfl ?_
    obtain ⟨q5, hq5, h⟩ := f_b h
    refine cl_S (w := (hW G Z Y q3.2)) (w' := (hW G Z Y q3.2)) (rv := some (.long q5)) (bytes := cX3_rest) (maxL := 4) (ret := (some .long)) (As := [.long q3.1, .long ((Z.2.2.1 r1 1) : Int32).toInt64]) (rest := []) (stk := [.long q5]) ⟨hx, hb, hml, hown, hts⟩ hK hE hA hP hD hS (c_X3_rest l D G (hW G Z Y q3.2) q3.1 (((Z.2.2.1 r1 1) : Int32).toInt64) q5 hq5) (mkS hts wd_826 wd_708 wd_5 wd_709 rfl rfl hd_X3_rest ⟨Nat.le_of_ble_eq_true rfl, Nat.le_of_ble_eq_true rfl⟩) rfl hl.1 rfl (Nat.le_of_ble_eq_true rfl) dX1_saidBy_21 ⟨Nat.zero_le _, Nat.zero_le _⟩ rfl (fun H locs hP hD hS => ?_)
    obtain rfl := Option.some.inj h
    exact W.lret (v := q5) hx hb hr (q_end hK hP hD hS) hS.2.2 dX1_saidBy_24
abbrev rm_X1_agrees : Room := { frames := 6, cells := 0, slots := 0, locals := 153 }
set_option maxRecDepth 100000 in
set_option maxHeartbeats 8000000 in
theorem c_X1_agrees (l : Launch) (D : va_G) (G : hG) (Z : hZ) (Y : va_W) (σ0 : hSt) (F : Nat) (r0 : Nat) (hr0 : isCo r0 = true) (r1 : Nat) (hr1 : isTa Z r1 = true) (x2 : Int32) (res : (Int32 × hSt)) (h : f_X1_agrees F Z σ0 r0 r1 x2 = some res) : CT l yX1_agrees cX1_agrees 5 (some .boolean) rm_X1_agrees D G 0 0 [.ref (G.2.1 r0), .ref (G.2.1 r1), .int x2] (hW G Z Y σ0) (hW G Z Y res.2) (some (.int res.1)) := by
  unfold f_X1_agrees at h
  refine CT.mk (cc := cX1_agrees) (maxL := 5) (ret := (some .boolean)) (own := RX1) (plainFor_of_name (by decide)) rfl (Nat.le_of_ble_eq_true rfl) ?_
  intro p e s m args below meth c A ls C0 hnm hA hP hD hl
  obtain ⟨hx, hb, hr, hml, hown, hts, hlocks, hK, hE⟩ := id C0
  have hS : va_S A s.heap s.heap [] := va_S.rf
  have hl : lv_has ls 5 [(0, .ref (G.2.1 r0)), (1, .ref (G.2.1 r1)), (2, .int x2)] := hl
  refine lv_aload_n hx hb dX1_agrees_0 rfl (lv_at hl 0 rfl) ?_
  refine lv_iload_n hx hb dX1_agrees_1 rfl (lv_at hl 2 rfl) ?_
  refine lv_iconst (v := 1) hx hb dX1_agrees_2 (by decide) ?_
  refine lv_aload_n hx hb dX1_agrees_3 rfl (lv_at hl 1 rfl) ?_
  obtain ⟨qq1, hq1⟩ := hg_Ta G Z Y σ0 hr1
  refine va_getN (D := D) (ci := 7) (v := va_rf (((Z.2.2.2 r1 0)).map G.2.1)) (C := RX7) (T := TX7) (N := 4) hx hb hts inU_X7 hown hK hP _ hq1 rfl 0 (by decide) (nF_use 19 hE rfl) (fun _ h9 => h9) rfl dX1_agrees_4 ?_
  rcases f_o h with ⟨ho, h⟩ | ⟨r2, ho, h⟩
  · rw [ho]
    refine lv_iload_n hx hb dX1_agrees_7 rfl (lv_at hl 2 rfl) ?_
    cases h
  · rw [ho]
    obtain ⟨hr2, h⟩ := f_c h
    refine lv_iload_n hx hb dX1_agrees_7 rfl (lv_at hl 2 rfl) ?_
    obtain ⟨q3, hq3, h⟩ := f_b h
    obtain ⟨qq4, hq4⟩ := hg_Sa G Z Y σ0 hr2
    refine cl_V (w := (hW G Z Y σ0)) (w' := (hW G Z Y σ0)) (rv := some (.int q3)) (bytes := cX4_steepOf) (maxL := 2) (ret := (some .int)) (C := RX4) (As := [.int x2]) (rest := [.int (1 : Int32), .int x2, .ref (G.2.1 r0)]) (stk := [.int q3, .int (1 : Int32), .int x2, .ref (G.2.1 r0)]) ⟨hx, hb, hml, hown, hts⟩ hK hE hA hP hD hS (c_X4_steepOf l D G Z Y σ0 r2 hr2 x2 q3 hq3) (cwV 1 hts (gwV wd_862 wd_676 wd_677 wd_18 wd_678) rfl rfl rfl hd_X4_steepOf ⟨Nat.le_of_ble_eq_true rfl, Nat.le_of_ble_eq_true rfl⟩) hq4 rfl rfl rfl hl.1 rfl (Nat.le_of_ble_eq_true rfl) dX1_agrees_8 ⟨Nat.zero_le _, Nat.zero_le _⟩ rfl (fun H locs hP hD hS => ?_)
    refine va_mmin hx hb (hml.trans hl.1.symm) hown (hts _ wd_878) (hts _ wd_400) (hts _ wd_12) (hts _ wd_401) (Nat.le_of_ble_eq_true rfl) (Nat.le_of_ble_eq_true rfl) (Nat.zero_le _) (Nat.zero_le _) dX1_agrees_11 ?_
    obtain ⟨q5, hq5, h⟩ := f_b h
    refine cl_V (w := (hW G Z Y σ0)) (w' := (hW G Z Y σ0)) (rv := some (.long q5)) (bytes := cX1_saidAt) (maxL := 3) (ret := (some .long)) (C := RX1) (As := [.int x2, .int (if q3 < (1 : Int32) then q3 else (1 : Int32))]) (rest := []) (stk := [.long q5]) ⟨hx, hb, hml, hown, hts⟩ hK hE hA hP hD hS (c_X1_saidAt l D G Z Y σ0 r0 hr0 x2 (if q3 < (1 : Int32) then q3 else (1 : Int32)) q5 hq5) (cwV 2 hts (gwV wd_879 wd_880 wd_881 wd_7 wd_882) rfl rfl rfl hd_X1_saidAt ⟨Nat.le_of_ble_eq_true rfl, Nat.le_of_ble_eq_true rfl⟩) (hg_Co G Z Y σ0 hr0) rfl rfl rfl hl.1 rfl (Nat.le_of_ble_eq_true rfl) dX1_agrees_14 ⟨Nat.zero_le _, Nat.zero_le _⟩ rfl (fun H locs hP hD hS => ?_)
    refine lv_lstore_n (lv' := [(3, .long q5), (0, .ref (G.2.1 r0)), (1, .ref (G.2.1 r1)), (2, .int x2)]) hx hb dX1_agrees_17 rfl hl (by decide) rfl (fun ls hl => ?_)
    refine lv_aload_n hx hb dX1_agrees_18 rfl (lv_at hl 1 rfl) ?_
    refine va_get (D := D) (ci := 2) (v := .ref (G.2.1 12)) (C := RX1) (T := TX1) (N := 15) hx hb hts inU_X1 hown hK hP _ (hg_Co G Z Y σ0 hr0) rfl 1 (by decide) (hts _ wd_159) (fun _ h9 => h9) rfl dX1_agrees_19 ?_
    refine lv_iload_n hx hb dX1_agrees_22 rfl (lv_at hl 3 rfl) ?_
    obtain ⟨q6, hq6, h⟩ := f_b h
    refine cl_V (w := (hW G Z Y σ0)) (w' := (hW G Z Y q6.2)) (rv := some (.int q6.1)) (bytes := cX0_asksForSum) (maxL := 2) (ret := (some .boolean)) (C := RX0) (As := [.int x2]) (rest := []) (stk := [.int q6.1]) ⟨hx, hb, hml, hown, hts⟩ hK hE hA hP hD hS (c_X0_asksForSum l D G Z Y σ0 F x2 q6 hq6) (cwV 1 hts (gwV wd_883 wd_884 wd_885 wd_6 wd_886) rfl rfl rfl hd_X0_asksForSum ⟨Nat.le_of_ble_eq_true rfl, Nat.le_of_ble_eq_true rfl⟩) (hg_12 G Z Y σ0) rfl rfl rfl hl.1 rfl (Nat.le_of_ble_eq_true rfl) dX1_agrees_23 ⟨Nat.zero_le _, Nat.zero_le _⟩ rfl (fun H locs hP hD hS => ?_)
    refine lv_if_eq (tgt := 52) hx hb dX1_agrees_26 (by decide) (fun c7 => ?_) (fun c7 => ?_)
    · skip
      have h := f_t c7 h
      refine lv_iconst (v := 1) hx hb dX1_agrees_52 (by decide) ?_
      refine lv_goto (tgt := 57) hx hb dX1_agrees_53 (by decide) ?_
      obtain rfl := Option.some.inj h
      exact W.zret (v := (1 : Int32)) hx hb hr rfl (q_end hK hP hD hS) hS.2.2 dX1_agrees_57
    · skip
      have h := f_f c7 h
      refine lv_aload_n hx hb dX1_agrees_29 rfl (lv_at hl 1 rfl) ?_
      refine lv_iload_n hx hb dX1_agrees_30 rfl (lv_at hl 3 rfl) ?_
      refine lv_iconst (v := 0) hx hb dX1_agrees_31 (by decide) ?_
      obtain ⟨q8, hq8, h⟩ := f_b h
      refine cl_V (w := (hW G Z Y q6.2)) (w' := (hW G Z Y q6.2)) (rv := some (.long q8)) (bytes := cX1_saidAt) (maxL := 3) (ret := (some .long)) (C := RX1) (As := [.int x2, .int (0 : Int32)]) (rest := []) (stk := [.long q8]) ⟨hx, hb, hml, hown, hts⟩ hK hE hA hP hD hS (c_X1_saidAt l D G Z Y q6.2 r0 hr0 x2 (0 : Int32) q8 hq8) (cwV 2 hts (gwV wd_879 wd_880 wd_881 wd_7 wd_882) rfl rfl rfl hd_X1_saidAt ⟨Nat.le_of_ble_eq_true rfl, Nat.le_of_ble_eq_true rfl⟩) (hg_Co G Z Y q6.2 hr0) rfl rfl rfl hl.1 rfl (Nat.le_of_ble_eq_true rfl) dX1_agrees_32 ⟨Nat.zero_le _, Nat.zero_le _⟩ rfl (fun H locs hP hD hS => ?_)
      refine lv_lload_n hx hb dX1_agrees_35 rfl (lv_at hl 0 rfl) ?_
      refine lv_aload_n hx hb dX1_agrees_36 rfl (lv_at hl 2 rfl) ?_
      obtain ⟨qq9, hq9⟩ := hg_Ta G Z Y q6.2 hr1
      refine va_getN (D := D) (ci := 7) (v := .int (Z.2.2.1 r1 1)) (C := RX7) (T := TX7) (N := 4) hx hb hts inU_X7 hown hK hP _ hq9 rfl 1 (by decide) (nF_use 21 hE rfl) (fun _ h9 => h9) rfl dX1_agrees_37 ?_
      refine lv_i2l (v := ((Z.2.2.1 r1 1) : Int32).toInt64) hx hb dX1_agrees_40 rfl ?_
      obtain ⟨q10, hq10, h⟩ := f_b h
      refine cl_S (w := (hW G Z Y q6.2)) (w' := (hW G Z Y q6.2)) (rv := some (.long q10)) (bytes := cX3_plus) (maxL := 8) (ret := (some .long)) (As := [.long q8, .long q5, .long ((Z.2.2.1 r1 1) : Int32).toInt64]) (rest := []) (stk := [.long q10]) ⟨hx, hb, hml, hown, hts⟩ hK hE hA hP hD hS (c_X3_plus l D G (hW G Z Y q6.2) q8 q5 (((Z.2.2.1 r1 1) : Int32).toInt64) q10 hq10) (mkS hts wd_865 wd_598 wd_5 wd_599 rfl rfl hd_X3_plus ⟨Nat.le_of_ble_eq_true rfl, Nat.le_of_ble_eq_true rfl⟩) rfl hl.1 rfl (Nat.le_of_ble_eq_true rfl) dX1_agrees_41 ⟨Nat.zero_le _, Nat.zero_le _⟩ rfl (fun H locs hP hD hS => ?_)
      refine lv_aload_n hx hb dX1_agrees_44 rfl (lv_at hl 1 rfl) ?_
      refine va_get (D := D) (ci := 2) (v := .long (q6.2.2.1 r0 10)) (C := RX1) (T := TX1) (N := 15) hx hb hts inU_X1 hown hK hP _ (hg_Co G Z Y q6.2 hr0) rfl 10 (by decide) (hts _ wd_170) (fun _ h9 => h9) rfl dX1_agrees_45 ?_
      refine W.lcmp hx hb dX1_agrees_48 ?_
      refine lv_if_ne (tgt := 56) hx hb dX1_agrees_49 (by decide) (fun c11 => ?_) (fun c11 => ?_)
      · skip
        have c11 := mt (lg_cmp_eq _ _).mpr c11
        have h := f_f c11 h
        refine lv_iconst (v := 0) hx hb dX1_agrees_56 (by decide) ?_
        obtain rfl := Option.some.inj h
        exact W.zret (v := (0 : Int32)) hx hb hr rfl (q_end hK hP hD hS) hS.2.2 dX1_agrees_57
      · skip
        have c11 := (lg_cmp_eq _ _).mp c11
        have h := f_t c11 h
        refine lv_iconst (v := 1) hx hb dX1_agrees_52 (by decide) ?_
        refine lv_goto (tgt := 57) hx hb dX1_agrees_53 (by decide) ?_
        obtain rfl := Option.some.inj h
        exact W.zret (v := (1 : Int32)) hx hb hr rfl (q_end hK hP hD hS) hS.2.2 dX1_agrees_57
abbrev rm_X1_truthsOf : Room := { frames := 3, cells := 0, slots := 0, locals := 90 }
set_option maxRecDepth 100000 in
set_option maxHeartbeats 8000000 in
theorem W_X1_truthsOf_L36 {p : Program} {e : Env} {s : State} {m : MethodId} {args : Array Value} {below : List Frame} {meth : Method} {c : Code} {A : Nat → Prop} (l : Launch) (D : va_G) (G : hG) (Z : hZ) (Y : va_W) (σ0 : hSt) (F : Nat) (r0 : Nat) (hr0 : isCo r0 = true) (r1 : Nat) (hr1 : isTa Z r1 = true) (x2 : Int32) (w3 : Nat) (hw3 : isJ w3 = true) (y2 : Int32) (res : (Nat × hSt)) (C0 : Cx p s m args meth c cX1_truthsOf (some (.array .long)) RX1 6 D G A) (hA : ∀ q : Nat, s.heap.size ≤ q → A q) (k74 : hSt → Option (Nat × hSt)) (hk74 : ∀ (σ1 : hSt), k74 σ1 = some res → ∀ (H : Heap) (locs : List Loc) (ls : Array Slot), va_P D vwCl (hW G Z Y σ1) H → va_D A (hW G Z Y σ1) → va_S A s.heap H locs → lv_has ls 6 [(0, .ref (G.2.1 r0)), (1, .ref (G.2.1 r1)), (2, .int y2), (3, .ref (G.2.1 w3))] → W p l e rm_X1_truthsOf s m args below meth c H locs 0 0 (MQ below (Qg (some (.ref (G.2.1 res.1))) D (tysG G) (hW G Z Y res.2) A) args s 0 0 A) (F0 m 74 ls [])) : ∀ (n : Nat) (σ1 : hSt) (z4 : Int32), f_X1_truthsOf_L36 w3 Z r0 y2 k74 n σ1 z4 = some res → ∀ (H : Heap) (locs : List Loc) (ls : Array Slot), va_P D vwCl (hW G Z Y σ1) H → va_D A (hW G Z Y σ1) → va_S A s.heap H locs → lv_has ls 6 [(0, .ref (G.2.1 r0)), (1, .ref (G.2.1 r1)), (2, .int y2), (3, .ref (G.2.1 w3)), (4, .int z4)] → W p l e rm_X1_truthsOf s m args below meth c H locs 0 0 (MQ below (Qg (some (.ref (G.2.1 res.1))) D (tysG G) (hW G Z Y res.2) A) args s 0 0 A) (F0 m 36 ls []) := by
  obtain ⟨hx, hb, hr, hml, hown, hts, hlocks, hK, hE⟩ := id C0
  intro n
  induction n with
  | zero =>
    intro σ1 z4 h
    cases h
  | succ n ih =>
    intro σ1 z4 h H locs ls hP hD hS hl
    rw [f_X1_truthsOf_L36] at h
    refine lv_iload hx hb dX1_truthsOf_36 (lv_at hl 4 rfl) ?_
    refine lv_iload_n hx hb dX1_truthsOf_38 rfl (lv_at hl 2 rfl) ?_
    refine lv_icmp_ge (tgt := 74) hx hb dX1_truthsOf_39 (by decide) (fun c3 => ?_) (fun c3 => ?_)
    · skip
      have h := f_t c3 h
      exact hk74 σ1 h _ _ _ hP hD hS (lv_sub hl [0, 1, 2, 3] rfl)
    · skip
      have h := f_f c3 h
      refine lv_iload hx hb dX1_truthsOf_42 (lv_at hl 4 rfl) ?_
      refine lv_aload_n hx hb dX1_truthsOf_44 rfl (lv_at hl 0 rfl) ?_
      refine va_get (D := D) (ci := 2) (v := .ref (G.2.1 (r0 + 4))) (C := RX1) (T := TX1) (N := 15) hx hb hts inU_X1 hown hK hP _ (hg_Co G Z Y σ1 hr0) rfl 4 (by decide) (hts _ wd_162) (fun _ h9 => h9) rfl dX1_truthsOf_45 ?_
      refine va_alen (ty := .long) (v := (6 : Int32)) hx hb hK hP _ 1 (hg_Codr G Z Y σ1 hr0) rfl rfl dX1_truthsOf_48 ?_
      refine lv_icmp_ge (tgt := 74) hx hb dX1_truthsOf_49 (by decide) (fun c4 => ?_) (fun c4 => ?_)
      · skip
        have h := f_t c4 h
        exact hk74 σ1 h _ _ _ hP hD hS (lv_sub hl [0, 1, 2, 3] rfl)
      · skip
        have h := f_f c4 h
        refine lv_aload_n hx hb dX1_truthsOf_52 rfl (lv_at hl 0 rfl) ?_
        refine va_get (D := D) (ci := 2) (v := .ref (G.2.1 7)) (C := RX1) (T := TX1) (N := 15) hx hb hts inU_X1 hown hK hP _ (hg_Co G Z Y σ1 hr0) rfl 0 (by decide) (hts _ wd_158) (fun _ h9 => h9) rfl dX1_truthsOf_53 ?_
        refine lv_iload hx hb dX1_truthsOf_56 (lv_at hl 4 rfl) ?_
        refine lv_aload_n hx hb dX1_truthsOf_58 rfl (lv_at hl 0 rfl) ?_
        refine va_get (D := D) (ci := 2) (v := .ref (G.2.1 (r0 + 4))) (C := RX1) (T := TX1) (N := 15) hx hb hts inU_X1 hown hK hP _ (hg_Co G Z Y σ1 hr0) rfl 4 (by decide) (hts _ wd_162) (fun _ h9 => h9) rfl dX1_truthsOf_59 ?_
        refine lv_iload hx hb dX1_truthsOf_62 (lv_at hl 4 rfl) ?_
        obtain ⟨c5, h⟩ := f_n h
        refine va_laldE (v := (σ1.2.1 (r0 + 4) ((z4 : Int32).toNatClampNeg))) hx hb hK hP _ 1 (hg_Codr G Z Y σ1 hr0) rfl c5 dX1_truthsOf_64 rfl ?_
        obtain ⟨q6, hq6, h⟩ := f_b h
        refine cl_V (w := (hW G Z Y σ1)) (w' := (hW G Z Y q6.2)) (rv := none) (bytes := cX3_put) (maxL := 4) (ret := none) (C := RX3) (As := [.int z4, .long (σ1.2.1 (r0 + 4) ((z4 : Int32).toNatClampNeg))]) (rest := []) (stk := []) ⟨hx, hb, hml, hown, hts⟩ hK hE hA hP hD hS (c_X3_put l D G Z Y σ1 z4 (σ1.2.1 (r0 + 4) ((z4 : Int32).toNatClampNeg)) q6 hq6) (cwV 2 hts (gwV wd_861 wd_583 wd_584 wd_5 wd_585) rfl rfl rfl hd_X3_put ⟨Nat.le_of_ble_eq_true rfl, Nat.le_of_ble_eq_true rfl⟩) (hg_7 G Z Y σ1) rfl rfl rfl hl.1 rfl (Nat.le_of_ble_eq_true rfl) dX1_truthsOf_65 ⟨Nat.zero_le _, Nat.zero_le _⟩ rfl (fun H locs hP hD hS => ?_)
        refine lv_iinc (v := (z4 + 1)) (lv' := [(4, .int (z4 + 1)), (0, .ref (G.2.1 r0)), (1, .ref (G.2.1 r1)), (2, .int y2), (3, .ref (G.2.1 w3))]) hx hb dX1_truthsOf_68 hl (k := 4) rfl rfl (by decide) rfl (fun ls hl => ?_)
        refine lv_goto (tgt := 36) hx hb dX1_truthsOf_71 (by decide) ?_
        exact ih q6.2 (z4 + 1) h _ _ _ hP hD hS (lv_sub hl [1, 2, 3, 4, 0] rfl)
set_option maxRecDepth 100000 in
set_option maxHeartbeats 8000000 in
theorem W_X1_truthsOf_L91 {p : Program} {e : Env} {s : State} {m : MethodId} {args : Array Value} {below : List Frame} {meth : Method} {c : Code} {A : Nat → Prop} (l : Launch) (D : va_G) (G : hG) (Z : hZ) (Y : va_W) (σ0 : hSt) (F : Nat) (r0 : Nat) (hr0 : isCo r0 = true) (r1 : Nat) (hr1 : isTa Z r1 = true) (x2 : Int32) (w3 : Nat) (hw3 : isJ w3 = true) (y2 : Int32) (y4 : Int32) (res : (Nat × hSt)) (C0 : Cx p s m args meth c cX1_truthsOf (some (.array .long)) RX1 6 D G A) (hA : ∀ q : Nat, s.heap.size ≤ q → A q) : ∀ (n : Nat) (σ1 : hSt) (z5 : Int32), f_X1_truthsOf_L91 w3 F Z r0 r1 y2 y4 n σ1 z5 = some res → ∀ (H : Heap) (locs : List Loc) (ls : Array Slot), va_P D vwCl (hW G Z Y σ1) H → va_D A (hW G Z Y σ1) → va_S A s.heap H locs → lv_has ls 6 [(0, .ref (G.2.1 r0)), (1, .ref (G.2.1 r1)), (2, .int y2), (3, .ref (G.2.1 w3)), (4, .int y4), (5, .int z5)] → W p l e rm_X1_truthsOf s m args below meth c H locs 0 0 (MQ below (Qg (some (.ref (G.2.1 res.1))) D (tysG G) (hW G Z Y res.2) A) args s 0 0 A) (F0 m 91 ls []) := by
  obtain ⟨hx, hb, hr, hml, hown, hts, hlocks, hK, hE⟩ := id C0
  intro n
  induction n with
  | zero =>
    intro σ1 z5 h
    cases h
  | succ n ih =>
    intro σ1 z5 h H locs ls hP hD hS hl
    rw [f_X1_truthsOf_L91] at h
    refine lv_iload hx hb dX1_truthsOf_91 (lv_at hl 5 rfl) ?_
    refine lv_iload hx hb dX1_truthsOf_93 (lv_at hl 4 rfl) ?_
    refine lv_icmp_gt (tgt := 145) hx hb dX1_truthsOf_95 (by decide) (fun c11 => ?_) (fun c11 => ?_)
    · skip
      have h := f_t c11 h
      refine lv_iload_n hx hb dX1_truthsOf_145 rfl (lv_at hl 2 rfl) ?_
      refine lv_if_ne (tgt := 154) hx hb dX1_truthsOf_146 (by decide) (fun c12 => ?_) (fun c12 => ?_)
      · skip
        have h := f_f c12 h
        refine lv_aload_n hx hb dX1_truthsOf_154 rfl (lv_at hl 3 rfl) ?_
        obtain rfl := Option.some.inj h
        exact W.aret (v := .ref (G.2.1 w3)) hx hb hr (Or.inr ⟨_, rfl⟩) (Or.inr ⟨_, rfl⟩) (q_end hK hP hD hS) hS.2.2 dX1_truthsOf_155
      · skip
        have h := f_t c12 h
        refine lv_aload_n hx hb dX1_truthsOf_149 rfl (lv_at hl 0 rfl) ?_
        refine lv_aload_n hx hb dX1_truthsOf_150 rfl (lv_at hl 1 rfl) ?_
        refine va_put (D := D) (ci := 2) (v := .ref (G.2.1 r1)) (ty := (.object "LiarHall$Talk")) (C := RX1) (T := TX1) (N := 15) hx hb hts inU_X1 tyX1 tyX1_ok nmX1 hown hK hP hD hS _ (hg_Co G Z Y σ1 hr0) rfl 7 (by decide) (hts _ wd_165) (fun _ h9 => h9) rfl (by decide +kernel) rfl rfl (Nat.le_of_ble_eq_true rfl) dX1_truthsOf_151 (fun H locs hP hD hS => ?_)
        have hP := wrP (hp_Co_7 G Z Y σ1 hr0 (some r1)) hP
        have hD := wrD (hp_Co_7 G Z Y σ1 hr0 (some r1)) hD
        refine lv_aload_n hx hb dX1_truthsOf_154 rfl (lv_at hl 3 rfl) ?_
        obtain rfl := Option.some.inj h
        exact W.aret (v := .ref (G.2.1 w3)) hx hb hr (Or.inr ⟨_, rfl⟩) (Or.inr ⟨_, rfl⟩) (q_end hK hP hD hS) hS.2.2 dX1_truthsOf_155
    · skip
      have h := f_f c11 h
      refine lv_iload hx hb dX1_truthsOf_98 (lv_at hl 5 rfl) ?_
      refine lv_aload_n hx hb dX1_truthsOf_100 rfl (lv_at hl 3 rfl) ?_
      refine va_alen (ty := .long) (v := (Int32.ofNat (jlen w3))) hx hb hK hP _ 1 (hg_J G Z Y σ1 hw3) rfl rfl dX1_truthsOf_101 ?_
      refine lv_icmp_ge (tgt := 145) hx hb dX1_truthsOf_102 (by decide) (fun c13 => ?_) (fun c13 => ?_)
      · skip
        have h := f_t c13 h
        refine lv_iload_n hx hb dX1_truthsOf_145 rfl (lv_at hl 2 rfl) ?_
        refine lv_if_ne (tgt := 154) hx hb dX1_truthsOf_146 (by decide) (fun c14 => ?_) (fun c14 => ?_)
        · skip
          have h := f_f c14 h
          refine lv_aload_n hx hb dX1_truthsOf_154 rfl (lv_at hl 3 rfl) ?_
          obtain rfl := Option.some.inj h
          exact W.aret (v := .ref (G.2.1 w3)) hx hb hr (Or.inr ⟨_, rfl⟩) (Or.inr ⟨_, rfl⟩) (q_end hK hP hD hS) hS.2.2 dX1_truthsOf_155
        · skip
          have h := f_t c14 h
          refine lv_aload_n hx hb dX1_truthsOf_149 rfl (lv_at hl 0 rfl) ?_
          refine lv_aload_n hx hb dX1_truthsOf_150 rfl (lv_at hl 1 rfl) ?_
          refine va_put (D := D) (ci := 2) (v := .ref (G.2.1 r1)) (ty := (.object "LiarHall$Talk")) (C := RX1) (T := TX1) (N := 15) hx hb hts inU_X1 tyX1 tyX1_ok nmX1 hown hK hP hD hS _ (hg_Co G Z Y σ1 hr0) rfl 7 (by decide) (hts _ wd_165) (fun _ h9 => h9) rfl (by decide +kernel) rfl rfl (Nat.le_of_ble_eq_true rfl) dX1_truthsOf_151 (fun H locs hP hD hS => ?_)
          have hP := wrP (hp_Co_7 G Z Y σ1 hr0 (some r1)) hP
          have hD := wrD (hp_Co_7 G Z Y σ1 hr0 (some r1)) hD
          refine lv_aload_n hx hb dX1_truthsOf_154 rfl (lv_at hl 3 rfl) ?_
          obtain rfl := Option.some.inj h
          exact W.aret (v := .ref (G.2.1 w3)) hx hb hr (Or.inr ⟨_, rfl⟩) (Or.inr ⟨_, rfl⟩) (q_end hK hP hD hS) hS.2.2 dX1_truthsOf_155
      · skip
        have h := f_f c13 h
        refine lv_aload_n hx hb dX1_truthsOf_105 rfl (lv_at hl 0 rfl) ?_
        refine va_get (D := D) (ci := 2) (v := .ref (G.2.1 7)) (C := RX1) (T := TX1) (N := 15) hx hb hts inU_X1 hown hK hP _ (hg_Co G Z Y σ1 hr0) rfl 0 (by decide) (hts _ wd_158) (fun _ h9 => h9) rfl dX1_truthsOf_106 ?_
        refine lv_iload_n hx hb dX1_truthsOf_109 rfl (lv_at hl 2 rfl) ?_
        refine lv_iload hx hb dX1_truthsOf_110 (lv_at hl 5 rfl) ?_
        refine lv_i2l (v := (z5 : Int32).toInt64) hx hb dX1_truthsOf_112 rfl ?_
        obtain ⟨q15, hq15, h⟩ := f_b h
        refine cl_V (w := (hW G Z Y σ1)) (w' := (hW G Z Y q15.2)) (rv := none) (bytes := cX3_put) (maxL := 4) (ret := none) (C := RX3) (As := [.int y2, .long (z5 : Int32).toInt64]) (rest := []) (stk := []) ⟨hx, hb, hml, hown, hts⟩ hK hE hA hP hD hS (c_X3_put l D G Z Y σ1 y2 ((z5 : Int32).toInt64) q15 hq15) (cwV 2 hts (gwV wd_861 wd_583 wd_584 wd_5 wd_585) rfl rfl rfl hd_X3_put ⟨Nat.le_of_ble_eq_true rfl, Nat.le_of_ble_eq_true rfl⟩) (hg_7 G Z Y σ1) rfl rfl rfl hl.1 rfl (Nat.le_of_ble_eq_true rfl) dX1_truthsOf_113 ⟨Nat.zero_le _, Nat.zero_le _⟩ rfl (fun H locs hP hD hS => ?_)
        refine lv_aload_n hx hb dX1_truthsOf_116 rfl (lv_at hl 3 rfl) ?_
        refine lv_iload hx hb dX1_truthsOf_117 (lv_at hl 5 rfl) ?_
        refine lv_aload_n hx hb dX1_truthsOf_119 rfl (lv_at hl 0 rfl) ?_
        refine va_get (D := D) (ci := 2) (v := .ref (G.2.1 7)) (C := RX1) (T := TX1) (N := 15) hx hb hts inU_X1 hown hK hP _ (hg_Co G Z Y q15.2 hr0) rfl 0 (by decide) (hts _ wd_158) (fun _ h9 => h9) rfl dX1_truthsOf_120 ?_
        refine lv_aload_n hx hb dX1_truthsOf_123 rfl (lv_at hl 1 rfl) ?_
        obtain ⟨qq16, hq16⟩ := hg_Ta G Z Y q15.2 hr1
        refine va_getN (D := D) (ci := 7) (v := va_rf (((Z.2.2.2 r1 0)).map G.2.1)) (C := RX7) (T := TX7) (N := 4) hx hb hts inU_X7 hown hK hP _ hq16 rfl 0 (by decide) (nF_use 19 hE rfl) (fun _ h9 => h9) rfl dX1_truthsOf_124 ?_
        rcases f_o h with ⟨ho, h⟩ | ⟨r17, ho, h⟩
        · rw [ho]
          refine lv_iload_n hx hb dX1_truthsOf_127 rfl (lv_at hl 2 rfl) ?_
          refine lv_iconst (v := 1) hx hb dX1_truthsOf_128 (by decide) ?_
          refine lv_iadd hx hb dX1_truthsOf_129 ?_
          refine lv_aload_n hx hb dX1_truthsOf_130 rfl (lv_at hl 1 rfl) ?_
          obtain ⟨qq18, hq18⟩ := hg_Ta G Z Y q15.2 hr1
          refine va_getN (D := D) (ci := 7) (v := .int (Z.2.2.1 r1 1)) (C := RX7) (T := TX7) (N := 4) hx hb hts inU_X7 hown hK hP _ hq18 rfl 1 (by decide) (nF_use 21 hE rfl) (fun _ h9 => h9) rfl dX1_truthsOf_131 ?_
          refine lv_i2l (v := ((Z.2.2.1 r1 1) : Int32).toInt64) hx hb dX1_truthsOf_134 rfl ?_
          cases h
        · rw [ho]
          obtain ⟨hr17, h⟩ := f_c h
          refine lv_iload_n hx hb dX1_truthsOf_127 rfl (lv_at hl 2 rfl) ?_
          refine lv_iconst (v := 1) hx hb dX1_truthsOf_128 (by decide) ?_
          refine lv_iadd hx hb dX1_truthsOf_129 ?_
          refine lv_aload_n hx hb dX1_truthsOf_130 rfl (lv_at hl 1 rfl) ?_
          obtain ⟨qq19, hq19⟩ := hg_Ta G Z Y q15.2 hr1
          refine va_getN (D := D) (ci := 7) (v := .int (Z.2.2.1 r1 1)) (C := RX7) (T := TX7) (N := 4) hx hb hts inU_X7 hown hK hP _ hq19 rfl 1 (by decide) (nF_use 21 hE rfl) (fun _ h9 => h9) rfl dX1_truthsOf_131 ?_
          refine lv_i2l (v := ((Z.2.2.1 r1 1) : Int32).toInt64) hx hb dX1_truthsOf_134 rfl ?_
          obtain ⟨q20, hq20, h⟩ := f_b h
          refine cl_V (w := (hW G Z Y q15.2)) (w' := (hW G Z Y q20.2)) (rv := some (.long q20.1)) (bytes := cX3_overCorners) (maxL := 10) (ret := (some .long)) (C := RX3) (As := [.ref (G.2.1 r17), .int (y2 + (1 : Int32)), .long ((Z.2.2.1 r1 1) : Int32).toInt64]) (rest := [.int z5, .ref (G.2.1 w3)]) (stk := [.long q20.1, .int z5, .ref (G.2.1 w3)]) ⟨hx, hb, hml, hown, hts⟩ hK hE hA hP hD hS (c_X3_overCorners l D G Z Y q15.2 F r17 hr17 (y2 + (1 : Int32)) (((Z.2.2.1 r1 1) : Int32).toInt64) q20 hq20) (cwV 3 hts (gwV wd_864 wd_578 wd_579 wd_5 wd_580) rfl rfl rfl hd_X3_overCorners ⟨Nat.le_of_ble_eq_true rfl, Nat.le_of_ble_eq_true rfl⟩) (hg_7 G Z Y q15.2) rfl rfl rfl hl.1 rfl (Nat.le_of_ble_eq_true rfl) dX1_truthsOf_135 ⟨Nat.zero_le _, Nat.zero_le _⟩ rfl (fun H locs hP hD hS => ?_)
          obtain ⟨c21, h⟩ := f_n h
          refine va_last hx hb hK hP hD hS _ 1 (hg_J G Z Y q20.2 hw3) rfl c21 dX1_truthsOf_138 (fun H locs hP hD hS => ?_)
          have hP := wrP (hp_J G Z Y q20.2 hw3 _ _) hP
          have hD := wrD (hp_J G Z Y q20.2 hw3 _ _) hD
          refine lv_iinc (v := (z5 + 1)) (lv' := [(5, .int (z5 + 1)), (0, .ref (G.2.1 r0)), (1, .ref (G.2.1 r1)), (2, .int y2), (3, .ref (G.2.1 w3)), (4, .int y4)]) hx hb dX1_truthsOf_139 hl (k := 5) rfl rfl (by decide) rfl (fun ls hl => ?_)
          refine lv_goto (tgt := 91) hx hb dX1_truthsOf_142 (by decide) ?_
          exact ih (sJ q20.2 w3 ((z5 : Int32).toNatClampNeg) q20.1) (z5 + 1) h _ _ _ hP hD hS (lv_sub hl [1, 2, 3, 4, 5, 0] rfl)
set_option maxRecDepth 100000 in
set_option maxHeartbeats 8000000 in
theorem c_X1_truthsOf (l : Launch) (D : va_G) (G : hG) (Z : hZ) (Y : va_W) (σ0 : hSt) (F : Nat) (r0 : Nat) (hr0 : isCo r0 = true) (r1 : Nat) (hr1 : isTa Z r1 = true) (x2 : Int32) (res : (Nat × hSt)) (h : f_X1_truthsOf F Z σ0 r0 r1 x2 = some res) : CT l yX1_truthsOf cX1_truthsOf 6 (some (.array .long)) rm_X1_truthsOf D G 0 0 [.ref (G.2.1 r0), .ref (G.2.1 r1), .int x2] (hW G Z Y σ0) (hW G Z Y res.2) (some (.ref (G.2.1 res.1))) := by
  unfold f_X1_truthsOf at h
  refine CT.mk (cc := cX1_truthsOf) (maxL := 6) (ret := (some (.array .long))) (own := RX1) (plainFor_of_name (by decide)) rfl (Nat.le_of_ble_eq_true rfl) ?_
  intro p e s m args below meth c A ls C0 hnm hA hP hD hl
  obtain ⟨hx, hb, hr, hml, hown, hts, hlocks, hK, hE⟩ := id C0
  have hS : va_S A s.heap s.heap [] := va_S.rf
  have hl : lv_has ls 6 [(0, .ref (G.2.1 r0)), (1, .ref (G.2.1 r1)), (2, .int x2)] := hl
  refine lv_iload_n hx hb dX1_truthsOf_0 rfl (lv_at hl 2 rfl) ?_
  refine lv_if_ne (tgt := 17) hx hb dX1_truthsOf_1 (by decide) (fun c1 => ?_) (fun c1 => ?_)
  · skip
    have h := f_f c1 h
    refine lv_iload_n hx hb dX1_truthsOf_17 rfl (lv_at hl 2 rfl) ?_
    refine lv_if_ne (tgt := 28) hx hb dX1_truthsOf_18 (by decide) (fun c2 => ?_) (fun c2 => ?_)
    · skip
      have h := f_f c2 h
      refine lv_aload_n hx hb dX1_truthsOf_28 rfl (lv_at hl 0 rfl) ?_
      refine va_get (D := D) (ci := 2) (v := .ref (G.2.1 (r0 + 6))) (C := RX1) (T := TX1) (N := 15) hx hb hts inU_X1 hown hK hP _ (hg_Co G Z Y σ0 hr0) rfl 5 (by decide) (hts _ wd_163) (fun _ h9 => h9) rfl dX1_truthsOf_29 ?_
      refine lv_astore_n (lv' := [(3, .ref (G.2.1 (r0 + 6))), (0, .ref (G.2.1 r0)), (1, .ref (G.2.1 r1)), (2, .int x2)]) hx hb dX1_truthsOf_32 rfl hl (by decide) rfl (fun ls hl => ?_)
      refine lv_iconst (v := 0) hx hb dX1_truthsOf_33 (by decide) ?_
      refine lv_istore (lv' := [(4, .int (0 : Int32)), (3, .ref (G.2.1 (r0 + 6))), (0, .ref (G.2.1 r0)), (1, .ref (G.2.1 r1)), (2, .int x2)]) hx hb dX1_truthsOf_34 hl (by decide) rfl (fun ls hl => ?_)
      refine W_X1_truthsOf_L36 l D G Z Y σ0 F r0 hr0 r1 hr1 x2 (r0 + 6) (isJ_Cotr hr0) x2 res C0 hA _ ?_ F σ0 (0 : Int32) h _ _ _ hP hD hS (lv_sub hl [2, 3, 4, 1, 0] rfl)
      · intro σ1 h H locs ls hP hD hS hl
        refine lv_iconst (v := 1) hx hb dX1_truthsOf_74 (by decide) ?_
        refine lv_aload_n hx hb dX1_truthsOf_75 rfl (lv_at hl 1 rfl) ?_
        obtain ⟨qq7, hq7⟩ := hg_Ta G Z Y σ1 hr1
        refine va_getN (D := D) (ci := 7) (v := va_rf (((Z.2.2.2 r1 0)).map G.2.1)) (C := RX7) (T := TX7) (N := 4) hx hb hts inU_X7 hown hK hP _ hq7 rfl 0 (by decide) (nF_use 19 hE rfl) (fun _ h9 => h9) rfl dX1_truthsOf_76 ?_
        rcases f_o h with ⟨ho, h⟩ | ⟨r8, ho, h⟩
        · rw [ho]
          refine lv_iload_n hx hb dX1_truthsOf_79 rfl (lv_at hl 2 rfl) ?_
          cases h
        · rw [ho]
          obtain ⟨hr8, h⟩ := f_c h
          refine lv_iload_n hx hb dX1_truthsOf_79 rfl (lv_at hl 2 rfl) ?_
          obtain ⟨q9, hq9, h⟩ := f_b h
          obtain ⟨qq10, hq10⟩ := hg_Sa G Z Y σ1 hr8
          refine cl_V (w := (hW G Z Y σ1)) (w' := (hW G Z Y σ1)) (rv := some (.int q9)) (bytes := cX4_steepOf) (maxL := 2) (ret := (some .int)) (C := RX4) (As := [.int x2]) (rest := [.int (1 : Int32)]) (stk := [.int q9, .int (1 : Int32)]) ⟨hx, hb, hml, hown, hts⟩ hK hE hA hP hD hS (c_X4_steepOf l D G Z Y σ1 r8 hr8 x2 q9 hq9) (cwV 1 hts (gwV wd_862 wd_676 wd_677 wd_18 wd_678) rfl rfl rfl hd_X4_steepOf ⟨Nat.le_of_ble_eq_true rfl, Nat.le_of_ble_eq_true rfl⟩) hq10 rfl rfl rfl hl.1 rfl (Nat.le_of_ble_eq_true rfl) dX1_truthsOf_80 ⟨Nat.zero_le _, Nat.zero_le _⟩ rfl (fun H locs hP hD hS => ?_)
          refine va_mmax hx hb (hml.trans hl.1.symm) hown (hts _ wd_863) (hts _ wd_328) (hts _ wd_12) (hts _ wd_329) (Nat.le_of_ble_eq_true rfl) (Nat.le_of_ble_eq_true rfl) (Nat.zero_le _) (Nat.zero_le _) dX1_truthsOf_83 ?_
          refine lv_istore (lv' := [(4, .int (if (1 : Int32) < q9 then q9 else (1 : Int32))), (0, .ref (G.2.1 r0)), (1, .ref (G.2.1 r1)), (2, .int x2), (3, .ref (G.2.1 (r0 + 6)))]) hx hb dX1_truthsOf_86 hl (by decide) rfl (fun ls hl => ?_)
          refine lv_iconst (v := 0) hx hb dX1_truthsOf_88 (by decide) ?_
          refine lv_istore (lv' := [(5, .int (0 : Int32)), (4, .int (if (1 : Int32) < q9 then q9 else (1 : Int32))), (0, .ref (G.2.1 r0)), (1, .ref (G.2.1 r1)), (2, .int x2), (3, .ref (G.2.1 (r0 + 6)))]) hx hb dX1_truthsOf_89 hl (by decide) rfl (fun ls hl => ?_)
          refine W_X1_truthsOf_L91 l D G Z Y σ0 F r0 hr0 r1 hr1 x2 (r0 + 6) (isJ_Cotr hr0) x2 (if (1 : Int32) < q9 then q9 else (1 : Int32)) res C0 hA F σ1 (0 : Int32) h _ _ _ hP hD hS (lv_sub hl [2, 3, 4, 5, 1, 0] rfl)
    · skip
      have h := f_t c2 h
      refine lv_aload_n hx hb dX1_truthsOf_21 rfl (lv_at hl 0 rfl) ?_
      refine va_get (D := D) (ci := 2) (v := .ref (G.2.1 (r0 + 8))) (C := RX1) (T := TX1) (N := 15) hx hb hts inU_X1 hown hK hP _ (hg_Co G Z Y σ0 hr0) rfl 6 (by decide) (hts _ wd_164) (fun _ h9 => h9) rfl dX1_truthsOf_22 ?_
      refine lv_goto (tgt := 32) hx hb dX1_truthsOf_25 (by decide) ?_
      refine lv_astore_n (lv' := [(3, .ref (G.2.1 (r0 + 8))), (0, .ref (G.2.1 r0)), (1, .ref (G.2.1 r1)), (2, .int x2)]) hx hb dX1_truthsOf_32 rfl hl (by decide) rfl (fun ls hl => ?_)
      refine lv_iconst (v := 0) hx hb dX1_truthsOf_33 (by decide) ?_
      refine lv_istore (lv' := [(4, .int (0 : Int32)), (3, .ref (G.2.1 (r0 + 8))), (0, .ref (G.2.1 r0)), (1, .ref (G.2.1 r1)), (2, .int x2)]) hx hb dX1_truthsOf_34 hl (by decide) rfl (fun ls hl => ?_)
      refine W_X1_truthsOf_L36 l D G Z Y σ0 F r0 hr0 r1 hr1 x2 (r0 + 8) (isJ_Coft hr0) x2 res C0 hA _ ?_ F σ0 (0 : Int32) h _ _ _ hP hD hS (lv_sub hl [2, 3, 4, 1, 0] rfl)
      · intro σ1 h H locs ls hP hD hS hl
        refine lv_iconst (v := 1) hx hb dX1_truthsOf_74 (by decide) ?_
        refine lv_aload_n hx hb dX1_truthsOf_75 rfl (lv_at hl 1 rfl) ?_
        obtain ⟨qq22, hq22⟩ := hg_Ta G Z Y σ1 hr1
        refine va_getN (D := D) (ci := 7) (v := va_rf (((Z.2.2.2 r1 0)).map G.2.1)) (C := RX7) (T := TX7) (N := 4) hx hb hts inU_X7 hown hK hP _ hq22 rfl 0 (by decide) (nF_use 19 hE rfl) (fun _ h9 => h9) rfl dX1_truthsOf_76 ?_
        rcases f_o h with ⟨ho, h⟩ | ⟨r23, ho, h⟩
        · rw [ho]
          refine lv_iload_n hx hb dX1_truthsOf_79 rfl (lv_at hl 2 rfl) ?_
          cases h
        · rw [ho]
          obtain ⟨hr23, h⟩ := f_c h
          refine lv_iload_n hx hb dX1_truthsOf_79 rfl (lv_at hl 2 rfl) ?_
          obtain ⟨q24, hq24, h⟩ := f_b h
          obtain ⟨qq25, hq25⟩ := hg_Sa G Z Y σ1 hr23
          refine cl_V (w := (hW G Z Y σ1)) (w' := (hW G Z Y σ1)) (rv := some (.int q24)) (bytes := cX4_steepOf) (maxL := 2) (ret := (some .int)) (C := RX4) (As := [.int x2]) (rest := [.int (1 : Int32)]) (stk := [.int q24, .int (1 : Int32)]) ⟨hx, hb, hml, hown, hts⟩ hK hE hA hP hD hS (c_X4_steepOf l D G Z Y σ1 r23 hr23 x2 q24 hq24) (cwV 1 hts (gwV wd_862 wd_676 wd_677 wd_18 wd_678) rfl rfl rfl hd_X4_steepOf ⟨Nat.le_of_ble_eq_true rfl, Nat.le_of_ble_eq_true rfl⟩) hq25 rfl rfl rfl hl.1 rfl (Nat.le_of_ble_eq_true rfl) dX1_truthsOf_80 ⟨Nat.zero_le _, Nat.zero_le _⟩ rfl (fun H locs hP hD hS => ?_)
          refine va_mmax hx hb (hml.trans hl.1.symm) hown (hts _ wd_863) (hts _ wd_328) (hts _ wd_12) (hts _ wd_329) (Nat.le_of_ble_eq_true rfl) (Nat.le_of_ble_eq_true rfl) (Nat.zero_le _) (Nat.zero_le _) dX1_truthsOf_83 ?_
          refine lv_istore (lv' := [(4, .int (if (1 : Int32) < q24 then q24 else (1 : Int32))), (0, .ref (G.2.1 r0)), (1, .ref (G.2.1 r1)), (2, .int x2), (3, .ref (G.2.1 (r0 + 8)))]) hx hb dX1_truthsOf_86 hl (by decide) rfl (fun ls hl => ?_)
          refine lv_iconst (v := 0) hx hb dX1_truthsOf_88 (by decide) ?_
          refine lv_istore (lv' := [(5, .int (0 : Int32)), (4, .int (if (1 : Int32) < q24 then q24 else (1 : Int32))), (0, .ref (G.2.1 r0)), (1, .ref (G.2.1 r1)), (2, .int x2), (3, .ref (G.2.1 (r0 + 8)))]) hx hb dX1_truthsOf_89 hl (by decide) rfl (fun ls hl => ?_)
          refine W_X1_truthsOf_L91 l D G Z Y σ0 F r0 hr0 r1 hr1 x2 (r0 + 8) (isJ_Coft hr0) x2 (if (1 : Int32) < q24 then q24 else (1 : Int32)) res C0 hA F σ1 (0 : Int32) h _ _ _ hP hD hS (lv_sub hl [2, 3, 4, 5, 1, 0] rfl)
  · skip
    have h := f_t c1 h
    refine lv_aload_n hx hb dX1_truthsOf_4 rfl (lv_at hl 0 rfl) ?_
    refine va_get (D := D) (ci := 2) (v := va_rf (((σ0.2.2 r0 7)).map G.2.1)) (C := RX1) (T := TX1) (N := 15) hx hb hts inU_X1 hown hK hP _ (hg_Co G Z Y σ0 hr0) rfl 7 (by decide) (hts _ wd_165) (fun _ h9 => h9) rfl dX1_truthsOf_5 ?_
    rcases f_o h with ⟨ho, h⟩ | ⟨r26, ho, h⟩
    · rw [ho]
      refine lv_aload_n hx hb dX1_truthsOf_8 rfl (lv_at hl 1 rfl) ?_
      refine lv_acmp_ne (rx := none) (ry := (some (G.2.1 r1))) (tgt := 17) hx hb dX1_truthsOf_9 (by decide) (fun c27 => ?_) (fun c27 => ?_)
      · skip
        refine lv_iload_n hx hb dX1_truthsOf_17 rfl (lv_at hl 2 rfl) ?_
        refine lv_if_ne (tgt := 28) hx hb dX1_truthsOf_18 (by decide) (fun c28 => ?_) (fun c28 => ?_)
        · skip
          have h := f_f c28 h
          refine lv_aload_n hx hb dX1_truthsOf_28 rfl (lv_at hl 0 rfl) ?_
          refine va_get (D := D) (ci := 2) (v := .ref (G.2.1 (r0 + 6))) (C := RX1) (T := TX1) (N := 15) hx hb hts inU_X1 hown hK hP _ (hg_Co G Z Y σ0 hr0) rfl 5 (by decide) (hts _ wd_163) (fun _ h9 => h9) rfl dX1_truthsOf_29 ?_
          refine lv_astore_n (lv' := [(3, .ref (G.2.1 (r0 + 6))), (0, .ref (G.2.1 r0)), (1, .ref (G.2.1 r1)), (2, .int x2)]) hx hb dX1_truthsOf_32 rfl hl (by decide) rfl (fun ls hl => ?_)
          refine lv_iconst (v := 0) hx hb dX1_truthsOf_33 (by decide) ?_
          refine lv_istore (lv' := [(4, .int (0 : Int32)), (3, .ref (G.2.1 (r0 + 6))), (0, .ref (G.2.1 r0)), (1, .ref (G.2.1 r1)), (2, .int x2)]) hx hb dX1_truthsOf_34 hl (by decide) rfl (fun ls hl => ?_)
          refine W_X1_truthsOf_L36 l D G Z Y σ0 F r0 hr0 r1 hr1 x2 (r0 + 6) (isJ_Cotr hr0) x2 res C0 hA _ ?_ F σ0 (0 : Int32) h _ _ _ hP hD hS (lv_sub hl [2, 3, 4, 1, 0] rfl)
          · intro σ1 h H locs ls hP hD hS hl
            refine lv_iconst (v := 1) hx hb dX1_truthsOf_74 (by decide) ?_
            refine lv_aload_n hx hb dX1_truthsOf_75 rfl (lv_at hl 1 rfl) ?_
            obtain ⟨qq29, hq29⟩ := hg_Ta G Z Y σ1 hr1
            refine va_getN (D := D) (ci := 7) (v := va_rf (((Z.2.2.2 r1 0)).map G.2.1)) (C := RX7) (T := TX7) (N := 4) hx hb hts inU_X7 hown hK hP _ hq29 rfl 0 (by decide) (nF_use 19 hE rfl) (fun _ h9 => h9) rfl dX1_truthsOf_76 ?_
            rcases f_o h with ⟨ho, h⟩ | ⟨r30, ho, h⟩
            · rw [ho]
              refine lv_iload_n hx hb dX1_truthsOf_79 rfl (lv_at hl 2 rfl) ?_
              cases h
            · rw [ho]
              obtain ⟨hr30, h⟩ := f_c h
              refine lv_iload_n hx hb dX1_truthsOf_79 rfl (lv_at hl 2 rfl) ?_
              obtain ⟨q31, hq31, h⟩ := f_b h
              obtain ⟨qq32, hq32⟩ := hg_Sa G Z Y σ1 hr30
              refine cl_V (w := (hW G Z Y σ1)) (w' := (hW G Z Y σ1)) (rv := some (.int q31)) (bytes := cX4_steepOf) (maxL := 2) (ret := (some .int)) (C := RX4) (As := [.int x2]) (rest := [.int (1 : Int32)]) (stk := [.int q31, .int (1 : Int32)]) ⟨hx, hb, hml, hown, hts⟩ hK hE hA hP hD hS (c_X4_steepOf l D G Z Y σ1 r30 hr30 x2 q31 hq31) (cwV 1 hts (gwV wd_862 wd_676 wd_677 wd_18 wd_678) rfl rfl rfl hd_X4_steepOf ⟨Nat.le_of_ble_eq_true rfl, Nat.le_of_ble_eq_true rfl⟩) hq32 rfl rfl rfl hl.1 rfl (Nat.le_of_ble_eq_true rfl) dX1_truthsOf_80 ⟨Nat.zero_le _, Nat.zero_le _⟩ rfl (fun H locs hP hD hS => ?_)
              refine va_mmax hx hb (hml.trans hl.1.symm) hown (hts _ wd_863) (hts _ wd_328) (hts _ wd_12) (hts _ wd_329) (Nat.le_of_ble_eq_true rfl) (Nat.le_of_ble_eq_true rfl) (Nat.zero_le _) (Nat.zero_le _) dX1_truthsOf_83 ?_
              refine lv_istore (lv' := [(4, .int (if (1 : Int32) < q31 then q31 else (1 : Int32))), (0, .ref (G.2.1 r0)), (1, .ref (G.2.1 r1)), (2, .int x2), (3, .ref (G.2.1 (r0 + 6)))]) hx hb dX1_truthsOf_86 hl (by decide) rfl (fun ls hl => ?_)
              refine lv_iconst (v := 0) hx hb dX1_truthsOf_88 (by decide) ?_
              refine lv_istore (lv' := [(5, .int (0 : Int32)), (4, .int (if (1 : Int32) < q31 then q31 else (1 : Int32))), (0, .ref (G.2.1 r0)), (1, .ref (G.2.1 r1)), (2, .int x2), (3, .ref (G.2.1 (r0 + 6)))]) hx hb dX1_truthsOf_89 hl (by decide) rfl (fun ls hl => ?_)
              refine W_X1_truthsOf_L91 l D G Z Y σ0 F r0 hr0 r1 hr1 x2 (r0 + 6) (isJ_Cotr hr0) x2 (if (1 : Int32) < q31 then q31 else (1 : Int32)) res C0 hA F σ1 (0 : Int32) h _ _ _ hP hD hS (lv_sub hl [2, 3, 4, 5, 1, 0] rfl)
        · skip
          have h := f_t c28 h
          refine lv_aload_n hx hb dX1_truthsOf_21 rfl (lv_at hl 0 rfl) ?_
          refine va_get (D := D) (ci := 2) (v := .ref (G.2.1 (r0 + 8))) (C := RX1) (T := TX1) (N := 15) hx hb hts inU_X1 hown hK hP _ (hg_Co G Z Y σ0 hr0) rfl 6 (by decide) (hts _ wd_164) (fun _ h9 => h9) rfl dX1_truthsOf_22 ?_
          refine lv_goto (tgt := 32) hx hb dX1_truthsOf_25 (by decide) ?_
          refine lv_astore_n (lv' := [(3, .ref (G.2.1 (r0 + 8))), (0, .ref (G.2.1 r0)), (1, .ref (G.2.1 r1)), (2, .int x2)]) hx hb dX1_truthsOf_32 rfl hl (by decide) rfl (fun ls hl => ?_)
          refine lv_iconst (v := 0) hx hb dX1_truthsOf_33 (by decide) ?_
          refine lv_istore (lv' := [(4, .int (0 : Int32)), (3, .ref (G.2.1 (r0 + 8))), (0, .ref (G.2.1 r0)), (1, .ref (G.2.1 r1)), (2, .int x2)]) hx hb dX1_truthsOf_34 hl (by decide) rfl (fun ls hl => ?_)
          refine W_X1_truthsOf_L36 l D G Z Y σ0 F r0 hr0 r1 hr1 x2 (r0 + 8) (isJ_Coft hr0) x2 res C0 hA _ ?_ F σ0 (0 : Int32) h _ _ _ hP hD hS (lv_sub hl [2, 3, 4, 1, 0] rfl)
          · intro σ1 h H locs ls hP hD hS hl
            refine lv_iconst (v := 1) hx hb dX1_truthsOf_74 (by decide) ?_
            refine lv_aload_n hx hb dX1_truthsOf_75 rfl (lv_at hl 1 rfl) ?_
            obtain ⟨qq33, hq33⟩ := hg_Ta G Z Y σ1 hr1
            refine va_getN (D := D) (ci := 7) (v := va_rf (((Z.2.2.2 r1 0)).map G.2.1)) (C := RX7) (T := TX7) (N := 4) hx hb hts inU_X7 hown hK hP _ hq33 rfl 0 (by decide) (nF_use 19 hE rfl) (fun _ h9 => h9) rfl dX1_truthsOf_76 ?_
            rcases f_o h with ⟨ho, h⟩ | ⟨r34, ho, h⟩
            · rw [ho]
              refine lv_iload_n hx hb dX1_truthsOf_79 rfl (lv_at hl 2 rfl) ?_
              cases h
            · rw [ho]
              obtain ⟨hr34, h⟩ := f_c h
              refine lv_iload_n hx hb dX1_truthsOf_79 rfl (lv_at hl 2 rfl) ?_
              obtain ⟨q35, hq35, h⟩ := f_b h
              obtain ⟨qq36, hq36⟩ := hg_Sa G Z Y σ1 hr34
              refine cl_V (w := (hW G Z Y σ1)) (w' := (hW G Z Y σ1)) (rv := some (.int q35)) (bytes := cX4_steepOf) (maxL := 2) (ret := (some .int)) (C := RX4) (As := [.int x2]) (rest := [.int (1 : Int32)]) (stk := [.int q35, .int (1 : Int32)]) ⟨hx, hb, hml, hown, hts⟩ hK hE hA hP hD hS (c_X4_steepOf l D G Z Y σ1 r34 hr34 x2 q35 hq35) (cwV 1 hts (gwV wd_862 wd_676 wd_677 wd_18 wd_678) rfl rfl rfl hd_X4_steepOf ⟨Nat.le_of_ble_eq_true rfl, Nat.le_of_ble_eq_true rfl⟩) hq36 rfl rfl rfl hl.1 rfl (Nat.le_of_ble_eq_true rfl) dX1_truthsOf_80 ⟨Nat.zero_le _, Nat.zero_le _⟩ rfl (fun H locs hP hD hS => ?_)
              refine va_mmax hx hb (hml.trans hl.1.symm) hown (hts _ wd_863) (hts _ wd_328) (hts _ wd_12) (hts _ wd_329) (Nat.le_of_ble_eq_true rfl) (Nat.le_of_ble_eq_true rfl) (Nat.zero_le _) (Nat.zero_le _) dX1_truthsOf_83 ?_
              refine lv_istore (lv' := [(4, .int (if (1 : Int32) < q35 then q35 else (1 : Int32))), (0, .ref (G.2.1 r0)), (1, .ref (G.2.1 r1)), (2, .int x2), (3, .ref (G.2.1 (r0 + 8)))]) hx hb dX1_truthsOf_86 hl (by decide) rfl (fun ls hl => ?_)
              refine lv_iconst (v := 0) hx hb dX1_truthsOf_88 (by decide) ?_
              refine lv_istore (lv' := [(5, .int (0 : Int32)), (4, .int (if (1 : Int32) < q35 then q35 else (1 : Int32))), (0, .ref (G.2.1 r0)), (1, .ref (G.2.1 r1)), (2, .int x2), (3, .ref (G.2.1 (r0 + 8)))]) hx hb dX1_truthsOf_89 hl (by decide) rfl (fun ls hl => ?_)
              refine W_X1_truthsOf_L91 l D G Z Y σ0 F r0 hr0 r1 hr1 x2 (r0 + 8) (isJ_Coft hr0) x2 (if (1 : Int32) < q35 then q35 else (1 : Int32)) res C0 hA F σ1 (0 : Int32) h _ _ _ hP hD hS (lv_sub hl [2, 3, 4, 5, 1, 0] rfl)
      · skip
        cases c27
    · rw [ho]
      obtain ⟨hr26, h⟩ := f_c h
      refine lv_aload_n hx hb dX1_truthsOf_8 rfl (lv_at hl 1 rfl) ?_
      refine lv_acmp_ne (rx := (some (G.2.1 r26))) (ry := (some (G.2.1 r1))) (tgt := 17) hx hb dX1_truthsOf_9 (by decide) (fun c37 => ?_) (fun c37 => ?_)
      · skip
        have c37 : ¬ r26 = r1 := fun e9 => c37 (by rw [e9])
        have h := f_f c37 h
        refine lv_iload_n hx hb dX1_truthsOf_17 rfl (lv_at hl 2 rfl) ?_
        refine lv_if_ne (tgt := 28) hx hb dX1_truthsOf_18 (by decide) (fun c38 => ?_) (fun c38 => ?_)
        · skip
          have h := f_f c38 h
          refine lv_aload_n hx hb dX1_truthsOf_28 rfl (lv_at hl 0 rfl) ?_
          refine va_get (D := D) (ci := 2) (v := .ref (G.2.1 (r0 + 6))) (C := RX1) (T := TX1) (N := 15) hx hb hts inU_X1 hown hK hP _ (hg_Co G Z Y σ0 hr0) rfl 5 (by decide) (hts _ wd_163) (fun _ h9 => h9) rfl dX1_truthsOf_29 ?_
          refine lv_astore_n (lv' := [(3, .ref (G.2.1 (r0 + 6))), (0, .ref (G.2.1 r0)), (1, .ref (G.2.1 r1)), (2, .int x2)]) hx hb dX1_truthsOf_32 rfl hl (by decide) rfl (fun ls hl => ?_)
          refine lv_iconst (v := 0) hx hb dX1_truthsOf_33 (by decide) ?_
          refine lv_istore (lv' := [(4, .int (0 : Int32)), (3, .ref (G.2.1 (r0 + 6))), (0, .ref (G.2.1 r0)), (1, .ref (G.2.1 r1)), (2, .int x2)]) hx hb dX1_truthsOf_34 hl (by decide) rfl (fun ls hl => ?_)
          refine W_X1_truthsOf_L36 l D G Z Y σ0 F r0 hr0 r1 hr1 x2 (r0 + 6) (isJ_Cotr hr0) x2 res C0 hA _ ?_ F σ0 (0 : Int32) h _ _ _ hP hD hS (lv_sub hl [2, 3, 4, 1, 0] rfl)
          · intro σ1 h H locs ls hP hD hS hl
            refine lv_iconst (v := 1) hx hb dX1_truthsOf_74 (by decide) ?_
            refine lv_aload_n hx hb dX1_truthsOf_75 rfl (lv_at hl 1 rfl) ?_
            obtain ⟨qq39, hq39⟩ := hg_Ta G Z Y σ1 hr1
            refine va_getN (D := D) (ci := 7) (v := va_rf (((Z.2.2.2 r1 0)).map G.2.1)) (C := RX7) (T := TX7) (N := 4) hx hb hts inU_X7 hown hK hP _ hq39 rfl 0 (by decide) (nF_use 19 hE rfl) (fun _ h9 => h9) rfl dX1_truthsOf_76 ?_
            rcases f_o h with ⟨ho, h⟩ | ⟨r40, ho, h⟩
            · rw [ho]
              refine lv_iload_n hx hb dX1_truthsOf_79 rfl (lv_at hl 2 rfl) ?_
              cases h
            · rw [ho]
              obtain ⟨hr40, h⟩ := f_c h
              refine lv_iload_n hx hb dX1_truthsOf_79 rfl (lv_at hl 2 rfl) ?_
              obtain ⟨q41, hq41, h⟩ := f_b h
              obtain ⟨qq42, hq42⟩ := hg_Sa G Z Y σ1 hr40
              refine cl_V (w := (hW G Z Y σ1)) (w' := (hW G Z Y σ1)) (rv := some (.int q41)) (bytes := cX4_steepOf) (maxL := 2) (ret := (some .int)) (C := RX4) (As := [.int x2]) (rest := [.int (1 : Int32)]) (stk := [.int q41, .int (1 : Int32)]) ⟨hx, hb, hml, hown, hts⟩ hK hE hA hP hD hS (c_X4_steepOf l D G Z Y σ1 r40 hr40 x2 q41 hq41) (cwV 1 hts (gwV wd_862 wd_676 wd_677 wd_18 wd_678) rfl rfl rfl hd_X4_steepOf ⟨Nat.le_of_ble_eq_true rfl, Nat.le_of_ble_eq_true rfl⟩) hq42 rfl rfl rfl hl.1 rfl (Nat.le_of_ble_eq_true rfl) dX1_truthsOf_80 ⟨Nat.zero_le _, Nat.zero_le _⟩ rfl (fun H locs hP hD hS => ?_)
              refine va_mmax hx hb (hml.trans hl.1.symm) hown (hts _ wd_863) (hts _ wd_328) (hts _ wd_12) (hts _ wd_329) (Nat.le_of_ble_eq_true rfl) (Nat.le_of_ble_eq_true rfl) (Nat.zero_le _) (Nat.zero_le _) dX1_truthsOf_83 ?_
              refine lv_istore (lv' := [(4, .int (if (1 : Int32) < q41 then q41 else (1 : Int32))), (0, .ref (G.2.1 r0)), (1, .ref (G.2.1 r1)), (2, .int x2), (3, .ref (G.2.1 (r0 + 6)))]) hx hb dX1_truthsOf_86 hl (by decide) rfl (fun ls hl => ?_)
              refine lv_iconst (v := 0) hx hb dX1_truthsOf_88 (by decide) ?_
              refine lv_istore (lv' := [(5, .int (0 : Int32)), (4, .int (if (1 : Int32) < q41 then q41 else (1 : Int32))), (0, .ref (G.2.1 r0)), (1, .ref (G.2.1 r1)), (2, .int x2), (3, .ref (G.2.1 (r0 + 6)))]) hx hb dX1_truthsOf_89 hl (by decide) rfl (fun ls hl => ?_)
              refine W_X1_truthsOf_L91 l D G Z Y σ0 F r0 hr0 r1 hr1 x2 (r0 + 6) (isJ_Cotr hr0) x2 (if (1 : Int32) < q41 then q41 else (1 : Int32)) res C0 hA F σ1 (0 : Int32) h _ _ _ hP hD hS (lv_sub hl [2, 3, 4, 5, 1, 0] rfl)
        · skip
          have h := f_t c38 h
          refine lv_aload_n hx hb dX1_truthsOf_21 rfl (lv_at hl 0 rfl) ?_
          refine va_get (D := D) (ci := 2) (v := .ref (G.2.1 (r0 + 8))) (C := RX1) (T := TX1) (N := 15) hx hb hts inU_X1 hown hK hP _ (hg_Co G Z Y σ0 hr0) rfl 6 (by decide) (hts _ wd_164) (fun _ h9 => h9) rfl dX1_truthsOf_22 ?_
          refine lv_goto (tgt := 32) hx hb dX1_truthsOf_25 (by decide) ?_
          refine lv_astore_n (lv' := [(3, .ref (G.2.1 (r0 + 8))), (0, .ref (G.2.1 r0)), (1, .ref (G.2.1 r1)), (2, .int x2)]) hx hb dX1_truthsOf_32 rfl hl (by decide) rfl (fun ls hl => ?_)
          refine lv_iconst (v := 0) hx hb dX1_truthsOf_33 (by decide) ?_
          refine lv_istore (lv' := [(4, .int (0 : Int32)), (3, .ref (G.2.1 (r0 + 8))), (0, .ref (G.2.1 r0)), (1, .ref (G.2.1 r1)), (2, .int x2)]) hx hb dX1_truthsOf_34 hl (by decide) rfl (fun ls hl => ?_)
          refine W_X1_truthsOf_L36 l D G Z Y σ0 F r0 hr0 r1 hr1 x2 (r0 + 8) (isJ_Coft hr0) x2 res C0 hA _ ?_ F σ0 (0 : Int32) h _ _ _ hP hD hS (lv_sub hl [2, 3, 4, 1, 0] rfl)
          · intro σ1 h H locs ls hP hD hS hl
            refine lv_iconst (v := 1) hx hb dX1_truthsOf_74 (by decide) ?_
            refine lv_aload_n hx hb dX1_truthsOf_75 rfl (lv_at hl 1 rfl) ?_
            obtain ⟨qq43, hq43⟩ := hg_Ta G Z Y σ1 hr1
            refine va_getN (D := D) (ci := 7) (v := va_rf (((Z.2.2.2 r1 0)).map G.2.1)) (C := RX7) (T := TX7) (N := 4) hx hb hts inU_X7 hown hK hP _ hq43 rfl 0 (by decide) (nF_use 19 hE rfl) (fun _ h9 => h9) rfl dX1_truthsOf_76 ?_
            rcases f_o h with ⟨ho, h⟩ | ⟨r44, ho, h⟩
            · rw [ho]
              refine lv_iload_n hx hb dX1_truthsOf_79 rfl (lv_at hl 2 rfl) ?_
              cases h
            · rw [ho]
              obtain ⟨hr44, h⟩ := f_c h
              refine lv_iload_n hx hb dX1_truthsOf_79 rfl (lv_at hl 2 rfl) ?_
              obtain ⟨q45, hq45, h⟩ := f_b h
              obtain ⟨qq46, hq46⟩ := hg_Sa G Z Y σ1 hr44
              refine cl_V (w := (hW G Z Y σ1)) (w' := (hW G Z Y σ1)) (rv := some (.int q45)) (bytes := cX4_steepOf) (maxL := 2) (ret := (some .int)) (C := RX4) (As := [.int x2]) (rest := [.int (1 : Int32)]) (stk := [.int q45, .int (1 : Int32)]) ⟨hx, hb, hml, hown, hts⟩ hK hE hA hP hD hS (c_X4_steepOf l D G Z Y σ1 r44 hr44 x2 q45 hq45) (cwV 1 hts (gwV wd_862 wd_676 wd_677 wd_18 wd_678) rfl rfl rfl hd_X4_steepOf ⟨Nat.le_of_ble_eq_true rfl, Nat.le_of_ble_eq_true rfl⟩) hq46 rfl rfl rfl hl.1 rfl (Nat.le_of_ble_eq_true rfl) dX1_truthsOf_80 ⟨Nat.zero_le _, Nat.zero_le _⟩ rfl (fun H locs hP hD hS => ?_)
              refine va_mmax hx hb (hml.trans hl.1.symm) hown (hts _ wd_863) (hts _ wd_328) (hts _ wd_12) (hts _ wd_329) (Nat.le_of_ble_eq_true rfl) (Nat.le_of_ble_eq_true rfl) (Nat.zero_le _) (Nat.zero_le _) dX1_truthsOf_83 ?_
              refine lv_istore (lv' := [(4, .int (if (1 : Int32) < q45 then q45 else (1 : Int32))), (0, .ref (G.2.1 r0)), (1, .ref (G.2.1 r1)), (2, .int x2), (3, .ref (G.2.1 (r0 + 8)))]) hx hb dX1_truthsOf_86 hl (by decide) rfl (fun ls hl => ?_)
              refine lv_iconst (v := 0) hx hb dX1_truthsOf_88 (by decide) ?_
              refine lv_istore (lv' := [(5, .int (0 : Int32)), (4, .int (if (1 : Int32) < q45 then q45 else (1 : Int32))), (0, .ref (G.2.1 r0)), (1, .ref (G.2.1 r1)), (2, .int x2), (3, .ref (G.2.1 (r0 + 8)))]) hx hb dX1_truthsOf_89 hl (by decide) rfl (fun ls hl => ?_)
              refine W_X1_truthsOf_L91 l D G Z Y σ0 F r0 hr0 r1 hr1 x2 (r0 + 8) (isJ_Coft hr0) x2 (if (1 : Int32) < q45 then q45 else (1 : Int32)) res C0 hA F σ1 (0 : Int32) h _ _ _ hP hD hS (lv_sub hl [2, 3, 4, 5, 1, 0] rfl)
      · skip
        have c37 := ad_inj hD (isTa_mem hr26) (isTa_mem hr1) (Option.some.inj c37)
        have h := f_t c37 h
        refine lv_aload_n hx hb dX1_truthsOf_12 rfl (lv_at hl 0 rfl) ?_
        refine va_get (D := D) (ci := 2) (v := .ref (G.2.1 (r0 + 8))) (C := RX1) (T := TX1) (N := 15) hx hb hts inU_X1 hown hK hP _ (hg_Co G Z Y σ0 hr0) rfl 6 (by decide) (hts _ wd_164) (fun _ h9 => h9) rfl dX1_truthsOf_13 ?_
        obtain rfl := Option.some.inj h
        exact W.aret (v := .ref (G.2.1 (r0 + 8))) hx hb hr (Or.inr ⟨_, rfl⟩) (Or.inr ⟨_, rfl⟩) (q_end hK hP hD hS) hS.2.2 dX1_truthsOf_16
abbrev rm_X1_sayCurve : Room := { frames := 5, cells := 0, slots := 0, locals := 132 }
set_option maxRecDepth 100000 in
set_option maxHeartbeats 8000000 in
theorem W_X1_sayCurve_L69 {p : Program} {e : Env} {s : State} {m : MethodId} {args : Array Value} {below : List Frame} {meth : Method} {c : Code} {A : Nat → Prop} (l : Launch) (D : va_G) (G : hG) (Z : hZ) (Y : va_W) (σ0 : hSt) (F : Nat) (r0 : Nat) (hr0 : isCo r0 = true) (r1 : Nat) (hr1 : isTa Z r1 = true) (x2 : Int32) (q1 : (Nat × hSt)) (hj2 : isJ q1.1 = true) (y2 : Int32) (res : (Unit × hSt)) (C0 : Cx p s m args meth c cX1_sayCurve none RX1 5 D G A) (hA : ∀ q : Nat, s.heap.size ≤ q → A q) : ∀ (n : Nat) (σ1 : hSt) (z4 : Int32), f_X1_sayCurve_L69 F Z r0 r1 q1 y2 n σ1 z4 = some res → ∀ (H : Heap) (locs : List Loc) (ls : Array Slot), va_P D vwCl (hW G Z Y σ1) H → va_D A (hW G Z Y σ1) → va_S A s.heap H locs → lv_has ls 5 [(0, .ref (G.2.1 r0)), (1, .ref (G.2.1 r1)), (2, .int y2), (3, .ref (G.2.1 q1.1)), (4, .int z4)] → W p l e rm_X1_sayCurve s m args below meth c H locs 0 0 (MQ below (Qg none D (tysG G) (hW G Z Y res.2) A) args s 0 0 A) (F0 m 69 ls []) := by
  obtain ⟨hx, hb, hr, hml, hown, hts, hlocks, hK, hE⟩ := id C0
  intro n
  induction n with
  | zero =>
    intro σ1 z4 h
    cases h
  | succ n ih =>
    intro σ1 z4 h H locs ls hP hD hS hl
    rw [f_X1_sayCurve_L69] at h
    refine lv_iload hx hb dX1_sayCurve_69 (lv_at hl 4 rfl) ?_
    refine lv_aload_n hx hb dX1_sayCurve_71 rfl (lv_at hl 1 rfl) ?_
    obtain ⟨qq13, hq13⟩ := hg_Ta G Z Y σ1 hr1
    refine va_getN (D := D) (ci := 7) (v := va_rf (((Z.2.2.2 r1 0)).map G.2.1)) (C := RX7) (T := TX7) (N := 4) hx hb hts inU_X7 hown hK hP _ hq13 rfl 0 (by decide) (nF_use 19 hE rfl) (fun _ h9 => h9) rfl dX1_sayCurve_72 ?_
    rcases f_o h with ⟨ho, h⟩ | ⟨r14, ho, h⟩
    · rw [ho]
      refine lv_iload_n hx hb dX1_sayCurve_75 rfl (lv_at hl 2 rfl) ?_
      cases h
    · rw [ho]
      obtain ⟨hr14, h⟩ := f_c h
      refine lv_iload_n hx hb dX1_sayCurve_75 rfl (lv_at hl 2 rfl) ?_
      obtain ⟨q15, hq15, h⟩ := f_b h
      obtain ⟨qq16, hq16⟩ := hg_Sa G Z Y σ1 hr14
      refine cl_V (w := (hW G Z Y σ1)) (w' := (hW G Z Y σ1)) (rv := some (.int q15)) (bytes := cX4_steepOf) (maxL := 2) (ret := (some .int)) (C := RX4) (As := [.int y2]) (rest := [.int z4]) (stk := [.int q15, .int z4]) ⟨hx, hb, hml, hown, hts⟩ hK hE hA hP hD hS (c_X4_steepOf l D G Z Y σ1 r14 hr14 y2 q15 hq15) (cwV 1 hts (gwV wd_862 wd_676 wd_677 wd_18 wd_678) rfl rfl rfl hd_X4_steepOf ⟨Nat.le_of_ble_eq_true rfl, Nat.le_of_ble_eq_true rfl⟩) hq16 rfl rfl rfl hl.1 rfl (Nat.le_of_ble_eq_true rfl) dX1_sayCurve_76 ⟨Nat.zero_le _, Nat.zero_le _⟩ rfl (fun H locs hP hD hS => ?_)
      refine lv_icmp_gt (tgt := 128) hx hb dX1_sayCurve_79 (by decide) (fun c17 => ?_) (fun c17 => ?_)
      · skip
        have h := f_t c17 h
        refine lv_aload_n hx hb dX1_sayCurve_128 rfl (lv_at hl 0 rfl) ?_
        refine lv_iload_n hx hb dX1_sayCurve_129 rfl (lv_at hl 2 rfl) ?_
        refine lv_iconst (v := 1) hx hb dX1_sayCurve_130 (by decide) ?_
        refine lv_iadd hx hb dX1_sayCurve_131 ?_
        refine va_put (D := D) (ci := 2) (v := .int (y2 + (1 : Int32))) (ty := .int) (C := RX1) (T := TX1) (N := 15) hx hb hts inU_X1 tyX1 tyX1_ok nmX1 hown hK hP hD hS _ (hg_Co G Z Y σ1 hr0) rfl 13 (by decide) (hts _ wd_176) (fun _ h9 => h9) rfl (by decide +kernel) rfl rfl (Nat.le_of_ble_eq_true rfl) dX1_sayCurve_132 (fun H locs hP hD hS => ?_)
        have hP := wrP (hp_Co_13 G Z Y σ1 hr0 (y2 + (1 : Int32))) hP
        have hD := wrD (hp_Co_13 G Z Y σ1 hr0 (y2 + (1 : Int32))) hD
        obtain rfl := Option.some.inj h
        exact W.vret hx hb hr (q_end hK hP hD hS) hS.2.2 dX1_sayCurve_135
      · skip
        have h := f_f c17 h
        refine lv_iload hx hb dX1_sayCurve_82 (lv_at hl 4 rfl) ?_
        refine lv_aload_n hx hb dX1_sayCurve_84 rfl (lv_at hl 3 rfl) ?_
        refine va_alen (ty := .long) (v := (Int32.ofNat (jlen q1.1))) hx hb hK hP _ 1 (hg_J G Z Y σ1 hj2) rfl rfl dX1_sayCurve_85 ?_
        refine lv_icmp_ge (tgt := 128) hx hb dX1_sayCurve_86 (by decide) (fun c18 => ?_) (fun c18 => ?_)
        · skip
          have h := f_t c18 h
          refine lv_aload_n hx hb dX1_sayCurve_128 rfl (lv_at hl 0 rfl) ?_
          refine lv_iload_n hx hb dX1_sayCurve_129 rfl (lv_at hl 2 rfl) ?_
          refine lv_iconst (v := 1) hx hb dX1_sayCurve_130 (by decide) ?_
          refine lv_iadd hx hb dX1_sayCurve_131 ?_
          refine va_put (D := D) (ci := 2) (v := .int (y2 + (1 : Int32))) (ty := .int) (C := RX1) (T := TX1) (N := 15) hx hb hts inU_X1 tyX1 tyX1_ok nmX1 hown hK hP hD hS _ (hg_Co G Z Y σ1 hr0) rfl 13 (by decide) (hts _ wd_176) (fun _ h9 => h9) rfl (by decide +kernel) rfl rfl (Nat.le_of_ble_eq_true rfl) dX1_sayCurve_132 (fun H locs hP hD hS => ?_)
          have hP := wrP (hp_Co_13 G Z Y σ1 hr0 (y2 + (1 : Int32))) hP
          have hD := wrD (hp_Co_13 G Z Y σ1 hr0 (y2 + (1 : Int32))) hD
          obtain rfl := Option.some.inj h
          exact W.vret hx hb hr (q_end hK hP hD hS) hS.2.2 dX1_sayCurve_135
        · skip
          have h := f_f c18 h
          refine lv_aload_n hx hb dX1_sayCurve_89 rfl (lv_at hl 0 rfl) ?_
          refine va_get (D := D) (ci := 2) (v := .ref (G.2.1 (r0 + 2))) (C := RX1) (T := TX1) (N := 15) hx hb hts inU_X1 hown hK hP _ (hg_Co G Z Y σ1 hr0) rfl 2 (by decide) (hts _ wd_160) (fun _ h9 => h9) rfl dX1_sayCurve_90 ?_
          refine lv_iconst (v := 0) hx hb dX1_sayCurve_93 (by decide) ?_
          refine lv_aload_n hx hb dX1_sayCurve_94 rfl (lv_at hl 3 rfl) ?_
          refine lv_iload hx hb dX1_sayCurve_95 (lv_at hl 4 rfl) ?_
          obtain ⟨c19, h⟩ := f_n h
          refine va_laldE (v := (σ1.2.1 q1.1 ((z4 : Int32).toNatClampNeg))) hx hb hK hP _ 1 (hg_J G Z Y σ1 hj2) rfl c19 dX1_sayCurve_97 rfl ?_
          obtain ⟨c20, h⟩ := f_n h
          refine va_last hx hb hK hP hD hS _ 1 (hg_Cole G Z Y σ1 hr0) rfl c20 dX1_sayCurve_98 (fun H locs hP hD hS => ?_)
          have hP := wrP (hp_Cole G Z Y σ1 hr0 _ _) hP
          have hD := wrD (hp_Cole G Z Y σ1 hr0 _ _) hD
          refine lv_aload_n hx hb dX1_sayCurve_99 rfl (lv_at hl 0 rfl) ?_
          refine va_get (D := D) (ci := 2) (v := .ref (G.2.1 (r0 + 2))) (C := RX1) (T := TX1) (N := 15) hx hb hts inU_X1 hown hK hP _ (hg_Co G Z Y (sJ σ1 (r0 + 2) (((0 : Int32) : Int32).toNatClampNeg) (σ1.2.1 q1.1 ((z4 : Int32).toNatClampNeg))) hr0) rfl 2 (by decide) (hts _ wd_160) (fun _ h9 => h9) rfl dX1_sayCurve_100 ?_
          refine lv_iconst (v := 5) hx hb dX1_sayCurve_103 (by decide) ?_
          refine lv_iload hx hb dX1_sayCurve_104 (lv_at hl 4 rfl) ?_
          refine lv_i2l (v := (z4 : Int32).toInt64) hx hb dX1_sayCurve_106 rfl ?_
          obtain ⟨c21, h⟩ := f_n h
          refine va_last hx hb hK hP hD hS _ 1 (hg_Cole G Z Y (sJ σ1 (r0 + 2) (((0 : Int32) : Int32).toNatClampNeg) (σ1.2.1 q1.1 ((z4 : Int32).toNatClampNeg))) hr0) rfl c21 dX1_sayCurve_107 (fun H locs hP hD hS => ?_)
          have hP := wrP (hp_Cole G Z Y (sJ σ1 (r0 + 2) (((0 : Int32) : Int32).toNatClampNeg) (σ1.2.1 q1.1 ((z4 : Int32).toNatClampNeg))) hr0 _ _) hP
          have hD := wrD (hp_Cole G Z Y (sJ σ1 (r0 + 2) (((0 : Int32) : Int32).toNatClampNeg) (σ1.2.1 q1.1 ((z4 : Int32).toNatClampNeg))) hr0 _ _) hD
          refine lv_aload_n hx hb dX1_sayCurve_108 rfl (lv_at hl 0 rfl) ?_
          refine lv_iload_n hx hb dX1_sayCurve_109 rfl (lv_at hl 2 rfl) ?_
          refine lv_iload hx hb dX1_sayCurve_110 (lv_at hl 4 rfl) ?_
          refine lv_aload_n hx hb dX1_sayCurve_112 rfl (lv_at hl 0 rfl) ?_
          refine lv_aload_n hx hb dX1_sayCurve_113 rfl (lv_at hl 1 rfl) ?_
          refine lv_bipush (v := 118) hx hb dX1_sayCurve_114 (by decide) ?_
          obtain ⟨q22, hq22, h⟩ := f_b h
          refine cl_V (w := (hW G Z Y (sJ (sJ σ1 (r0 + 2) (((0 : Int32) : Int32).toNatClampNeg) (σ1.2.1 q1.1 ((z4 : Int32).toNatClampNeg))) (r0 + 2) (((5 : Int32) : Int32).toNatClampNeg) ((z4 : Int32).toInt64)))) (w' := (hW G Z Y q22.2)) (rv := some (.long q22.1)) (bytes := cX1_saidBy) (maxL := 3) (ret := (some .long)) (C := RX1) (As := [.ref (G.2.1 r1), .int (118 : Int32)]) (rest := [.int z4, .int y2, .ref (G.2.1 r0)]) (stk := [.long q22.1, .int z4, .int y2, .ref (G.2.1 r0)]) ⟨hx, hb, hml, hown, hts⟩ hK hE hA hP hD hS (c_X1_saidBy l D G Z Y (sJ (sJ σ1 (r0 + 2) (((0 : Int32) : Int32).toNatClampNeg) (σ1.2.1 q1.1 ((z4 : Int32).toNatClampNeg))) (r0 + 2) (((5 : Int32) : Int32).toNatClampNeg) ((z4 : Int32).toInt64)) F r0 hr0 r1 hr1 (118 : Int32) q22 hq22) (cwV 2 hts (gwV wd_827 wd_829 wp_24 wd_7 wd_830) rfl rfl rfl hd_X1_saidBy ⟨Nat.le_of_ble_eq_true rfl, Nat.le_of_ble_eq_true rfl⟩) (hg_Co G Z Y (sJ (sJ σ1 (r0 + 2) (((0 : Int32) : Int32).toNatClampNeg) (σ1.2.1 q1.1 ((z4 : Int32).toNatClampNeg))) (r0 + 2) (((5 : Int32) : Int32).toNatClampNeg) ((z4 : Int32).toInt64)) hr0) rfl rfl rfl hl.1 rfl (Nat.le_of_ble_eq_true rfl) dX1_sayCurve_116 ⟨Nat.zero_le _, Nat.zero_le _⟩ rfl (fun H locs hP hD hS => ?_)
          obtain ⟨q23, hq23, h⟩ := f_b h
          refine cl_V (w := (hW G Z Y q22.2)) (w' := (hW G Z Y q23.2)) (rv := none) (bytes := cX1_note) (maxL := 5) (ret := none) (C := RX1) (As := [.int y2, .int z4, .long q22.1]) (rest := []) (stk := []) ⟨hx, hb, hml, hown, hts⟩ hK hE hA hP hD hS (c_X1_note l D G Z Y q22.2 r0 hr0 y2 z4 q22.1 q23 hq23) (cwV 3 hts (gwV wd_870 wd_872 wp_29 wd_7 wd_873) rfl rfl rfl hd_X1_note ⟨Nat.le_of_ble_eq_true rfl, Nat.le_of_ble_eq_true rfl⟩) (hg_Co G Z Y q22.2 hr0) rfl rfl rfl hl.1 rfl (Nat.le_of_ble_eq_true rfl) dX1_sayCurve_119 ⟨Nat.zero_le _, Nat.zero_le _⟩ rfl (fun H locs hP hD hS => ?_)
          refine lv_iinc (v := (z4 + 1)) (lv' := [(4, .int (z4 + 1)), (0, .ref (G.2.1 r0)), (1, .ref (G.2.1 r1)), (2, .int y2), (3, .ref (G.2.1 q1.1))]) hx hb dX1_sayCurve_122 hl (k := 4) rfl rfl (by decide) rfl (fun ls hl => ?_)
          refine lv_goto (tgt := 69) hx hb dX1_sayCurve_125 (by decide) ?_
          exact ih q23.2 (z4 + 1) h _ _ _ hP hD hS (lv_sub hl [1, 2, 3, 4, 0] rfl)
set_option maxRecDepth 100000 in
set_option maxHeartbeats 8000000 in
theorem c_X1_sayCurve (l : Launch) (D : va_G) (G : hG) (Z : hZ) (Y : va_W) (σ0 : hSt) (F : Nat) (r0 : Nat) (hr0 : isCo r0 = true) (r1 : Nat) (hr1 : isTa Z r1 = true) (x2 : Int32) (res : (Unit × hSt)) (h : f_X1_sayCurve F Z σ0 r0 r1 x2 = some res) : CT l yX1_sayCurve cX1_sayCurve 5 none rm_X1_sayCurve D G 0 0 [.ref (G.2.1 r0), .ref (G.2.1 r1), .int x2] (hW G Z Y σ0) (hW G Z Y res.2) none := by
  unfold f_X1_sayCurve at h
  refine CT.mk (cc := cX1_sayCurve) (maxL := 5) (ret := none) (own := RX1) (plainFor_of_name (by decide)) rfl (Nat.le_of_ble_eq_true rfl) ?_
  intro p e s m args below meth c A ls C0 hnm hA hP hD hl
  obtain ⟨hx, hb, hr, hml, hown, hts, hlocks, hK, hE⟩ := id C0
  have hS : va_S A s.heap s.heap [] := va_S.rf
  have hl : lv_has ls 5 [(0, .ref (G.2.1 r0)), (1, .ref (G.2.1 r1)), (2, .int x2)] := hl
  refine lv_aload_n hx hb dX1_sayCurve_0 rfl (lv_at hl 0 rfl) ?_
  refine lv_aload_n hx hb dX1_sayCurve_1 rfl (lv_at hl 1 rfl) ?_
  refine lv_iload_n hx hb dX1_sayCurve_2 rfl (lv_at hl 2 rfl) ?_
  obtain ⟨q1, hq1, h⟩ := f_b h
  refine cl_V (w := (hW G Z Y σ0)) (w' := (hW G Z Y q1.2)) (rv := some (.ref (G.2.1 q1.1))) (bytes := cX1_truthsOf) (maxL := 6) (ret := (some (.array .long))) (C := RX1) (As := [.ref (G.2.1 r1), .int x2]) (rest := []) (stk := [.ref (G.2.1 q1.1)]) ⟨hx, hb, hml, hown, hts⟩ hK hE hA hP hD hS (c_X1_truthsOf l D G Z Y σ0 F r0 hr0 r1 hr1 x2 q1 hq1) (cwV 2 hts (gwV wd_857 wd_859 wp_27 wd_7 wd_860) rfl rfl rfl hd_X1_truthsOf ⟨Nat.le_of_ble_eq_true rfl, Nat.le_of_ble_eq_true rfl⟩) (hg_Co G Z Y σ0 hr0) rfl rfl rfl hl.1 rfl (Nat.le_of_ble_eq_true rfl) dX1_sayCurve_3 ⟨Nat.zero_le _, Nat.zero_le _⟩ rfl (fun H locs hP hD hS => ?_)
  obtain ⟨hj2, h⟩ := f_c h
  refine lv_astore_n (lv' := [(3, .ref (G.2.1 q1.1)), (0, .ref (G.2.1 r0)), (1, .ref (G.2.1 r1)), (2, .int x2)]) hx hb dX1_sayCurve_6 rfl hl (by decide) rfl (fun ls hl => ?_)
  refine lv_aload_n hx hb dX1_sayCurve_7 rfl (lv_at hl 1 rfl) ?_
  refine va_get (D := D) (ci := 2) (v := .ref (G.2.1 (r0 + 2))) (C := RX1) (T := TX1) (N := 15) hx hb hts inU_X1 hown hK hP _ (hg_Co G Z Y q1.2 hr0) rfl 2 (by decide) (hts _ wd_160) (fun _ h9 => h9) rfl dX1_sayCurve_8 ?_
  refine lv_iconst (v := 1) hx hb dX1_sayCurve_11 (by decide) ?_
  refine lv_aload_n hx hb dX1_sayCurve_12 rfl (lv_at hl 1 rfl) ?_
  refine va_get (D := D) (ci := 2) (v := .long (q1.2.2.1 r0 10)) (C := RX1) (T := TX1) (N := 15) hx hb hts inU_X1 hown hK hP _ (hg_Co G Z Y q1.2 hr0) rfl 10 (by decide) (hts _ wd_170) (fun _ h9 => h9) rfl dX1_sayCurve_13 ?_
  obtain ⟨c3, h⟩ := f_n h
  refine va_last hx hb hK hP hD hS _ 1 (hg_Cole G Z Y q1.2 hr0) rfl c3 dX1_sayCurve_16 (fun H locs hP hD hS => ?_)
  have hP := wrP (hp_Cole G Z Y q1.2 hr0 _ _) hP
  have hD := wrD (hp_Cole G Z Y q1.2 hr0 _ _) hD
  refine lv_aload_n hx hb dX1_sayCurve_17 rfl (lv_at hl 1 rfl) ?_
  refine va_get (D := D) (ci := 2) (v := .ref (G.2.1 (r0 + 2))) (C := RX1) (T := TX1) (N := 15) hx hb hts inU_X1 hown hK hP _ (hg_Co G Z Y (sJ q1.2 (r0 + 2) (((1 : Int32) : Int32).toNatClampNeg) (q1.2.2.1 r0 10)) hr0) rfl 2 (by decide) (hts _ wd_160) (fun _ h9 => h9) rfl dX1_sayCurve_18 ?_
  refine lv_iconst (v := 2) hx hb dX1_sayCurve_21 (by decide) ?_
  refine lv_aload_n hx hb dX1_sayCurve_22 rfl (lv_at hl 0 rfl) ?_
  refine va_alen (ty := .long) (v := (Int32.ofNat (jlen q1.1))) hx hb hK hP _ 1 (hg_J G Z Y (sJ q1.2 (r0 + 2) (((1 : Int32) : Int32).toNatClampNeg) (q1.2.2.1 r0 10)) hj2) rfl rfl dX1_sayCurve_23 ?_
  refine lv_iconst (v := 2) hx hb dX1_sayCurve_24 (by decide) ?_
  refine lv_icmp_ge (tgt := 32) hx hb dX1_sayCurve_25 (by decide) (fun c4 => ?_) (fun c4 => ?_)
  · skip
    have h := f_t c4 h
    refine lv_aload_n hx hb dX1_sayCurve_32 rfl (lv_at hl 0 rfl) ?_
    refine lv_iconst (v := 0) hx hb dX1_sayCurve_33 (by decide) ?_
    obtain ⟨c5, h⟩ := f_n h
    refine va_laldE (v := ((sJ q1.2 (r0 + 2) (((1 : Int32) : Int32).toNatClampNeg) (q1.2.2.1 r0 10)).2.1 q1.1 (((0 : Int32) : Int32).toNatClampNeg))) hx hb hK hP _ 1 (hg_J G Z Y (sJ q1.2 (r0 + 2) (((1 : Int32) : Int32).toNatClampNeg) (q1.2.2.1 r0 10)) hj2) rfl c5 dX1_sayCurve_34 rfl ?_
    refine lv_aload_n hx hb dX1_sayCurve_35 rfl (lv_at hl 0 rfl) ?_
    refine lv_iconst (v := 1) hx hb dX1_sayCurve_36 (by decide) ?_
    obtain ⟨c6, h⟩ := f_n h
    refine va_laldE (v := ((sJ q1.2 (r0 + 2) (((1 : Int32) : Int32).toNatClampNeg) (q1.2.2.1 r0 10)).2.1 q1.1 (((1 : Int32) : Int32).toNatClampNeg))) hx hb hK hP _ 1 (hg_J G Z Y (sJ q1.2 (r0 + 2) (((1 : Int32) : Int32).toNatClampNeg) (q1.2.2.1 r0 10)) hj2) rfl c6 dX1_sayCurve_37 rfl ?_
    refine lv_aload_n hx hb dX1_sayCurve_38 rfl (lv_at hl 2 rfl) ?_
    obtain ⟨qq7, hq7⟩ := hg_Ta G Z Y (sJ q1.2 (r0 + 2) (((1 : Int32) : Int32).toNatClampNeg) (q1.2.2.1 r0 10)) hr1
    refine va_getN (D := D) (ci := 7) (v := .int (Z.2.2.1 r1 1)) (C := RX7) (T := TX7) (N := 4) hx hb hts inU_X7 hown hK hP _ hq7 rfl 1 (by decide) (nF_use 21 hE rfl) (fun _ h9 => h9) rfl dX1_sayCurve_39 ?_
    refine lv_i2l (v := ((Z.2.2.1 r1 1) : Int32).toInt64) hx hb dX1_sayCurve_42 rfl ?_
    obtain ⟨q8, hq8, h⟩ := f_b h
    refine cl_S (w := (hW G Z Y (sJ q1.2 (r0 + 2) (((1 : Int32) : Int32).toNatClampNeg) (q1.2.2.1 r0 10)))) (w' := (hW G Z Y (sJ q1.2 (r0 + 2) (((1 : Int32) : Int32).toNatClampNeg) (q1.2.2.1 r0 10)))) (rv := some (.long q8)) (bytes := cX3_plus) (maxL := 8) (ret := (some .long)) (As := [.long ((sJ q1.2 (r0 + 2) (((1 : Int32) : Int32).toNatClampNeg) (q1.2.2.1 r0 10)).2.1 q1.1 (((0 : Int32) : Int32).toNatClampNeg)), .long ((sJ q1.2 (r0 + 2) (((1 : Int32) : Int32).toNatClampNeg) (q1.2.2.1 r0 10)).2.1 q1.1 (((1 : Int32) : Int32).toNatClampNeg)), .long ((Z.2.2.1 r1 1) : Int32).toInt64]) (rest := [.int (2 : Int32), .ref (G.2.1 (r0 + 2))]) (stk := [.long q8, .int (2 : Int32), .ref (G.2.1 (r0 + 2))]) ⟨hx, hb, hml, hown, hts⟩ hK hE hA hP hD hS (c_X3_plus l D G (hW G Z Y (sJ q1.2 (r0 + 2) (((1 : Int32) : Int32).toNatClampNeg) (q1.2.2.1 r0 10))) ((sJ q1.2 (r0 + 2) (((1 : Int32) : Int32).toNatClampNeg) (q1.2.2.1 r0 10)).2.1 q1.1 (((0 : Int32) : Int32).toNatClampNeg)) ((sJ q1.2 (r0 + 2) (((1 : Int32) : Int32).toNatClampNeg) (q1.2.2.1 r0 10)).2.1 q1.1 (((1 : Int32) : Int32).toNatClampNeg)) (((Z.2.2.1 r1 1) : Int32).toInt64) q8 hq8) (mkS hts wd_865 wd_598 wd_5 wd_599 rfl rfl hd_X3_plus ⟨Nat.le_of_ble_eq_true rfl, Nat.le_of_ble_eq_true rfl⟩) rfl hl.1 rfl (Nat.le_of_ble_eq_true rfl) dX1_sayCurve_43 ⟨Nat.zero_le _, Nat.zero_le _⟩ rfl (fun H locs hP hD hS => ?_)
    obtain ⟨c9, h⟩ := f_n h
    refine va_last hx hb hK hP hD hS _ 1 (hg_Cole G Z Y (sJ q1.2 (r0 + 2) (((1 : Int32) : Int32).toNatClampNeg) (q1.2.2.1 r0 10)) hr0) rfl c9 dX1_sayCurve_46 (fun H locs hP hD hS => ?_)
    have hP := wrP (hp_Cole G Z Y (sJ q1.2 (r0 + 2) (((1 : Int32) : Int32).toNatClampNeg) (q1.2.2.1 r0 10)) hr0 _ _) hP
    have hD := wrD (hp_Cole G Z Y (sJ q1.2 (r0 + 2) (((1 : Int32) : Int32).toNatClampNeg) (q1.2.2.1 r0 10)) hr0 _ _) hD
    refine lv_aload_n hx hb dX1_sayCurve_47 rfl (lv_at hl 1 rfl) ?_
    refine va_get (D := D) (ci := 2) (v := .ref (G.2.1 (r0 + 2))) (C := RX1) (T := TX1) (N := 15) hx hb hts inU_X1 hown hK hP _ (hg_Co G Z Y (sJ (sJ q1.2 (r0 + 2) (((1 : Int32) : Int32).toNatClampNeg) (q1.2.2.1 r0 10)) (r0 + 2) (((2 : Int32) : Int32).toNatClampNeg) q8) hr0) rfl 2 (by decide) (hts _ wd_160) (fun _ h9 => h9) rfl dX1_sayCurve_48 ?_
    refine lv_iconst (v := 3) hx hb dX1_sayCurve_51 (by decide) ?_
    refine lv_aload_n hx hb dX1_sayCurve_52 rfl (lv_at hl 1 rfl) ?_
    refine lv_iload_n hx hb dX1_sayCurve_53 rfl (lv_at hl 3 rfl) ?_
    obtain ⟨q10, hq10, h⟩ := f_b h
    refine cl_V (w := (hW G Z Y (sJ (sJ q1.2 (r0 + 2) (((1 : Int32) : Int32).toNatClampNeg) (q1.2.2.1 r0 10)) (r0 + 2) (((2 : Int32) : Int32).toNatClampNeg) q8))) (w' := (hW G Z Y (sJ (sJ q1.2 (r0 + 2) (((1 : Int32) : Int32).toNatClampNeg) (q1.2.2.1 r0 10)) (r0 + 2) (((2 : Int32) : Int32).toNatClampNeg) q8))) (rv := some (.long q10)) (bytes := cX1_drawBefore) (maxL := 2) (ret := (some .long)) (C := RX1) (As := [.int x2]) (rest := [.int (3 : Int32), .ref (G.2.1 (r0 + 2))]) (stk := [.long q10, .int (3 : Int32), .ref (G.2.1 (r0 + 2))]) ⟨hx, hb, hml, hown, hts⟩ hK hE hA hP hD hS (c_X1_drawBefore l D G Z Y (sJ (sJ q1.2 (r0 + 2) (((1 : Int32) : Int32).toNatClampNeg) (q1.2.2.1 r0 10)) (r0 + 2) (((2 : Int32) : Int32).toNatClampNeg) q8) r0 hr0 x2 q10 hq10) (cwV 1 hts (gwV wd_866 wd_868 wp_28 wd_7 wd_869) rfl rfl rfl hd_X1_drawBefore ⟨Nat.le_of_ble_eq_true rfl, Nat.le_of_ble_eq_true rfl⟩) (hg_Co G Z Y (sJ (sJ q1.2 (r0 + 2) (((1 : Int32) : Int32).toNatClampNeg) (q1.2.2.1 r0 10)) (r0 + 2) (((2 : Int32) : Int32).toNatClampNeg) q8) hr0) rfl rfl rfl hl.1 rfl (Nat.le_of_ble_eq_true rfl) dX1_sayCurve_54 ⟨Nat.zero_le _, Nat.zero_le _⟩ rfl (fun H locs hP hD hS => ?_)
    obtain ⟨c11, h⟩ := f_n h
    refine va_last hx hb hK hP hD hS _ 1 (hg_Cole G Z Y (sJ (sJ q1.2 (r0 + 2) (((1 : Int32) : Int32).toNatClampNeg) (q1.2.2.1 r0 10)) (r0 + 2) (((2 : Int32) : Int32).toNatClampNeg) q8) hr0) rfl c11 dX1_sayCurve_57 (fun H locs hP hD hS => ?_)
    have hP := wrP (hp_Cole G Z Y (sJ (sJ q1.2 (r0 + 2) (((1 : Int32) : Int32).toNatClampNeg) (q1.2.2.1 r0 10)) (r0 + 2) (((2 : Int32) : Int32).toNatClampNeg) q8) hr0 _ _) hP
    have hD := wrD (hp_Cole G Z Y (sJ (sJ q1.2 (r0 + 2) (((1 : Int32) : Int32).toNatClampNeg) (q1.2.2.1 r0 10)) (r0 + 2) (((2 : Int32) : Int32).toNatClampNeg) q8) hr0 _ _) hD
    refine lv_aload_n hx hb dX1_sayCurve_58 rfl (lv_at hl 1 rfl) ?_
    refine va_get (D := D) (ci := 2) (v := .ref (G.2.1 (r0 + 2))) (C := RX1) (T := TX1) (N := 15) hx hb hts inU_X1 hown hK hP _ (hg_Co G Z Y (sJ (sJ (sJ q1.2 (r0 + 2) (((1 : Int32) : Int32).toNatClampNeg) (q1.2.2.1 r0 10)) (r0 + 2) (((2 : Int32) : Int32).toNatClampNeg) q8) (r0 + 2) (((3 : Int32) : Int32).toNatClampNeg) q10) hr0) rfl 2 (by decide) (hts _ wd_160) (fun _ h9 => h9) rfl dX1_sayCurve_59 ?_
    refine lv_iconst (v := 4) hx hb dX1_sayCurve_62 (by decide) ?_
    refine lv_iload_n hx hb dX1_sayCurve_63 rfl (lv_at hl 3 rfl) ?_
    refine lv_i2l (v := (x2 : Int32).toInt64) hx hb dX1_sayCurve_64 rfl ?_
    obtain ⟨c12, h⟩ := f_n h
    refine va_last hx hb hK hP hD hS _ 1 (hg_Cole G Z Y (sJ (sJ (sJ q1.2 (r0 + 2) (((1 : Int32) : Int32).toNatClampNeg) (q1.2.2.1 r0 10)) (r0 + 2) (((2 : Int32) : Int32).toNatClampNeg) q8) (r0 + 2) (((3 : Int32) : Int32).toNatClampNeg) q10) hr0) rfl c12 dX1_sayCurve_65 (fun H locs hP hD hS => ?_)
    have hP := wrP (hp_Cole G Z Y (sJ (sJ (sJ q1.2 (r0 + 2) (((1 : Int32) : Int32).toNatClampNeg) (q1.2.2.1 r0 10)) (r0 + 2) (((2 : Int32) : Int32).toNatClampNeg) q8) (r0 + 2) (((3 : Int32) : Int32).toNatClampNeg) q10) hr0 _ _) hP
    have hD := wrD (hp_Cole G Z Y (sJ (sJ (sJ q1.2 (r0 + 2) (((1 : Int32) : Int32).toNatClampNeg) (q1.2.2.1 r0 10)) (r0 + 2) (((2 : Int32) : Int32).toNatClampNeg) q8) (r0 + 2) (((3 : Int32) : Int32).toNatClampNeg) q10) hr0 _ _) hD
    refine lv_iconst (v := 0) hx hb dX1_sayCurve_66 (by decide) ?_
    refine lv_istore (lv' := [(4, .int (0 : Int32)), (3, .ref (G.2.1 q1.1)), (0, .ref (G.2.1 r0)), (1, .ref (G.2.1 r1)), (2, .int x2)]) hx hb dX1_sayCurve_67 hl (by decide) rfl (fun ls hl => ?_)
    refine W_X1_sayCurve_L69 l D G Z Y σ0 F r0 hr0 r1 hr1 x2 q1 hj2 x2 res C0 hA F (sJ (sJ (sJ (sJ q1.2 (r0 + 2) (((1 : Int32) : Int32).toNatClampNeg) (q1.2.2.1 r0 10)) (r0 + 2) (((2 : Int32) : Int32).toNatClampNeg) q8) (r0 + 2) (((3 : Int32) : Int32).toNatClampNeg) q10) (r0 + 2) (((4 : Int32) : Int32).toNatClampNeg) ((x2 : Int32).toInt64)) (0 : Int32) h _ _ _ hP hD hS (lv_sub hl [2, 3, 4, 1, 0] rfl)
  · skip
    have h := f_f c4 h
    refine lv_lconst (v := 0) hx hb dX1_sayCurve_28 (by decide) ?_
    refine lv_goto (tgt := 46) hx hb dX1_sayCurve_29 (by decide) ?_
    obtain ⟨c24, h⟩ := f_n h
    refine va_last hx hb hK hP hD hS _ 1 (hg_Cole G Z Y (sJ q1.2 (r0 + 2) (((1 : Int32) : Int32).toNatClampNeg) (q1.2.2.1 r0 10)) hr0) rfl c24 dX1_sayCurve_46 (fun H locs hP hD hS => ?_)
    have hP := wrP (hp_Cole G Z Y (sJ q1.2 (r0 + 2) (((1 : Int32) : Int32).toNatClampNeg) (q1.2.2.1 r0 10)) hr0 _ _) hP
    have hD := wrD (hp_Cole G Z Y (sJ q1.2 (r0 + 2) (((1 : Int32) : Int32).toNatClampNeg) (q1.2.2.1 r0 10)) hr0 _ _) hD
    refine lv_aload_n hx hb dX1_sayCurve_47 rfl (lv_at hl 1 rfl) ?_
    refine va_get (D := D) (ci := 2) (v := .ref (G.2.1 (r0 + 2))) (C := RX1) (T := TX1) (N := 15) hx hb hts inU_X1 hown hK hP _ (hg_Co G Z Y (sJ (sJ q1.2 (r0 + 2) (((1 : Int32) : Int32).toNatClampNeg) (q1.2.2.1 r0 10)) (r0 + 2) (((2 : Int32) : Int32).toNatClampNeg) (0 : Int64)) hr0) rfl 2 (by decide) (hts _ wd_160) (fun _ h9 => h9) rfl dX1_sayCurve_48 ?_
    refine lv_iconst (v := 3) hx hb dX1_sayCurve_51 (by decide) ?_
    refine lv_aload_n hx hb dX1_sayCurve_52 rfl (lv_at hl 1 rfl) ?_
    refine lv_iload_n hx hb dX1_sayCurve_53 rfl (lv_at hl 3 rfl) ?_
    obtain ⟨q25, hq25, h⟩ := f_b h
    refine cl_V (w := (hW G Z Y (sJ (sJ q1.2 (r0 + 2) (((1 : Int32) : Int32).toNatClampNeg) (q1.2.2.1 r0 10)) (r0 + 2) (((2 : Int32) : Int32).toNatClampNeg) (0 : Int64)))) (w' := (hW G Z Y (sJ (sJ q1.2 (r0 + 2) (((1 : Int32) : Int32).toNatClampNeg) (q1.2.2.1 r0 10)) (r0 + 2) (((2 : Int32) : Int32).toNatClampNeg) (0 : Int64)))) (rv := some (.long q25)) (bytes := cX1_drawBefore) (maxL := 2) (ret := (some .long)) (C := RX1) (As := [.int x2]) (rest := [.int (3 : Int32), .ref (G.2.1 (r0 + 2))]) (stk := [.long q25, .int (3 : Int32), .ref (G.2.1 (r0 + 2))]) ⟨hx, hb, hml, hown, hts⟩ hK hE hA hP hD hS (c_X1_drawBefore l D G Z Y (sJ (sJ q1.2 (r0 + 2) (((1 : Int32) : Int32).toNatClampNeg) (q1.2.2.1 r0 10)) (r0 + 2) (((2 : Int32) : Int32).toNatClampNeg) (0 : Int64)) r0 hr0 x2 q25 hq25) (cwV 1 hts (gwV wd_866 wd_868 wp_28 wd_7 wd_869) rfl rfl rfl hd_X1_drawBefore ⟨Nat.le_of_ble_eq_true rfl, Nat.le_of_ble_eq_true rfl⟩) (hg_Co G Z Y (sJ (sJ q1.2 (r0 + 2) (((1 : Int32) : Int32).toNatClampNeg) (q1.2.2.1 r0 10)) (r0 + 2) (((2 : Int32) : Int32).toNatClampNeg) (0 : Int64)) hr0) rfl rfl rfl hl.1 rfl (Nat.le_of_ble_eq_true rfl) dX1_sayCurve_54 ⟨Nat.zero_le _, Nat.zero_le _⟩ rfl (fun H locs hP hD hS => ?_)
    obtain ⟨c26, h⟩ := f_n h
    refine va_last hx hb hK hP hD hS _ 1 (hg_Cole G Z Y (sJ (sJ q1.2 (r0 + 2) (((1 : Int32) : Int32).toNatClampNeg) (q1.2.2.1 r0 10)) (r0 + 2) (((2 : Int32) : Int32).toNatClampNeg) (0 : Int64)) hr0) rfl c26 dX1_sayCurve_57 (fun H locs hP hD hS => ?_)
    have hP := wrP (hp_Cole G Z Y (sJ (sJ q1.2 (r0 + 2) (((1 : Int32) : Int32).toNatClampNeg) (q1.2.2.1 r0 10)) (r0 + 2) (((2 : Int32) : Int32).toNatClampNeg) (0 : Int64)) hr0 _ _) hP
    have hD := wrD (hp_Cole G Z Y (sJ (sJ q1.2 (r0 + 2) (((1 : Int32) : Int32).toNatClampNeg) (q1.2.2.1 r0 10)) (r0 + 2) (((2 : Int32) : Int32).toNatClampNeg) (0 : Int64)) hr0 _ _) hD
    refine lv_aload_n hx hb dX1_sayCurve_58 rfl (lv_at hl 1 rfl) ?_
    refine va_get (D := D) (ci := 2) (v := .ref (G.2.1 (r0 + 2))) (C := RX1) (T := TX1) (N := 15) hx hb hts inU_X1 hown hK hP _ (hg_Co G Z Y (sJ (sJ (sJ q1.2 (r0 + 2) (((1 : Int32) : Int32).toNatClampNeg) (q1.2.2.1 r0 10)) (r0 + 2) (((2 : Int32) : Int32).toNatClampNeg) (0 : Int64)) (r0 + 2) (((3 : Int32) : Int32).toNatClampNeg) q25) hr0) rfl 2 (by decide) (hts _ wd_160) (fun _ h9 => h9) rfl dX1_sayCurve_59 ?_
    refine lv_iconst (v := 4) hx hb dX1_sayCurve_62 (by decide) ?_
    refine lv_iload_n hx hb dX1_sayCurve_63 rfl (lv_at hl 3 rfl) ?_
    refine lv_i2l (v := (x2 : Int32).toInt64) hx hb dX1_sayCurve_64 rfl ?_
    obtain ⟨c27, h⟩ := f_n h
    refine va_last hx hb hK hP hD hS _ 1 (hg_Cole G Z Y (sJ (sJ (sJ q1.2 (r0 + 2) (((1 : Int32) : Int32).toNatClampNeg) (q1.2.2.1 r0 10)) (r0 + 2) (((2 : Int32) : Int32).toNatClampNeg) (0 : Int64)) (r0 + 2) (((3 : Int32) : Int32).toNatClampNeg) q25) hr0) rfl c27 dX1_sayCurve_65 (fun H locs hP hD hS => ?_)
    have hP := wrP (hp_Cole G Z Y (sJ (sJ (sJ q1.2 (r0 + 2) (((1 : Int32) : Int32).toNatClampNeg) (q1.2.2.1 r0 10)) (r0 + 2) (((2 : Int32) : Int32).toNatClampNeg) (0 : Int64)) (r0 + 2) (((3 : Int32) : Int32).toNatClampNeg) q25) hr0 _ _) hP
    have hD := wrD (hp_Cole G Z Y (sJ (sJ (sJ q1.2 (r0 + 2) (((1 : Int32) : Int32).toNatClampNeg) (q1.2.2.1 r0 10)) (r0 + 2) (((2 : Int32) : Int32).toNatClampNeg) (0 : Int64)) (r0 + 2) (((3 : Int32) : Int32).toNatClampNeg) q25) hr0 _ _) hD
    refine lv_iconst (v := 0) hx hb dX1_sayCurve_66 (by decide) ?_
    refine lv_istore (lv' := [(4, .int (0 : Int32)), (3, .ref (G.2.1 q1.1)), (0, .ref (G.2.1 r0)), (1, .ref (G.2.1 r1)), (2, .int x2)]) hx hb dX1_sayCurve_67 hl (by decide) rfl (fun ls hl => ?_)
    refine W_X1_sayCurve_L69 l D G Z Y σ0 F r0 hr0 r1 hr1 x2 q1 hj2 x2 res C0 hA F (sJ (sJ (sJ (sJ q1.2 (r0 + 2) (((1 : Int32) : Int32).toNatClampNeg) (q1.2.2.1 r0 10)) (r0 + 2) (((2 : Int32) : Int32).toNatClampNeg) (0 : Int64)) (r0 + 2) (((3 : Int32) : Int32).toNatClampNeg) q25) (r0 + 2) (((4 : Int32) : Int32).toNatClampNeg) ((x2 : Int32).toInt64)) (0 : Int32) h _ _ _ hP hD hS (lv_sub hl [2, 3, 4, 1, 0] rfl)
abbrev rm_X1_moveOn : Room := { frames := 4, cells := 0, slots := 0, locals := 106 }
set_option maxRecDepth 100000 in
set_option maxHeartbeats 8000000 in
theorem c_X1_moveOn (l : Launch) (D : va_G) (G : hG) (Z : hZ) (Y : va_W) (σ0 : hSt) (F : Nat) (r0 : Nat) (hr0 : isCo r0 = true) (r1 : Nat) (hr1 : isTa Z r1 = true) (x2 : Int32) (x3 : Int32) (res : (Unit × hSt)) (h : f_X1_moveOn F Z σ0 r0 r1 x2 x3 = some res) : CT l yX1_moveOn cX1_moveOn 4 none rm_X1_moveOn D G 0 0 [.ref (G.2.1 r0), .ref (G.2.1 r1), .int x2, .int x3] (hW G Z Y σ0) (hW G Z Y res.2) none := by
  unfold f_X1_moveOn at h
  refine CT.mk (cc := cX1_moveOn) (maxL := 4) (ret := none) (own := RX1) (plainFor_of_name (by decide)) rfl (Nat.le_of_ble_eq_true rfl) ?_
  intro p e s m args below meth c A ls C0 hnm hA hP hD hl
  obtain ⟨hx, hb, hr, hml, hown, hts, hlocks, hK, hE⟩ := id C0
  have hS : va_S A s.heap s.heap [] := va_S.rf
  have hl : lv_has ls 4 [(0, .ref (G.2.1 r0)), (1, .ref (G.2.1 r1)), (2, .int x2), (3, .int x3)] := hl
  refine lv_iload_n hx hb dX1_moveOn_0 rfl (lv_at hl 2 rfl) ?_
  refine lv_if_lt (tgt := 71) hx hb dX1_moveOn_1 (by decide) (fun c1 => ?_) (fun c1 => ?_)
  · skip
    have h := f_t c1 h
    obtain rfl := Option.some.inj h
    exact W.vret hx hb hr (q_end hK hP hD hS) hS.2.2 dX1_moveOn_71
  · skip
    have h := f_f c1 h
    refine lv_iload_n hx hb dX1_moveOn_4 rfl (lv_at hl 2 rfl) ?_
    refine lv_aload_n hx hb dX1_moveOn_5 rfl (lv_at hl 0 rfl) ?_
    refine va_get (D := D) (ci := 2) (v := .ref (G.2.1 (r0 + 4))) (C := RX1) (T := TX1) (N := 15) hx hb hts inU_X1 hown hK hP _ (hg_Co G Z Y σ0 hr0) rfl 4 (by decide) (hts _ wd_162) (fun _ h9 => h9) rfl dX1_moveOn_6 ?_
    refine va_alen (ty := .long) (v := (6 : Int32)) hx hb hK hP _ 1 (hg_Codr G Z Y σ0 hr0) rfl rfl dX1_moveOn_9 ?_
    refine lv_icmp_ge (tgt := 71) hx hb dX1_moveOn_10 (by decide) (fun c2 => ?_) (fun c2 => ?_)
    · skip
      have h := f_t c2 h
      obtain rfl := Option.some.inj h
      exact W.vret hx hb hr (q_end hK hP hD hS) hS.2.2 dX1_moveOn_71
    · skip
      have h := f_f c2 h
      refine lv_iload_n hx hb dX1_moveOn_13 rfl (lv_at hl 2 rfl) ?_
      refine lv_aload_n hx hb dX1_moveOn_14 rfl (lv_at hl 0 rfl) ?_
      refine va_get (D := D) (ci := 2) (v := .ref (G.2.1 (r0 + 22))) (C := RX1) (T := TX1) (N := 15) hx hb hts inU_X1 hown hK hP _ (hg_Co G Z Y σ0 hr0) rfl 3 (by decide) (hts _ wd_161) (fun _ h9 => h9) rfl dX1_moveOn_15 ?_
      refine va_alen (ty := .array .long) (v := (6 : Int32)) hx hb hK hP _ 4 (hg_Cogr G Z Y σ0 hr0) rfl rfl dX1_moveOn_18 ?_
      refine lv_icmp_ge (tgt := 71) hx hb dX1_moveOn_19 (by decide) (fun c3 => ?_) (fun c3 => ?_)
      · skip
        have h := f_t c3 h
        obtain rfl := Option.some.inj h
        exact W.vret hx hb hr (q_end hK hP hD hS) hS.2.2 dX1_moveOn_71
      · skip
        have h := f_f c3 h
        refine lv_aload_n hx hb dX1_moveOn_22 rfl (lv_at hl 0 rfl) ?_
        refine va_get (D := D) (ci := 2) (v := .ref (G.2.1 (r0 + 4))) (C := RX1) (T := TX1) (N := 15) hx hb hts inU_X1 hown hK hP _ (hg_Co G Z Y σ0 hr0) rfl 4 (by decide) (hts _ wd_162) (fun _ h9 => h9) rfl dX1_moveOn_23 ?_
        refine lv_iload_n hx hb dX1_moveOn_26 rfl (lv_at hl 2 rfl) ?_
        refine lv_iload_n hx hb dX1_moveOn_27 rfl (lv_at hl 3 rfl) ?_
        refine lv_i2l (v := (x3 : Int32).toInt64) hx hb dX1_moveOn_28 rfl ?_
        obtain ⟨c4, h⟩ := f_n h
        refine va_last hx hb hK hP hD hS _ 1 (hg_Codr G Z Y σ0 hr0) rfl c4 dX1_moveOn_29 (fun H locs hP hD hS => ?_)
        have hP := wrP (hp_Codr G Z Y σ0 hr0 _ _) hP
        have hD := wrD (hp_Codr G Z Y σ0 hr0 _ _) hD
        refine lv_aload_n hx hb dX1_moveOn_30 rfl (lv_at hl 0 rfl) ?_
        refine lv_iload_n hx hb dX1_moveOn_31 rfl (lv_at hl 2 rfl) ?_
        refine lv_iconst (v := 1) hx hb dX1_moveOn_32 (by decide) ?_
        refine lv_iadd hx hb dX1_moveOn_33 ?_
        refine va_put (D := D) (ci := 2) (v := .int (x2 + (1 : Int32))) (ty := .int) (C := RX1) (T := TX1) (N := 15) hx hb hts inU_X1 tyX1 tyX1_ok nmX1 hown hK hP hD hS _ (hg_Co G Z Y (sJ σ0 (r0 + 4) ((x2 : Int32).toNatClampNeg) ((x3 : Int32).toInt64)) hr0) rfl 12 (by decide) (hts _ wd_174) (fun _ h9 => h9) rfl (by decide +kernel) rfl rfl (Nat.le_of_ble_eq_true rfl) dX1_moveOn_34 (fun H locs hP hD hS => ?_)
        have hP := wrP (hp_Co_12 G Z Y (sJ σ0 (r0 + 4) ((x2 : Int32).toNatClampNeg) ((x3 : Int32).toInt64)) hr0 (x2 + (1 : Int32))) hP
        have hD := wrD (hp_Co_12 G Z Y (sJ σ0 (r0 + 4) ((x2 : Int32).toNatClampNeg) ((x3 : Int32).toInt64)) hr0 (x2 + (1 : Int32))) hD
        refine lv_aload_n hx hb dX1_moveOn_37 rfl (lv_at hl 0 rfl) ?_
        refine lv_aload_n hx hb dX1_moveOn_38 rfl (lv_at hl 0 rfl) ?_
        refine va_get (D := D) (ci := 2) (v := .ref (G.2.1 7)) (C := RX1) (T := TX1) (N := 15) hx hb hts inU_X1 hown hK hP _ (hg_Co G Z Y (sI (sJ σ0 (r0 + 4) ((x2 : Int32).toNatClampNeg) ((x3 : Int32).toInt64)) r0 12 (x2 + (1 : Int32))) hr0) rfl 0 (by decide) (hts _ wd_158) (fun _ h9 => h9) rfl dX1_moveOn_39 ?_
        refine lv_aload_n hx hb dX1_moveOn_42 rfl (lv_at hl 0 rfl) ?_
        refine va_get (D := D) (ci := 2) (v := .ref (G.2.1 (r0 + 22))) (C := RX1) (T := TX1) (N := 15) hx hb hts inU_X1 hown hK hP _ (hg_Co G Z Y (sI (sJ σ0 (r0 + 4) ((x2 : Int32).toNatClampNeg) ((x3 : Int32).toInt64)) r0 12 (x2 + (1 : Int32))) hr0) rfl 3 (by decide) (hts _ wd_161) (fun _ h9 => h9) rfl dX1_moveOn_43 ?_
        refine lv_iload_n hx hb dX1_moveOn_46 rfl (lv_at hl 2 rfl) ?_
        obtain ⟨c5, h⟩ := f_n h
        refine va_aldg (ty := .array .long) (v := .ref (G.2.1 (24 + 6 * (r0 - 14) + (x2 : Int32).toNatClampNeg))) hx hb hK hP _ 4 (hg_Cogr G Z Y (sI (sJ σ0 (r0 + 4) ((x2 : Int32).toNatClampNeg) ((x3 : Int32).toInt64)) r0 12 (x2 + (1 : Int32))) hr0) rfl rfl c5 dX1_moveOn_47 (by rw [if_pos (vin_lt c5)]; rfl) ?_
        refine lv_aload_n hx hb dX1_moveOn_48 rfl (lv_at hl 1 rfl) ?_
        obtain ⟨qq6, hq6⟩ := hg_Ta G Z Y (sI (sJ σ0 (r0 + 4) ((x2 : Int32).toNatClampNeg) ((x3 : Int32).toInt64)) r0 12 (x2 + (1 : Int32))) hr1
        refine va_getN (D := D) (ci := 7) (v := va_rf (((Z.2.2.2 r1 0)).map G.2.1)) (C := RX7) (T := TX7) (N := 4) hx hb hts inU_X7 hown hK hP _ hq6 rfl 0 (by decide) (nF_use 19 hE rfl) (fun _ h9 => h9) rfl dX1_moveOn_49 ?_
        rcases f_o h with ⟨ho, h⟩ | ⟨r7, ho, h⟩
        · rw [ho]
          refine lv_iload_n hx hb dX1_moveOn_52 rfl (lv_at hl 2 rfl) ?_
          cases h
        · rw [ho]
          obtain ⟨hr7, h⟩ := f_c h
          refine lv_iload_n hx hb dX1_moveOn_52 rfl (lv_at hl 2 rfl) ?_
          obtain ⟨q8, hq8, h⟩ := f_b h
          obtain ⟨qq9, hq9⟩ := hg_Sa G Z Y (sI (sJ σ0 (r0 + 4) ((x2 : Int32).toNatClampNeg) ((x3 : Int32).toInt64)) r0 12 (x2 + (1 : Int32))) hr7
          refine cl_V (w := (hW G Z Y (sI (sJ σ0 (r0 + 4) ((x2 : Int32).toNatClampNeg) ((x3 : Int32).toInt64)) r0 12 (x2 + (1 : Int32))))) (w' := (hW G Z Y (sI (sJ σ0 (r0 + 4) ((x2 : Int32).toNatClampNeg) ((x3 : Int32).toInt64)) r0 12 (x2 + (1 : Int32))))) (rv := some (.int q8)) (bytes := cX4_steepOf) (maxL := 2) (ret := (some .int)) (C := RX4) (As := [.int x2]) (rest := [.ref (G.2.1 (24 + 6 * (r0 - 14) + (x2 : Int32).toNatClampNeg)), .ref (G.2.1 7), .ref (G.2.1 r0)]) (stk := [.int q8, .ref (G.2.1 (24 + 6 * (r0 - 14) + (x2 : Int32).toNatClampNeg)), .ref (G.2.1 7), .ref (G.2.1 r0)]) ⟨hx, hb, hml, hown, hts⟩ hK hE hA hP hD hS (c_X4_steepOf l D G Z Y (sI (sJ σ0 (r0 + 4) ((x2 : Int32).toNatClampNeg) ((x3 : Int32).toInt64)) r0 12 (x2 + (1 : Int32))) r7 hr7 x2 q8 hq8) (cwV 1 hts (gwV wd_862 wd_676 wd_677 wd_18 wd_678) rfl rfl rfl hd_X4_steepOf ⟨Nat.le_of_ble_eq_true rfl, Nat.le_of_ble_eq_true rfl⟩) hq9 rfl rfl rfl hl.1 rfl (Nat.le_of_ble_eq_true rfl) dX1_moveOn_53 ⟨Nat.zero_le _, Nat.zero_le _⟩ rfl (fun H locs hP hD hS => ?_)
          refine lv_iconst (v := 1) hx hb dX1_moveOn_56 (by decide) ?_
          refine lv_iadd hx hb dX1_moveOn_57 ?_
          refine lv_aload_n hx hb dX1_moveOn_58 rfl (lv_at hl 1 rfl) ?_
          obtain ⟨qq10, hq10⟩ := hg_Ta G Z Y (sI (sJ σ0 (r0 + 4) ((x2 : Int32).toNatClampNeg) ((x3 : Int32).toInt64)) r0 12 (x2 + (1 : Int32))) hr1
          refine va_getN (D := D) (ci := 7) (v := .int (Z.2.2.1 r1 1)) (C := RX7) (T := TX7) (N := 4) hx hb hts inU_X7 hown hK hP _ hq10 rfl 1 (by decide) (nF_use 21 hE rfl) (fun _ h9 => h9) rfl dX1_moveOn_59 ?_
          refine lv_i2l (v := ((Z.2.2.1 r1 1) : Int32).toInt64) hx hb dX1_moveOn_62 rfl ?_
          refine lv_iload_n hx hb dX1_moveOn_63 rfl (lv_at hl 3 rfl) ?_
          refine lv_i2l (v := (x3 : Int32).toInt64) hx hb dX1_moveOn_64 rfl ?_
          obtain ⟨q11, hq11, h⟩ := f_b h
          refine cl_V (w := (hW G Z Y (sI (sJ σ0 (r0 + 4) ((x2 : Int32).toNatClampNeg) ((x3 : Int32).toInt64)) r0 12 (x2 + (1 : Int32))))) (w' := (hW G Z Y q11.2)) (rv := some (.long q11.1)) (bytes := cX3_curveAt) (maxL := 14) (ret := (some .long)) (C := RX3) (As := [.ref (G.2.1 (24 + 6 * (r0 - 14) + (x2 : Int32).toNatClampNeg)), .int (q8 + (1 : Int32)), .long ((Z.2.2.1 r1 1) : Int32).toInt64, .long (x3 : Int32).toInt64]) (rest := [.ref (G.2.1 r0)]) (stk := [.long q11.1, .ref (G.2.1 r0)]) ⟨hx, hb, hml, hown, hts⟩ hK hE hA hP hD hS (c_X3_curveAt l D G Z Y (sI (sJ σ0 (r0 + 4) ((x2 : Int32).toNatClampNeg) ((x3 : Int32).toInt64)) r0 12 (x2 + (1 : Int32))) F (24 + 6 * (r0 - 14) + (x2 : Int32).toNatClampNeg) (isJ_Corow hr0 (vin_lt c5)) (q8 + (1 : Int32)) (((Z.2.2.1 r1 1) : Int32).toInt64) ((x3 : Int32).toInt64) q11 hq11) (cwV 4 hts (gwV wd_921 wd_731 wd_732 wd_5 wd_733) rfl rfl rfl hd_X3_curveAt ⟨Nat.le_of_ble_eq_true rfl, Nat.le_of_ble_eq_true rfl⟩) (hg_7 G Z Y (sI (sJ σ0 (r0 + 4) ((x2 : Int32).toNatClampNeg) ((x3 : Int32).toInt64)) r0 12 (x2 + (1 : Int32)))) rfl rfl rfl hl.1 rfl (Nat.le_of_ble_eq_true rfl) dX1_moveOn_65 ⟨Nat.zero_le _, Nat.zero_le _⟩ rfl (fun H locs hP hD hS => ?_)
          refine va_put (D := D) (ci := 2) (v := .long q11.1) (ty := .long) (C := RX1) (T := TX1) (N := 15) hx hb hts inU_X1 tyX1 tyX1_ok nmX1 hown hK hP hD hS _ (hg_Co G Z Y q11.2 hr0) rfl 10 (by decide) (hts _ wd_170) (fun _ h9 => h9) rfl (by decide +kernel) rfl rfl (Nat.le_of_ble_eq_true rfl) dX1_moveOn_68 (fun H locs hP hD hS => ?_)
          have hP := wrP (hp_Co_10 G Z Y q11.2 hr0 q11.1) hP
          have hD := wrD (hp_Co_10 G Z Y q11.2 hr0 q11.1) hD
          obtain rfl := Option.some.inj h
          exact W.vret hx hb hr (q_end hK hP hD hS) hS.2.2 dX1_moveOn_71
abbrev rm_X1_believesAtEnd : Room := { frames := 6, cells := 0, slots := 0, locals := 152 }
set_option maxRecDepth 100000 in
set_option maxHeartbeats 8000000 in
theorem W_X1_believesAtEnd_L14 {p : Program} {e : Env} {s : State} {m : MethodId} {args : Array Value} {below : List Frame} {meth : Method} {c : Code} {A : Nat → Prop} (l : Launch) (D : va_G) (G : hG) (Z : hZ) (Y : va_W) (σ0 : hSt) (F : Nat) (r0 : Nat) (hr0 : isCo r0 = true) (r1 : Nat) (hr1 : isTa Z r1 = true) (res : (Int32 × hSt)) (C0 : Cx p s m args meth c cX1_believesAtEnd (some .boolean) RX1 3 D G A) (hA : ∀ q : Nat, s.heap.size ≤ q → A q) (k43 : hSt → Option (Int32 × hSt)) (hk43 : ∀ (σ1 : hSt), k43 σ1 = some res → ∀ (H : Heap) (locs : List Loc) (ls : Array Slot), va_P D vwCl (hW G Z Y σ1) H → va_D A (hW G Z Y σ1) → va_S A s.heap H locs → lv_has ls 3 [(0, .ref (G.2.1 r0)), (1, .ref (G.2.1 r1))] → W p l e rm_X1_believesAtEnd s m args below meth c H locs 0 0 (MQ below (Qg (some (.int res.1)) D (tysG G) (hW G Z Y res.2) A) args s 0 0 A) (F0 m 43 ls [])) : ∀ (n : Nat) (σ1 : hSt) (z2 : Int32), f_X1_believesAtEnd_L14 Z r0 k43 n σ1 z2 = some res → ∀ (H : Heap) (locs : List Loc) (ls : Array Slot), va_P D vwCl (hW G Z Y σ1) H → va_D A (hW G Z Y σ1) → va_S A s.heap H locs → lv_has ls 3 [(0, .ref (G.2.1 r0)), (1, .ref (G.2.1 r1)), (2, .int z2)] → W p l e rm_X1_believesAtEnd s m args below meth c H locs 0 0 (MQ below (Qg (some (.int res.1)) D (tysG G) (hW G Z Y res.2) A) args s 0 0 A) (F0 m 14 ls []) := by
  obtain ⟨hx, hb, hr, hml, hown, hts, hlocks, hK, hE⟩ := id C0
  intro n
  induction n with
  | zero =>
    intro σ1 z2 h
    cases h
  | succ n ih =>
    intro σ1 z2 h H locs ls hP hD hS hl
    rw [f_X1_believesAtEnd_L14] at h
    refine lv_iload_n hx hb dX1_believesAtEnd_14 rfl (lv_at hl 2 rfl) ?_
    refine lv_aload_n hx hb dX1_believesAtEnd_15 rfl (lv_at hl 0 rfl) ?_
    refine va_get (D := D) (ci := 2) (v := .ref (G.2.1 (r0 + 4))) (C := RX1) (T := TX1) (N := 15) hx hb hts inU_X1 hown hK hP _ (hg_Co G Z Y σ1 hr0) rfl 4 (by decide) (hts _ wd_162) (fun _ h9 => h9) rfl dX1_believesAtEnd_16 ?_
    refine va_alen (ty := .long) (v := (6 : Int32)) hx hb hK hP _ 1 (hg_Codr G Z Y σ1 hr0) rfl rfl dX1_believesAtEnd_19 ?_
    refine lv_icmp_ge (tgt := 43) hx hb dX1_believesAtEnd_20 (by decide) (fun c3 => ?_) (fun c3 => ?_)
    · skip
      have h := f_t c3 h
      exact hk43 σ1 h _ _ _ hP hD hS (lv_sub hl [0, 1] rfl)
    · skip
      have h := f_f c3 h
      refine lv_aload_n hx hb dX1_believesAtEnd_23 rfl (lv_at hl 0 rfl) ?_
      refine va_get (D := D) (ci := 2) (v := .ref (G.2.1 7)) (C := RX1) (T := TX1) (N := 15) hx hb hts inU_X1 hown hK hP _ (hg_Co G Z Y σ1 hr0) rfl 0 (by decide) (hts _ wd_158) (fun _ h9 => h9) rfl dX1_believesAtEnd_24 ?_
      refine lv_iload_n hx hb dX1_believesAtEnd_27 rfl (lv_at hl 2 rfl) ?_
      refine lv_aload_n hx hb dX1_believesAtEnd_28 rfl (lv_at hl 0 rfl) ?_
      refine va_get (D := D) (ci := 2) (v := .ref (G.2.1 (r0 + 4))) (C := RX1) (T := TX1) (N := 15) hx hb hts inU_X1 hown hK hP _ (hg_Co G Z Y σ1 hr0) rfl 4 (by decide) (hts _ wd_162) (fun _ h9 => h9) rfl dX1_believesAtEnd_29 ?_
      refine lv_iload_n hx hb dX1_believesAtEnd_32 rfl (lv_at hl 2 rfl) ?_
      obtain ⟨c4, h⟩ := f_n h
      refine va_laldE (v := (σ1.2.1 (r0 + 4) ((z2 : Int32).toNatClampNeg))) hx hb hK hP _ 1 (hg_Codr G Z Y σ1 hr0) rfl c4 dX1_believesAtEnd_33 rfl ?_
      obtain ⟨q5, hq5, h⟩ := f_b h
      refine cl_V (w := (hW G Z Y σ1)) (w' := (hW G Z Y q5.2)) (rv := none) (bytes := cX3_put) (maxL := 4) (ret := none) (C := RX3) (As := [.int z2, .long (σ1.2.1 (r0 + 4) ((z2 : Int32).toNatClampNeg))]) (rest := []) (stk := []) ⟨hx, hb, hml, hown, hts⟩ hK hE hA hP hD hS (c_X3_put l D G Z Y σ1 z2 (σ1.2.1 (r0 + 4) ((z2 : Int32).toNatClampNeg)) q5 hq5) (cwV 2 hts (gwV wd_861 wd_583 wd_584 wd_5 wd_585) rfl rfl rfl hd_X3_put ⟨Nat.le_of_ble_eq_true rfl, Nat.le_of_ble_eq_true rfl⟩) (hg_7 G Z Y σ1) rfl rfl rfl hl.1 rfl (Nat.le_of_ble_eq_true rfl) dX1_believesAtEnd_34 ⟨Nat.zero_le _, Nat.zero_le _⟩ rfl (fun H locs hP hD hS => ?_)
      refine lv_iinc (v := (z2 + 1)) (lv' := [(2, .int (z2 + 1)), (0, .ref (G.2.1 r0)), (1, .ref (G.2.1 r1))]) hx hb dX1_believesAtEnd_37 hl (k := 2) rfl rfl (by decide) rfl (fun ls hl => ?_)
      refine lv_goto (tgt := 14) hx hb dX1_believesAtEnd_40 (by decide) ?_
      exact ih q5.2 (z2 + 1) h _ _ _ hP hD hS (lv_sub hl [1, 2, 0] rfl)
set_option maxRecDepth 100000 in
set_option maxHeartbeats 8000000 in
theorem c_X1_believesAtEnd (l : Launch) (D : va_G) (G : hG) (Z : hZ) (Y : va_W) (σ0 : hSt) (F : Nat) (r0 : Nat) (hr0 : isCo r0 = true) (r1 : Nat) (hr1 : isTa Z r1 = true) (res : (Int32 × hSt)) (h : f_X1_believesAtEnd F Z σ0 r0 r1 = some res) : CT l yX1_believesAtEnd cX1_believesAtEnd 3 (some .boolean) rm_X1_believesAtEnd D G 0 0 [.ref (G.2.1 r0), .ref (G.2.1 r1)] (hW G Z Y σ0) (hW G Z Y res.2) (some (.int res.1)) := by
  unfold f_X1_believesAtEnd at h
  refine CT.mk (cc := cX1_believesAtEnd) (maxL := 3) (ret := (some .boolean)) (own := RX1) (plainFor_of_name (by decide)) rfl (Nat.le_of_ble_eq_true rfl) ?_
  intro p e s m args below meth c A ls C0 hnm hA hP hD hl
  obtain ⟨hx, hb, hr, hml, hown, hts, hlocks, hK, hE⟩ := id C0
  have hS : va_S A s.heap s.heap [] := va_S.rf
  have hl : lv_has ls 3 [(0, .ref (G.2.1 r0)), (1, .ref (G.2.1 r1))] := hl
  refine lv_aload_n hx hb dX1_believesAtEnd_0 rfl (lv_at hl 0 rfl) ?_
  refine va_get (D := D) (ci := 2) (v := .ref (G.2.1 12)) (C := RX1) (T := TX1) (N := 15) hx hb hts inU_X1 hown hK hP _ (hg_Co G Z Y σ0 hr0) rfl 1 (by decide) (hts _ wd_159) (fun _ h9 => h9) rfl dX1_believesAtEnd_1 ?_
  obtain ⟨q1, hq1, h⟩ := f_b h
  refine cl_V (w := (hW G Z Y σ0)) (w' := (hW G Z Y q1.2)) (rv := some (.int q1.1)) (bytes := cX0_asksAtEnd) (maxL := 1) (ret := (some .boolean)) (C := RX0) (As := []) (rest := []) (stk := [.int q1.1]) ⟨hx, hb, hml, hown, hts⟩ hK hE hA hP hD hS (c_X0_asksAtEnd l D G Z Y σ0 F q1 hq1) (cwV 0 hts (gwV wd_926 wd_927 wd_928 wd_6 wd_929) rfl rfl rfl hd_X0_asksAtEnd ⟨Nat.le_of_ble_eq_true rfl, Nat.le_of_ble_eq_true rfl⟩) (hg_12 G Z Y σ0) rfl rfl rfl hl.1 rfl (Nat.le_of_ble_eq_true rfl) dX1_believesAtEnd_4 ⟨Nat.zero_le _, Nat.zero_le _⟩ rfl (fun H locs hP hD hS => ?_)
  refine lv_if_ne (tgt := 12) hx hb dX1_believesAtEnd_7 (by decide) (fun c2 => ?_) (fun c2 => ?_)
  · skip
    have h := f_f c2 h
    refine lv_iconst (v := 0) hx hb dX1_believesAtEnd_12 (by decide) ?_
    refine lv_istore_n (lv' := [(2, .int (0 : Int32)), (0, .ref (G.2.1 r0)), (1, .ref (G.2.1 r1))]) hx hb dX1_believesAtEnd_13 rfl hl (by decide) rfl (fun ls hl => ?_)
    refine W_X1_believesAtEnd_L14 l D G Z Y σ0 F r0 hr0 r1 hr1 res C0 hA _ ?_ F q1.2 (0 : Int32) h _ _ _ hP hD hS (lv_sub hl [1, 2, 0] rfl)
    · intro σ1 h H locs ls hP hD hS hl
      refine lv_aload_n hx hb dX1_believesAtEnd_43 rfl (lv_at hl 0 rfl) ?_
      refine va_get (D := D) (ci := 2) (v := .ref (G.2.1 7)) (C := RX1) (T := TX1) (N := 15) hx hb hts inU_X1 hown hK hP _ (hg_Co G Z Y σ1 hr0) rfl 0 (by decide) (hts _ wd_158) (fun _ h9 => h9) rfl dX1_believesAtEnd_44 ?_
      refine lv_aload_n hx hb dX1_believesAtEnd_47 rfl (lv_at hl 1 rfl) ?_
      obtain ⟨qq6, hq6⟩ := hg_Ta G Z Y σ1 hr1
      refine va_getN (D := D) (ci := 7) (v := va_rf (((Z.2.2.2 r1 0)).map G.2.1)) (C := RX7) (T := TX7) (N := 4) hx hb hts inU_X7 hown hK hP _ hq6 rfl 0 (by decide) (nF_use 19 hE rfl) (fun _ h9 => h9) rfl dX1_believesAtEnd_48 ?_
      rcases f_o h with ⟨ho, h⟩ | ⟨r7, ho, h⟩
      · rw [ho]
        refine lv_aload_n hx hb dX1_believesAtEnd_51 rfl (lv_at hl 1 rfl) ?_
        obtain ⟨qq8, hq8⟩ := hg_Ta G Z Y σ1 hr1
        refine va_getN (D := D) (ci := 7) (v := .int (Z.2.2.1 r1 1)) (C := RX7) (T := TX7) (N := 4) hx hb hts inU_X7 hown hK hP _ hq8 rfl 1 (by decide) (nF_use 21 hE rfl) (fun _ h9 => h9) rfl dX1_believesAtEnd_52 ?_
        refine lv_i2l (v := ((Z.2.2.1 r1 1) : Int32).toInt64) hx hb dX1_believesAtEnd_55 rfl ?_
        cases h
      · rw [ho]
        obtain ⟨hr7, h⟩ := f_c h
        refine lv_aload_n hx hb dX1_believesAtEnd_51 rfl (lv_at hl 1 rfl) ?_
        obtain ⟨qq9, hq9⟩ := hg_Ta G Z Y σ1 hr1
        refine va_getN (D := D) (ci := 7) (v := .int (Z.2.2.1 r1 1)) (C := RX7) (T := TX7) (N := 4) hx hb hts inU_X7 hown hK hP _ hq9 rfl 1 (by decide) (nF_use 21 hE rfl) (fun _ h9 => h9) rfl dX1_believesAtEnd_52 ?_
        refine lv_i2l (v := ((Z.2.2.1 r1 1) : Int32).toInt64) hx hb dX1_believesAtEnd_55 rfl ?_
        obtain ⟨q10, hq10, h⟩ := f_b h
        refine cl_V (w := (hW G Z Y σ1)) (w' := (hW G Z Y q10.2)) (rv := some (.long q10.1)) (bytes := cX3_worthOf) (maxL := 15) (ret := (some .long)) (C := RX3) (As := [.ref (G.2.1 r7), .long ((Z.2.2.1 r1 1) : Int32).toInt64]) (rest := []) (stk := [.long q10.1]) ⟨hx, hb, hml, hown, hts⟩ hK hE hA hP hD hS (c_X3_worthOf l D G Z Y σ1 F r7 hr7 (((Z.2.2.1 r1 1) : Int32).toInt64) q10 hq10) (cwV 2 hts (gwV wd_930 wd_587 wd_588 wd_5 wd_589) rfl rfl rfl hd_X3_worthOf ⟨Nat.le_of_ble_eq_true rfl, Nat.le_of_ble_eq_true rfl⟩) (hg_7 G Z Y σ1) rfl rfl rfl hl.1 rfl (Nat.le_of_ble_eq_true rfl) dX1_believesAtEnd_56 ⟨Nat.zero_le _, Nat.zero_le _⟩ rfl (fun H locs hP hD hS => ?_)
        refine lv_aload_n hx hb dX1_believesAtEnd_59 rfl (lv_at hl 0 rfl) ?_
        refine va_get (D := D) (ci := 2) (v := .long (q10.2.2.1 r0 10)) (C := RX1) (T := TX1) (N := 15) hx hb hts inU_X1 hown hK hP _ (hg_Co G Z Y q10.2 hr0) rfl 10 (by decide) (hts _ wd_170) (fun _ h9 => h9) rfl dX1_believesAtEnd_60 ?_
        refine W.lcmp hx hb dX1_believesAtEnd_63 ?_
        refine lv_if_ne (tgt := 69) hx hb dX1_believesAtEnd_64 (by decide) (fun c11 => ?_) (fun c11 => ?_)
        · skip
          have c11 := mt (lg_cmp_eq _ _).mpr c11
          have h := f_f c11 h
          refine lv_aload_n hx hb dX1_believesAtEnd_69 rfl (lv_at hl 0 rfl) ?_
          refine lv_aload_n hx hb dX1_believesAtEnd_70 rfl (lv_at hl 1 rfl) ?_
          obtain ⟨qq12, hq12⟩ := hg_Ta G Z Y q10.2 hr1
          refine va_getN (D := D) (ci := 7) (v := va_rf (((Z.2.2.2 r1 0)).map G.2.1)) (C := RX7) (T := TX7) (N := 4) hx hb hts inU_X7 hown hK hP _ hq12 rfl 0 (by decide) (nF_use 19 hE rfl) (fun _ h9 => h9) rfl dX1_believesAtEnd_71 ?_
          rcases f_o h with ⟨ho, h⟩ | ⟨r13, ho, h⟩
          · rw [ho]
            cases h
          · rw [ho]
            obtain ⟨hr13, h⟩ := f_c h
            obtain ⟨qq14, hq14⟩ := hg_Sa G Z Y q10.2 hr13
            refine va_getN (D := D) (ci := 5) (v := .int (Z.2.2.1 r13 2)) (C := RX4) (T := TX4) (N := 5) hx hb hts inU_X4 hown hK hP _ hq14 rfl 2 (by decide) (nF_use 11 hE rfl) (fun _ h9 => h9) rfl dX1_believesAtEnd_74 ?_
            refine va_put (D := D) (ci := 2) (v := .int (Z.2.2.1 r13 2)) (ty := .int) (C := RX1) (T := TX1) (N := 15) hx hb hts inU_X1 tyX1 tyX1_ok nmX1 hown hK hP hD hS _ (hg_Co G Z Y q10.2 hr0) rfl 11 (by decide) (hts _ wd_172) (fun _ h9 => h9) rfl (by decide +kernel) rfl rfl (Nat.le_of_ble_eq_true rfl) dX1_believesAtEnd_77 (fun H locs hP hD hS => ?_)
            have hP := wrP (hp_Co_11 G Z Y q10.2 hr0 (Z.2.2.1 r13 2)) hP
            have hD := wrD (hp_Co_11 G Z Y q10.2 hr0 (Z.2.2.1 r13 2)) hD
            refine lv_iconst (v := 0) hx hb dX1_believesAtEnd_80 (by decide) ?_
            obtain rfl := Option.some.inj h
            exact W.zret (v := (0 : Int32)) hx hb hr rfl (q_end hK hP hD hS) hS.2.2 dX1_believesAtEnd_81
        · skip
          have c11 := (lg_cmp_eq _ _).mp c11
          have h := f_t c11 h
          refine lv_iconst (v := 1) hx hb dX1_believesAtEnd_67 (by decide) ?_
          obtain rfl := Option.some.inj h
          exact W.zret (v := (1 : Int32)) hx hb hr rfl (q_end hK hP hD hS) hS.2.2 dX1_believesAtEnd_68
  · skip
    have h := f_t c2 h
    refine lv_iconst (v := 1) hx hb dX1_believesAtEnd_10 (by decide) ?_
    obtain rfl := Option.some.inj h
    exact W.zret (v := (1 : Int32)) hx hb hr rfl (q_end hK hP hD hS) hS.2.2 dX1_believesAtEnd_11
abbrev rm_J7_fill_d0a16 : Room := { frames := 0, cells := 0, slots := 0, locals := 0 }
set_option maxRecDepth 100000 in
set_option maxHeartbeats 8000000 in
theorem W_J7_fill_d0a16_L6 {p : Program} {e : Env} {s : State} {m : MethodId} {args : Array Value} {below : List Frame} {meth : Method} {c : Code} {A : Nat → Prop} (l : Launch) (D : va_G) (G : hG) (Z : hZ) (Y : va_W) (σ0 : hSt) (F : Nat) (r0 : Nat) (hr0 : isJ r0 = true) (x1 : Int64) (y1 : Int64) (y4 : Int32) (res : (Unit × hSt)) (C0 : Cx p s m args meth c cJ7_fill_d0a16 none RJ7 5 D G A) (hA : ∀ q : Nat, s.heap.size ≤ q → A q) : ∀ (n : Nat) (σ1 : hSt) (z3 : Int32), f_J7_fill_d0a16_L6 r0 y1 y4 n σ1 z3 = some res → ∀ (H : Heap) (locs : List Loc) (ls : Array Slot), va_P D vwCl (hW G Z Y σ1) H → va_D A (hW G Z Y σ1) → va_S A s.heap H locs → lv_has ls 5 [(0, .ref (G.2.1 r0)), (1, .long y1), (3, .int z3), (4, .int y4)] → W p l e rm_J7_fill_d0a16 s m args below meth c H locs 0 0 (MQ below (Qg none D (tysG G) (hW G Z Y res.2) A) args s 0 0 A) (F0 m 6 ls []) := by
  obtain ⟨hx, hb, hr, hml, hown, hts, hlocks, hK, hE⟩ := id C0
  intro n
  induction n with
  | zero =>
    intro σ1 z3 h
    cases h
  | succ n ih =>
    intro σ1 z3 h H locs ls hP hD hS hl
    rw [f_J7_fill_d0a16_L6] at h
    refine lv_iload_n hx hb dJ7_fill_d0a16_6 rfl (lv_at hl 2 rfl) ?_
    refine lv_iload hx hb dJ7_fill_d0a16_7 (lv_at hl 3 rfl) ?_
    refine lv_icmp_ge (tgt := 22) hx hb dJ7_fill_d0a16_9 (by decide) (fun c1 => ?_) (fun c1 => ?_)
    · skip
      have h := f_t c1 h
      obtain rfl := Option.some.inj h
      exact W.vret hx hb hr (q_end hK hP hD hS) hS.2.2 dJ7_fill_d0a16_22
    · skip
      have h := f_f c1 h
      refine lv_aload_n hx hb dJ7_fill_d0a16_12 rfl (lv_at hl 0 rfl) ?_
      refine lv_iload_n hx hb dJ7_fill_d0a16_13 rfl (lv_at hl 2 rfl) ?_
      refine lv_lload_n hx hb dJ7_fill_d0a16_14 rfl (lv_at hl 1 rfl) ?_
      obtain ⟨c2, h⟩ := f_n h
      refine va_last hx hb hK hP hD hS _ 1 (hg_J G Z Y σ1 hr0) rfl c2 dJ7_fill_d0a16_15 (fun H locs hP hD hS => ?_)
      have hP := wrP (hp_J G Z Y σ1 hr0 _ _) hP
      have hD := wrD (hp_J G Z Y σ1 hr0 _ _) hD
      refine lv_iinc (v := (z3 + 1)) (lv' := [(3, .int (z3 + 1)), (0, .ref (G.2.1 r0)), (1, .long y1), (4, .int y4)]) hx hb dJ7_fill_d0a16_16 hl (k := 2) rfl rfl (by decide) rfl (fun ls hl => ?_)
      refine lv_goto (tgt := 6) hx hb dJ7_fill_d0a16_19 (by decide) ?_
      exact ih (sJ σ1 r0 ((z3 : Int32).toNatClampNeg) y1) (z3 + 1) h _ _ _ hP hD hS (lv_sub hl [1, 2, 0, 3] rfl)
set_option maxRecDepth 100000 in
set_option maxHeartbeats 8000000 in
theorem c_J7_fill_d0a16 (l : Launch) (D : va_G) (G : hG) (Z : hZ) (Y : va_W) (σ0 : hSt) (F : Nat) (r0 : Nat) (hr0 : isJ r0 = true) (x1 : Int64) (res : (Unit × hSt)) (h : f_J7_fill_d0a16 F Z σ0 r0 x1 = some res) : CT l yJ7_fill_d0a16 cJ7_fill_d0a16 5 none rm_J7_fill_d0a16 D G 0 0 [.ref (G.2.1 r0), .long x1] (hW G Z Y σ0) (hW G Z Y res.2) none := by
  unfold f_J7_fill_d0a16 at h
  refine CT.mk (cc := cJ7_fill_d0a16) (maxL := 5) (ret := none) (own := RJ7) (plainFor_of_name (by decide)) rfl (Nat.le_of_ble_eq_true rfl) ?_
  intro p e s m args below meth c A ls C0 hnm hA hP hD hl
  obtain ⟨hx, hb, hr, hml, hown, hts, hlocks, hK, hE⟩ := id C0
  have hS : va_S A s.heap s.heap [] := va_S.rf
  have hl : lv_has ls 5 [(0, .ref (G.2.1 r0)), (1, .long x1)] := hl
  refine lv_iconst (v := 0) hx hb dJ7_fill_d0a16_0 (by decide) ?_
  refine lv_istore_n (lv' := [(3, .int (0 : Int32)), (0, .ref (G.2.1 r0)), (1, .long x1)]) hx hb dJ7_fill_d0a16_1 rfl hl (by decide) rfl (fun ls hl => ?_)
  refine lv_aload_n hx hb dJ7_fill_d0a16_2 rfl (lv_at hl 1 rfl) ?_
  refine va_alen (ty := .long) (v := (Int32.ofNat (jlen r0))) hx hb hK hP _ 1 (hg_J G Z Y σ0 hr0) rfl rfl dJ7_fill_d0a16_3 ?_
  refine lv_istore (lv' := [(4, .int (Int32.ofNat (jlen r0))), (3, .int (0 : Int32)), (0, .ref (G.2.1 r0)), (1, .long x1)]) hx hb dJ7_fill_d0a16_4 hl (by decide) rfl (fun ls hl => ?_)
  refine W_J7_fill_d0a16_L6 l D G Z Y σ0 F r0 hr0 x1 x1 (Int32.ofNat (jlen r0)) res C0 hA F σ0 (0 : Int32) h _ _ _ hP hD hS (lv_sub hl [2, 3, 1, 0] rfl)
abbrev rm_X1_open : Room := { frames := 5, cells := 0, slots := 0, locals := 132 }
set_option maxRecDepth 100000 in
set_option maxHeartbeats 8000000 in
theorem c_X1_open (l : Launch) (D : va_G) (G : hG) (Z : hZ) (Y : va_W) (σ0 : hSt) (F : Nat) (r0 : Nat) (hr0 : isCo r0 = true) (r1 : Nat) (hr1 : isTa Z r1 = true) (x2 : Int32) (res : (Unit × hSt)) (h : f_X1_open F Z σ0 r0 r1 x2 = some res) : CT l yX1_open cX1_open 5 none rm_X1_open D G 0 0 [.ref (G.2.1 r0), .ref (G.2.1 r1), .int x2] (hW G Z Y σ0) (hW G Z Y res.2) none := by
  unfold f_X1_open at h
  refine CT.mk (cc := cX1_open) (maxL := 5) (ret := none) (own := RX1) (plainFor_of_name (by decide)) rfl (Nat.le_of_ble_eq_true rfl) ?_
  intro p e s m args below meth c A ls C0 hnm hA hP hD hl
  obtain ⟨hx, hb, hr, hml, hown, hts, hlocks, hK, hE⟩ := id C0
  have hS : va_S A s.heap s.heap [] := va_S.rf
  have hl : lv_has ls 5 [(0, .ref (G.2.1 r0)), (1, .ref (G.2.1 r1)), (2, .int x2)] := hl
  refine lv_aload_n hx hb dX1_open_0 rfl (lv_at hl 0 rfl) ?_
  refine va_get (D := D) (ci := 2) (v := .ref (G.2.1 12)) (C := RX1) (T := TX1) (N := 15) hx hb hts inU_X1 hown hK hP _ (hg_Co G Z Y σ0 hr0) rfl 1 (by decide) (hts _ wd_159) (fun _ h9 => h9) rfl dX1_open_1 ?_
  refine lv_aload_n hx hb dX1_open_4 rfl (lv_at hl 1 rfl) ?_
  obtain ⟨qq1, hq1⟩ := hg_Ta G Z Y σ0 hr1
  refine va_getN (D := D) (ci := 7) (v := va_rf (((Z.2.2.2 r1 0)).map G.2.1)) (C := RX7) (T := TX7) (N := 4) hx hb hts inU_X7 hown hK hP _ hq1 rfl 0 (by decide) (nF_use 19 hE rfl) (fun _ h9 => h9) rfl dX1_open_5 ?_
  rcases f_o h with ⟨ho, h⟩ | ⟨r2, ho, h⟩
  · rw [ho]
    refine lv_aload_n hx hb dX1_open_8 rfl (lv_at hl 1 rfl) ?_
    obtain ⟨qq3, hq3⟩ := hg_Ta G Z Y σ0 hr1
    refine va_getN (D := D) (ci := 7) (v := va_rf (((Z.2.2.2 r1 2)).map G.2.1)) (C := RX7) (T := TX7) (N := 4) hx hb hts inU_X7 hown hK hP _ hq3 rfl 2 (by decide) (nF_use 23 hE rfl) (fun _ h9 => h9) rfl dX1_open_9 ?_
    rcases f_o h with ⟨ho, h⟩ | ⟨r4, ho, h⟩
    · rw [ho]
      refine lv_aload_n hx hb dX1_open_12 rfl (lv_at hl 1 rfl) ?_
      obtain ⟨qq5, hq5⟩ := hg_Ta G Z Y σ0 hr1
      refine va_getN (D := D) (ci := 7) (v := .int (Z.2.2.1 r1 1)) (C := RX7) (T := TX7) (N := 4) hx hb hts inU_X7 hown hK hP _ hq5 rfl 1 (by decide) (nF_use 21 hE rfl) (fun _ h9 => h9) rfl dX1_open_13 ?_
      cases h
    · rw [ho]
      obtain ⟨hr4, h⟩ := f_c h
      refine lv_aload_n hx hb dX1_open_12 rfl (lv_at hl 1 rfl) ?_
      obtain ⟨qq6, hq6⟩ := hg_Ta G Z Y σ0 hr1
      refine va_getN (D := D) (ci := 7) (v := .int (Z.2.2.1 r1 1)) (C := RX7) (T := TX7) (N := 4) hx hb hts inU_X7 hown hK hP _ hq6 rfl 1 (by decide) (nF_use 21 hE rfl) (fun _ h9 => h9) rfl dX1_open_13 ?_
      cases h
  · rw [ho]
    obtain ⟨hr2, h⟩ := f_c h
    refine lv_aload_n hx hb dX1_open_8 rfl (lv_at hl 1 rfl) ?_
    obtain ⟨qq7, hq7⟩ := hg_Ta G Z Y σ0 hr1
    refine va_getN (D := D) (ci := 7) (v := va_rf (((Z.2.2.2 r1 2)).map G.2.1)) (C := RX7) (T := TX7) (N := 4) hx hb hts inU_X7 hown hK hP _ hq7 rfl 2 (by decide) (nF_use 23 hE rfl) (fun _ h9 => h9) rfl dX1_open_9 ?_
    rcases f_o h with ⟨ho, h⟩ | ⟨r8, ho, h⟩
    · rw [ho]
      refine lv_aload_n hx hb dX1_open_12 rfl (lv_at hl 1 rfl) ?_
      obtain ⟨qq9, hq9⟩ := hg_Ta G Z Y σ0 hr1
      refine va_getN (D := D) (ci := 7) (v := .int (Z.2.2.1 r1 1)) (C := RX7) (T := TX7) (N := 4) hx hb hts inU_X7 hown hK hP _ hq9 rfl 1 (by decide) (nF_use 21 hE rfl) (fun _ h9 => h9) rfl dX1_open_13 ?_
      cases h
    · rw [ho]
      obtain ⟨hr8, h⟩ := f_c h
      refine lv_aload_n hx hb dX1_open_12 rfl (lv_at hl 1 rfl) ?_
      obtain ⟨qq10, hq10⟩ := hg_Ta G Z Y σ0 hr1
      refine va_getN (D := D) (ci := 7) (v := .int (Z.2.2.1 r1 1)) (C := RX7) (T := TX7) (N := 4) hx hb hts inU_X7 hown hK hP _ hq10 rfl 1 (by decide) (nF_use 21 hE rfl) (fun _ h9 => h9) rfl dX1_open_13 ?_
      obtain ⟨q11, hq11, h⟩ := f_b h
      refine cl_V (w := (hW G Z Y σ0)) (w' := (hW G Z Y q11.2)) (rv := none) (bytes := cX0_sit) (maxL := 4) (ret := none) (C := RX0) (As := [.ref (G.2.1 r2), .ref (G.2.1 r8), .int (Z.2.2.1 r1 1)]) (rest := []) (stk := []) ⟨hx, hb, hml, hown, hts⟩ hK hE hA hP hD hS (c_X0_sit l D G Z Y σ0 r2 hr2 r8 hr8 (Z.2.2.1 r1 1) q11 hq11) (cwV 3 hts (gwV wd_819 wd_820 wd_821 wd_6 wd_822) rfl rfl rfl hd_X0_sit ⟨Nat.le_of_ble_eq_true rfl, Nat.le_of_ble_eq_true rfl⟩) (hg_12 G Z Y σ0) rfl rfl rfl hl.1 rfl (Nat.le_of_ble_eq_true rfl) dX1_open_16 ⟨Nat.zero_le _, Nat.zero_le _⟩ rfl (fun H locs hP hD hS => ?_)
      refine lv_aload_n hx hb dX1_open_19 rfl (lv_at hl 0 rfl) ?_
      refine lv_aload_n hx hb dX1_open_20 rfl (lv_at hl 1 rfl) ?_
      refine va_put (D := D) (ci := 2) (v := .ref (G.2.1 r1)) (ty := (.object "LiarHall$Talk")) (C := RX1) (T := TX1) (N := 15) hx hb hts inU_X1 tyX1 tyX1_ok nmX1 hown hK hP hD hS _ (hg_Co G Z Y q11.2 hr0) rfl 8 (by decide) (hts _ wd_166) (fun _ h9 => h9) rfl (by decide +kernel) rfl rfl (Nat.le_of_ble_eq_true rfl) dX1_open_21 (fun H locs hP hD hS => ?_)
      have hP := wrP (hp_Co_8 G Z Y q11.2 hr0 (some r1)) hP
      have hD := wrD (hp_Co_8 G Z Y q11.2 hr0 (some r1)) hD
      refine lv_aload_n hx hb dX1_open_24 rfl (lv_at hl 0 rfl) ?_
      refine lv_iconst (v := (-1)) hx hb dX1_open_25 (by decide) ?_
      refine va_put (D := D) (ci := 2) (v := .int (-1 : Int32)) (ty := .int) (C := RX1) (T := TX1) (N := 15) hx hb hts inU_X1 tyX1 tyX1_ok nmX1 hown hK hP hD hS _ (hg_Co G Z Y (sR q11.2 r0 8 (some r1)) hr0) rfl 11 (by decide) (hts _ wd_172) (fun _ h9 => h9) rfl (by decide +kernel) rfl rfl (Nat.le_of_ble_eq_true rfl) dX1_open_26 (fun H locs hP hD hS => ?_)
      have hP := wrP (hp_Co_11 G Z Y (sR q11.2 r0 8 (some r1)) hr0 (-1 : Int32)) hP
      have hD := wrD (hp_Co_11 G Z Y (sR q11.2 r0 8 (some r1)) hr0 (-1 : Int32)) hD
      refine lv_aload_n hx hb dX1_open_29 rfl (lv_at hl 0 rfl) ?_
      refine lv_iconst (v := 0) hx hb dX1_open_30 (by decide) ?_
      refine va_put (D := D) (ci := 2) (v := .int (0 : Int32)) (ty := .int) (C := RX1) (T := TX1) (N := 15) hx hb hts inU_X1 tyX1 tyX1_ok nmX1 hown hK hP hD hS _ (hg_Co G Z Y (sI (sR q11.2 r0 8 (some r1)) r0 11 (-1 : Int32)) hr0) rfl 12 (by decide) (hts _ wd_174) (fun _ h9 => h9) rfl (by decide +kernel) rfl rfl (Nat.le_of_ble_eq_true rfl) dX1_open_31 (fun H locs hP hD hS => ?_)
      have hP := wrP (hp_Co_12 G Z Y (sI (sR q11.2 r0 8 (some r1)) r0 11 (-1 : Int32)) hr0 (0 : Int32)) hP
      have hD := wrD (hp_Co_12 G Z Y (sI (sR q11.2 r0 8 (some r1)) r0 11 (-1 : Int32)) hr0 (0 : Int32)) hD
      refine lv_aload_n hx hb dX1_open_34 rfl (lv_at hl 0 rfl) ?_
      refine lv_iconst (v := 0) hx hb dX1_open_35 (by decide) ?_
      refine va_put (D := D) (ci := 2) (v := .int (0 : Int32)) (ty := .int) (C := RX1) (T := TX1) (N := 15) hx hb hts inU_X1 tyX1 tyX1_ok nmX1 hown hK hP hD hS _ (hg_Co G Z Y (sI (sI (sR q11.2 r0 8 (some r1)) r0 11 (-1 : Int32)) r0 12 (0 : Int32)) hr0) rfl 13 (by decide) (hts _ wd_176) (fun _ h9 => h9) rfl (by decide +kernel) rfl rfl (Nat.le_of_ble_eq_true rfl) dX1_open_36 (fun H locs hP hD hS => ?_)
      have hP := wrP (hp_Co_13 G Z Y (sI (sI (sR q11.2 r0 8 (some r1)) r0 11 (-1 : Int32)) r0 12 (0 : Int32)) hr0 (0 : Int32)) hP
      have hD := wrD (hp_Co_13 G Z Y (sI (sI (sR q11.2 r0 8 (some r1)) r0 11 (-1 : Int32)) r0 12 (0 : Int32)) hr0 (0 : Int32)) hD
      refine lv_aload_n hx hb dX1_open_39 rfl (lv_at hl 0 rfl) ?_
      refine va_get (D := D) (ci := 2) (v := .ref (G.2.1 (r0 + 2))) (C := RX1) (T := TX1) (N := 15) hx hb hts inU_X1 hown hK hP _ (hg_Co G Z Y (sI (sI (sI (sR q11.2 r0 8 (some r1)) r0 11 (-1 : Int32)) r0 12 (0 : Int32)) r0 13 (0 : Int32)) hr0) rfl 2 (by decide) (hts _ wd_160) (fun _ h9 => h9) rfl dX1_open_40 ?_
      refine lv_lconst (v := 0) hx hb dX1_open_43 (by decide) ?_
      obtain ⟨q12, hq12, h⟩ := f_b h
      refine cl_S (w := (hW G Z Y (sI (sI (sI (sR q11.2 r0 8 (some r1)) r0 11 (-1 : Int32)) r0 12 (0 : Int32)) r0 13 (0 : Int32)))) (w' := (hW G Z Y q12.2)) (rv := none) (bytes := cJ7_fill_d0a16) (maxL := 5) (ret := none) (As := [.ref (G.2.1 (r0 + 2)), .long (0 : Int64)]) (rest := []) (stk := []) ⟨hx, hb, hml, hown, hts⟩ hK hE hA hP hD hS (c_J7_fill_d0a16 l D G Z Y (sI (sI (sI (sR q11.2 r0 8 (some r1)) r0 11 (-1 : Int32)) r0 12 (0 : Int32)) r0 13 (0 : Int32)) F (r0 + 2) (isJ_Cole hr0) (0 : Int64) q12 hq12) (mkS hts wd_823 wd_824 wd_19 wd_825 rfl rfl hd_J7_fill_d0a16 ⟨Nat.le_of_ble_eq_true rfl, Nat.le_of_ble_eq_true rfl⟩) rfl hl.1 rfl (Nat.le_of_ble_eq_true rfl) dX1_open_44 ⟨Nat.zero_le _, Nat.zero_le _⟩ rfl (fun H locs hP hD hS => ?_)
      refine lv_aload_n hx hb dX1_open_47 rfl (lv_at hl 1 rfl) ?_
      obtain ⟨qq13, hq13⟩ := hg_Ta G Z Y q12.2 hr1
      refine va_getN (D := D) (ci := 7) (v := va_rf (((Z.2.2.2 r1 0)).map G.2.1)) (C := RX7) (T := TX7) (N := 4) hx hb hts inU_X7 hown hK hP _ hq13 rfl 0 (by decide) (nF_use 19 hE rfl) (fun _ h9 => h9) rfl dX1_open_48 ?_
      rcases f_o h with ⟨ho, h⟩ | ⟨r14, ho, h⟩
      · rw [ho]
        cases h
      · rw [ho]
        obtain ⟨hr14, h⟩ := f_c h
        obtain ⟨qq15, hq15⟩ := hg_Sa G Z Y q12.2 hr14
        refine va_getN (D := D) (ci := 5) (v := .int (Z.2.2.1 r14 4)) (C := RX4) (T := TX4) (N := 5) hx hb hts inU_X4 hown hK hP _ hq15 rfl 4 (by decide) (nF_use 16 hE rfl) (fun _ h9 => h9) rfl dX1_open_51 ?_
        refine lv_i2l (v := ((Z.2.2.1 r14 4) : Int32).toInt64) hx hb dX1_open_54 rfl ?_
        refine lv_aload_n hx hb dX1_open_55 rfl (lv_at hl 1 rfl) ?_
        obtain ⟨qq16, hq16⟩ := hg_Ta G Z Y q12.2 hr1
        refine va_getN (D := D) (ci := 7) (v := .int (Z.2.2.1 r1 1)) (C := RX7) (T := TX7) (N := 4) hx hb hts inU_X7 hown hK hP _ hq16 rfl 1 (by decide) (nF_use 21 hE rfl) (fun _ h9 => h9) rfl dX1_open_56 ?_
        refine lv_i2l (v := ((Z.2.2.1 r1 1) : Int32).toInt64) hx hb dX1_open_59 rfl ?_
        obtain ⟨q17, hq17, h⟩ := f_b h
        refine cl_S (w := (hW G Z Y q12.2)) (w' := (hW G Z Y q12.2)) (rv := some (.long q17)) (bytes := cX3_rest) (maxL := 4) (ret := (some .long)) (As := [.long ((Z.2.2.1 r14 4) : Int32).toInt64, .long ((Z.2.2.1 r1 1) : Int32).toInt64]) (rest := []) (stk := [.long q17]) ⟨hx, hb, hml, hown, hts⟩ hK hE hA hP hD hS (c_X3_rest l D G (hW G Z Y q12.2) (((Z.2.2.1 r14 4) : Int32).toInt64) (((Z.2.2.1 r1 1) : Int32).toInt64) q17 hq17) (mkS hts wd_826 wd_708 wd_5 wd_709 rfl rfl hd_X3_rest ⟨Nat.le_of_ble_eq_true rfl, Nat.le_of_ble_eq_true rfl⟩) rfl hl.1 rfl (Nat.le_of_ble_eq_true rfl) dX1_open_60 ⟨Nat.zero_le _, Nat.zero_le _⟩ rfl (fun H locs hP hD hS => ?_)
        refine lv_lstore_n (lv' := [(3, .long q17), (0, .ref (G.2.1 r0)), (1, .ref (G.2.1 r1)), (2, .int x2)]) hx hb dX1_open_63 rfl hl (by decide) rfl (fun ls hl => ?_)
        refine lv_aload_n hx hb dX1_open_64 rfl (lv_at hl 1 rfl) ?_
        refine va_get (D := D) (ci := 2) (v := .ref (G.2.1 (r0 + 2))) (C := RX1) (T := TX1) (N := 15) hx hb hts inU_X1 hown hK hP _ (hg_Co G Z Y q12.2 hr0) rfl 2 (by decide) (hts _ wd_160) (fun _ h9 => h9) rfl dX1_open_65 ?_
        refine lv_iconst (v := 0) hx hb dX1_open_68 (by decide) ?_
        refine lv_lload_n hx hb dX1_open_69 rfl (lv_at hl 0 rfl) ?_
        obtain ⟨c18, h⟩ := f_n h
        refine va_last hx hb hK hP hD hS _ 1 (hg_Cole G Z Y q12.2 hr0) rfl c18 dX1_open_70 (fun H locs hP hD hS => ?_)
        have hP := wrP (hp_Cole G Z Y q12.2 hr0 _ _) hP
        have hD := wrD (hp_Cole G Z Y q12.2 hr0 _ _) hD
        refine lv_aload_n hx hb dX1_open_71 rfl (lv_at hl 1 rfl) ?_
        refine va_get (D := D) (ci := 2) (v := .ref (G.2.1 (r0 + 2))) (C := RX1) (T := TX1) (N := 15) hx hb hts inU_X1 hown hK hP _ (hg_Co G Z Y (sJ q12.2 (r0 + 2) (((0 : Int32) : Int32).toNatClampNeg) q17) hr0) rfl 2 (by decide) (hts _ wd_160) (fun _ h9 => h9) rfl dX1_open_72 ?_
        refine lv_iconst (v := 1) hx hb dX1_open_75 (by decide) ?_
        refine lv_lload_n hx hb dX1_open_76 rfl (lv_at hl 0 rfl) ?_
        obtain ⟨c19, h⟩ := f_n h
        refine va_last hx hb hK hP hD hS _ 1 (hg_Cole G Z Y (sJ q12.2 (r0 + 2) (((0 : Int32) : Int32).toNatClampNeg) q17) hr0) rfl c19 dX1_open_77 (fun H locs hP hD hS => ?_)
        have hP := wrP (hp_Cole G Z Y (sJ q12.2 (r0 + 2) (((0 : Int32) : Int32).toNatClampNeg) q17) hr0 _ _) hP
        have hD := wrD (hp_Cole G Z Y (sJ q12.2 (r0 + 2) (((0 : Int32) : Int32).toNatClampNeg) q17) hr0 _ _) hD
        refine lv_aload_n hx hb dX1_open_78 rfl (lv_at hl 1 rfl) ?_
        refine va_get (D := D) (ci := 2) (v := .ref (G.2.1 (r0 + 2))) (C := RX1) (T := TX1) (N := 15) hx hb hts inU_X1 hown hK hP _ (hg_Co G Z Y (sJ (sJ q12.2 (r0 + 2) (((0 : Int32) : Int32).toNatClampNeg) q17) (r0 + 2) (((1 : Int32) : Int32).toNatClampNeg) q17) hr0) rfl 2 (by decide) (hts _ wd_160) (fun _ h9 => h9) rfl dX1_open_79 ?_
        refine lv_iconst (v := 2) hx hb dX1_open_82 (by decide) ?_
        refine lv_lload_n hx hb dX1_open_83 rfl (lv_at hl 0 rfl) ?_
        obtain ⟨c20, h⟩ := f_n h
        refine va_last hx hb hK hP hD hS _ 1 (hg_Cole G Z Y (sJ (sJ q12.2 (r0 + 2) (((0 : Int32) : Int32).toNatClampNeg) q17) (r0 + 2) (((1 : Int32) : Int32).toNatClampNeg) q17) hr0) rfl c20 dX1_open_84 (fun H locs hP hD hS => ?_)
        have hP := wrP (hp_Cole G Z Y (sJ (sJ q12.2 (r0 + 2) (((0 : Int32) : Int32).toNatClampNeg) q17) (r0 + 2) (((1 : Int32) : Int32).toNatClampNeg) q17) hr0 _ _) hP
        have hD := wrD (hp_Cole G Z Y (sJ (sJ q12.2 (r0 + 2) (((0 : Int32) : Int32).toNatClampNeg) q17) (r0 + 2) (((1 : Int32) : Int32).toNatClampNeg) q17) hr0 _ _) hD
        refine lv_aload_n hx hb dX1_open_85 rfl (lv_at hl 1 rfl) ?_
        refine va_get (D := D) (ci := 2) (v := .ref (G.2.1 (r0 + 2))) (C := RX1) (T := TX1) (N := 15) hx hb hts inU_X1 hown hK hP _ (hg_Co G Z Y (sJ (sJ (sJ q12.2 (r0 + 2) (((0 : Int32) : Int32).toNatClampNeg) q17) (r0 + 2) (((1 : Int32) : Int32).toNatClampNeg) q17) (r0 + 2) (((2 : Int32) : Int32).toNatClampNeg) q17) hr0) rfl 2 (by decide) (hts _ wd_160) (fun _ h9 => h9) rfl dX1_open_86 ?_
        refine lv_bipush (v := 6) hx hb dX1_open_89 (by decide) ?_
        refine lv_aload_n hx hb dX1_open_91 rfl (lv_at hl 2 rfl) ?_
        obtain ⟨qq21, hq21⟩ := hg_Ta G Z Y (sJ (sJ (sJ q12.2 (r0 + 2) (((0 : Int32) : Int32).toNatClampNeg) q17) (r0 + 2) (((1 : Int32) : Int32).toNatClampNeg) q17) (r0 + 2) (((2 : Int32) : Int32).toNatClampNeg) q17) hr1
        refine va_getN (D := D) (ci := 7) (v := va_rf (((Z.2.2.2 r1 0)).map G.2.1)) (C := RX7) (T := TX7) (N := 4) hx hb hts inU_X7 hown hK hP _ hq21 rfl 0 (by decide) (nF_use 19 hE rfl) (fun _ h9 => h9) rfl dX1_open_92 ?_
        rcases f_o h with ⟨ho, h⟩ | ⟨r22, ho, h⟩
        · rw [ho]
          cases h
        · rw [ho]
          obtain ⟨hr22, h⟩ := f_c h
          obtain ⟨qq23, hq23⟩ := hg_Sa G Z Y (sJ (sJ (sJ q12.2 (r0 + 2) (((0 : Int32) : Int32).toNatClampNeg) q17) (r0 + 2) (((1 : Int32) : Int32).toNatClampNeg) q17) (r0 + 2) (((2 : Int32) : Int32).toNatClampNeg) q17) hr22
          refine va_getN (D := D) (ci := 5) (v := .int (Z.2.2.1 r22 2)) (C := RX4) (T := TX4) (N := 5) hx hb hts inU_X4 hown hK hP _ hq23 rfl 2 (by decide) (nF_use 11 hE rfl) (fun _ h9 => h9) rfl dX1_open_95 ?_
          refine lv_i2l (v := ((Z.2.2.1 r22 2) : Int32).toInt64) hx hb dX1_open_98 rfl ?_
          obtain ⟨c24, h⟩ := f_n h
          refine va_last hx hb hK hP hD hS _ 1 (hg_Cole G Z Y (sJ (sJ (sJ q12.2 (r0 + 2) (((0 : Int32) : Int32).toNatClampNeg) q17) (r0 + 2) (((1 : Int32) : Int32).toNatClampNeg) q17) (r0 + 2) (((2 : Int32) : Int32).toNatClampNeg) q17) hr0) rfl c24 dX1_open_99 (fun H locs hP hD hS => ?_)
          have hP := wrP (hp_Cole G Z Y (sJ (sJ (sJ q12.2 (r0 + 2) (((0 : Int32) : Int32).toNatClampNeg) q17) (r0 + 2) (((1 : Int32) : Int32).toNatClampNeg) q17) (r0 + 2) (((2 : Int32) : Int32).toNatClampNeg) q17) hr0 _ _) hP
          have hD := wrD (hp_Cole G Z Y (sJ (sJ (sJ q12.2 (r0 + 2) (((0 : Int32) : Int32).toNatClampNeg) q17) (r0 + 2) (((1 : Int32) : Int32).toNatClampNeg) q17) (r0 + 2) (((2 : Int32) : Int32).toNatClampNeg) q17) hr0 _ _) hD
          refine lv_aload_n hx hb dX1_open_100 rfl (lv_at hl 1 rfl) ?_
          refine va_get (D := D) (ci := 2) (v := .ref (G.2.1 (r0 + 2))) (C := RX1) (T := TX1) (N := 15) hx hb hts inU_X1 hown hK hP _ (hg_Co G Z Y (sJ (sJ (sJ (sJ q12.2 (r0 + 2) (((0 : Int32) : Int32).toNatClampNeg) q17) (r0 + 2) (((1 : Int32) : Int32).toNatClampNeg) q17) (r0 + 2) (((2 : Int32) : Int32).toNatClampNeg) q17) (r0 + 2) (((6 : Int32) : Int32).toNatClampNeg) (((Z.2.2.1 r22 2) : Int32).toInt64)) hr0) rfl 2 (by decide) (hts _ wd_160) (fun _ h9 => h9) rfl dX1_open_101 ?_
          refine lv_bipush (v := 7) hx hb dX1_open_104 (by decide) ?_
          refine lv_aload_n hx hb dX1_open_106 rfl (lv_at hl 2 rfl) ?_
          obtain ⟨qq25, hq25⟩ := hg_Ta G Z Y (sJ (sJ (sJ (sJ q12.2 (r0 + 2) (((0 : Int32) : Int32).toNatClampNeg) q17) (r0 + 2) (((1 : Int32) : Int32).toNatClampNeg) q17) (r0 + 2) (((2 : Int32) : Int32).toNatClampNeg) q17) (r0 + 2) (((6 : Int32) : Int32).toNatClampNeg) (((Z.2.2.1 r22 2) : Int32).toInt64)) hr1
          refine va_getN (D := D) (ci := 7) (v := .int (Z.2.2.1 r1 1)) (C := RX7) (T := TX7) (N := 4) hx hb hts inU_X7 hown hK hP _ hq25 rfl 1 (by decide) (nF_use 21 hE rfl) (fun _ h9 => h9) rfl dX1_open_107 ?_
          refine lv_i2l (v := ((Z.2.2.1 r1 1) : Int32).toInt64) hx hb dX1_open_110 rfl ?_
          obtain ⟨c26, h⟩ := f_n h
          refine va_last hx hb hK hP hD hS _ 1 (hg_Cole G Z Y (sJ (sJ (sJ (sJ q12.2 (r0 + 2) (((0 : Int32) : Int32).toNatClampNeg) q17) (r0 + 2) (((1 : Int32) : Int32).toNatClampNeg) q17) (r0 + 2) (((2 : Int32) : Int32).toNatClampNeg) q17) (r0 + 2) (((6 : Int32) : Int32).toNatClampNeg) (((Z.2.2.1 r22 2) : Int32).toInt64)) hr0) rfl c26 dX1_open_111 (fun H locs hP hD hS => ?_)
          have hP := wrP (hp_Cole G Z Y (sJ (sJ (sJ (sJ q12.2 (r0 + 2) (((0 : Int32) : Int32).toNatClampNeg) q17) (r0 + 2) (((1 : Int32) : Int32).toNatClampNeg) q17) (r0 + 2) (((2 : Int32) : Int32).toNatClampNeg) q17) (r0 + 2) (((6 : Int32) : Int32).toNatClampNeg) (((Z.2.2.1 r22 2) : Int32).toInt64)) hr0 _ _) hP
          have hD := wrD (hp_Cole G Z Y (sJ (sJ (sJ (sJ q12.2 (r0 + 2) (((0 : Int32) : Int32).toNatClampNeg) q17) (r0 + 2) (((1 : Int32) : Int32).toNatClampNeg) q17) (r0 + 2) (((2 : Int32) : Int32).toNatClampNeg) q17) (r0 + 2) (((6 : Int32) : Int32).toNatClampNeg) (((Z.2.2.1 r22 2) : Int32).toInt64)) hr0 _ _) hD
          refine lv_aload_n hx hb dX1_open_112 rfl (lv_at hl 1 rfl) ?_
          refine va_get (D := D) (ci := 2) (v := .ref (G.2.1 (r0 + 2))) (C := RX1) (T := TX1) (N := 15) hx hb hts inU_X1 hown hK hP _ (hg_Co G Z Y (sJ (sJ (sJ (sJ (sJ q12.2 (r0 + 2) (((0 : Int32) : Int32).toNatClampNeg) q17) (r0 + 2) (((1 : Int32) : Int32).toNatClampNeg) q17) (r0 + 2) (((2 : Int32) : Int32).toNatClampNeg) q17) (r0 + 2) (((6 : Int32) : Int32).toNatClampNeg) (((Z.2.2.1 r22 2) : Int32).toInt64)) (r0 + 2) (((7 : Int32) : Int32).toNatClampNeg) (((Z.2.2.1 r1 1) : Int32).toInt64)) hr0) rfl 2 (by decide) (hts _ wd_160) (fun _ h9 => h9) rfl dX1_open_113 ?_
          refine lv_bipush (v := 8) hx hb dX1_open_116 (by decide) ?_
          refine lv_iload_n hx hb dX1_open_118 rfl (lv_at hl 3 rfl) ?_
          refine lv_i2l (v := (x2 : Int32).toInt64) hx hb dX1_open_119 rfl ?_
          obtain ⟨c27, h⟩ := f_n h
          refine va_last hx hb hK hP hD hS _ 1 (hg_Cole G Z Y (sJ (sJ (sJ (sJ (sJ q12.2 (r0 + 2) (((0 : Int32) : Int32).toNatClampNeg) q17) (r0 + 2) (((1 : Int32) : Int32).toNatClampNeg) q17) (r0 + 2) (((2 : Int32) : Int32).toNatClampNeg) q17) (r0 + 2) (((6 : Int32) : Int32).toNatClampNeg) (((Z.2.2.1 r22 2) : Int32).toInt64)) (r0 + 2) (((7 : Int32) : Int32).toNatClampNeg) (((Z.2.2.1 r1 1) : Int32).toInt64)) hr0) rfl c27 dX1_open_120 (fun H locs hP hD hS => ?_)
          have hP := wrP (hp_Cole G Z Y (sJ (sJ (sJ (sJ (sJ q12.2 (r0 + 2) (((0 : Int32) : Int32).toNatClampNeg) q17) (r0 + 2) (((1 : Int32) : Int32).toNatClampNeg) q17) (r0 + 2) (((2 : Int32) : Int32).toNatClampNeg) q17) (r0 + 2) (((6 : Int32) : Int32).toNatClampNeg) (((Z.2.2.1 r22 2) : Int32).toInt64)) (r0 + 2) (((7 : Int32) : Int32).toNatClampNeg) (((Z.2.2.1 r1 1) : Int32).toInt64)) hr0 _ _) hP
          have hD := wrD (hp_Cole G Z Y (sJ (sJ (sJ (sJ (sJ q12.2 (r0 + 2) (((0 : Int32) : Int32).toNatClampNeg) q17) (r0 + 2) (((1 : Int32) : Int32).toNatClampNeg) q17) (r0 + 2) (((2 : Int32) : Int32).toNatClampNeg) q17) (r0 + 2) (((6 : Int32) : Int32).toNatClampNeg) (((Z.2.2.1 r22 2) : Int32).toInt64)) (r0 + 2) (((7 : Int32) : Int32).toNatClampNeg) (((Z.2.2.1 r1 1) : Int32).toInt64)) hr0 _ _) hD
          refine lv_aload_n hx hb dX1_open_121 rfl (lv_at hl 1 rfl) ?_
          refine lv_aload_n hx hb dX1_open_122 rfl (lv_at hl 1 rfl) ?_
          refine lv_aload_n hx hb dX1_open_123 rfl (lv_at hl 2 rfl) ?_
          refine lv_bipush (v := 115) hx hb dX1_open_124 (by decide) ?_
          obtain ⟨q28, hq28, h⟩ := f_b h
          refine cl_V (w := (hW G Z Y (sJ (sJ (sJ (sJ (sJ (sJ q12.2 (r0 + 2) (((0 : Int32) : Int32).toNatClampNeg) q17) (r0 + 2) (((1 : Int32) : Int32).toNatClampNeg) q17) (r0 + 2) (((2 : Int32) : Int32).toNatClampNeg) q17) (r0 + 2) (((6 : Int32) : Int32).toNatClampNeg) (((Z.2.2.1 r22 2) : Int32).toInt64)) (r0 + 2) (((7 : Int32) : Int32).toNatClampNeg) (((Z.2.2.1 r1 1) : Int32).toInt64)) (r0 + 2) (((8 : Int32) : Int32).toNatClampNeg) ((x2 : Int32).toInt64)))) (w' := (hW G Z Y q28.2)) (rv := some (.long q28.1)) (bytes := cX1_saidBy) (maxL := 3) (ret := (some .long)) (C := RX1) (As := [.ref (G.2.1 r1), .int (115 : Int32)]) (rest := [.ref (G.2.1 r0)]) (stk := [.long q28.1, .ref (G.2.1 r0)]) ⟨hx, hb, hml, hown, hts⟩ hK hE hA hP hD hS (c_X1_saidBy l D G Z Y (sJ (sJ (sJ (sJ (sJ (sJ q12.2 (r0 + 2) (((0 : Int32) : Int32).toNatClampNeg) q17) (r0 + 2) (((1 : Int32) : Int32).toNatClampNeg) q17) (r0 + 2) (((2 : Int32) : Int32).toNatClampNeg) q17) (r0 + 2) (((6 : Int32) : Int32).toNatClampNeg) (((Z.2.2.1 r22 2) : Int32).toInt64)) (r0 + 2) (((7 : Int32) : Int32).toNatClampNeg) (((Z.2.2.1 r1 1) : Int32).toInt64)) (r0 + 2) (((8 : Int32) : Int32).toNatClampNeg) ((x2 : Int32).toInt64)) F r0 hr0 r1 hr1 (115 : Int32) q28 hq28) (cwV 2 hts (gwV wd_827 wd_829 wp_24 wd_7 wd_830) rfl rfl rfl hd_X1_saidBy ⟨Nat.le_of_ble_eq_true rfl, Nat.le_of_ble_eq_true rfl⟩) (hg_Co G Z Y (sJ (sJ (sJ (sJ (sJ (sJ q12.2 (r0 + 2) (((0 : Int32) : Int32).toNatClampNeg) q17) (r0 + 2) (((1 : Int32) : Int32).toNatClampNeg) q17) (r0 + 2) (((2 : Int32) : Int32).toNatClampNeg) q17) (r0 + 2) (((6 : Int32) : Int32).toNatClampNeg) (((Z.2.2.1 r22 2) : Int32).toInt64)) (r0 + 2) (((7 : Int32) : Int32).toNatClampNeg) (((Z.2.2.1 r1 1) : Int32).toInt64)) (r0 + 2) (((8 : Int32) : Int32).toNatClampNeg) ((x2 : Int32).toInt64)) hr0) rfl rfl rfl hl.1 rfl (Nat.le_of_ble_eq_true rfl) dX1_open_126 ⟨Nat.zero_le _, Nat.zero_le _⟩ rfl (fun H locs hP hD hS => ?_)
          refine va_put (D := D) (ci := 2) (v := .long q28.1) (ty := .long) (C := RX1) (T := TX1) (N := 15) hx hb hts inU_X1 tyX1 tyX1_ok nmX1 hown hK hP hD hS _ (hg_Co G Z Y q28.2 hr0) rfl 10 (by decide) (hts _ wd_170) (fun _ h9 => h9) rfl (by decide +kernel) rfl rfl (Nat.le_of_ble_eq_true rfl) dX1_open_129 (fun H locs hP hD hS => ?_)
          have hP := wrP (hp_Co_10 G Z Y q28.2 hr0 q28.1) hP
          have hD := wrD (hp_Co_10 G Z Y q28.2 hr0 q28.1) hD
          refine lv_aload_n hx hb dX1_open_132 rfl (lv_at hl 1 rfl) ?_
          refine lv_aload_n hx hb dX1_open_133 rfl (lv_at hl 1 rfl) ?_
          refine va_get (D := D) (ci := 2) (v := .long ((sJ q28.2 r0 10 q28.1).2.1 r0 10)) (C := RX1) (T := TX1) (N := 15) hx hb hts inU_X1 hown hK hP _ (hg_Co G Z Y (sJ q28.2 r0 10 q28.1) hr0) rfl 10 (by decide) (hts _ wd_170) (fun _ h9 => h9) rfl dX1_open_134 ?_
          refine va_put (D := D) (ci := 2) (v := .long ((sJ q28.2 r0 10 q28.1).2.1 r0 10)) (ty := .long) (C := RX1) (T := TX1) (N := 15) hx hb hts inU_X1 tyX1 tyX1_ok nmX1 hown hK hP hD hS _ (hg_Co G Z Y (sJ q28.2 r0 10 q28.1) hr0) rfl 9 (by decide) (hts _ wd_168) (fun _ h9 => h9) rfl (by decide +kernel) rfl rfl (Nat.le_of_ble_eq_true rfl) dX1_open_137 (fun H locs hP hD hS => ?_)
          have hP := wrP (hp_Co_9 G Z Y (sJ q28.2 r0 10 q28.1) hr0 ((sJ q28.2 r0 10 q28.1).2.1 r0 10)) hP
          have hD := wrD (hp_Co_9 G Z Y (sJ q28.2 r0 10 q28.1) hr0 ((sJ q28.2 r0 10 q28.1).2.1 r0 10)) hD
          obtain rfl := Option.some.inj h
          exact W.vret hx hb hr (q_end hK hP hD hS) hS.2.2 dX1_open_140
abbrev rm_X1_goByDraws : Room := { frames := 7, cells := 0, slots := 0, locals := 177 }
set_option maxRecDepth 100000 in
set_option maxHeartbeats 8000000 in
theorem W_X1_goByDraws_L15 {p : Program} {e : Env} {s : State} {m : MethodId} {args : Array Value} {below : List Frame} {meth : Method} {c : Code} {A : Nat → Prop} (l : Launch) (D : va_G) (G : hG) (Z : hZ) (Y : va_W) (σ0 : hSt) (F : Nat) (r0 : Nat) (hr0 : isCo r0 = true) (r1 : Nat) (hr1 : isTa Z r1 = true) (x2 : Int64) (x4 : Int32) (res : (Int32 × hSt)) (C0 : Cx p s m args meth c cX1_goByDraws (some .boolean) RX1 6 D G A) (hA : ∀ q : Nat, s.heap.size ≤ q → A q) (k83 : hSt → Option (Int32 × hSt)) (hk83 : ∀ (σ1 : hSt), k83 σ1 = some res → ∀ (H : Heap) (locs : List Loc) (ls : Array Slot), va_P D vwCl (hW G Z Y σ1) H → va_D A (hW G Z Y σ1) → va_S A s.heap H locs → lv_has ls 6 [(0, .ref (G.2.1 r0)), (1, .ref (G.2.1 r1))] → W p l e rm_X1_goByDraws s m args below meth c H locs 0 0 (MQ below (Qg (some (.int res.1)) D (tysG G) (hW G Z Y res.2) A) args s 0 0 A) (F0 m 83 ls [])) : ∀ (n : Nat) (σ1 : hSt) (z5 : Int32), f_X1_goByDraws_L15 F Z r0 r1 k83 n σ1 z5 = some res → ∀ (H : Heap) (locs : List Loc) (ls : Array Slot), va_P D vwCl (hW G Z Y σ1) H → va_D A (hW G Z Y σ1) → va_S A s.heap H locs → lv_has ls 6 [(0, .ref (G.2.1 r0)), (1, .ref (G.2.1 r1)), (5, .int z5)] → W p l e rm_X1_goByDraws s m args below meth c H locs 0 0 (MQ below (Qg (some (.int res.1)) D (tysG G) (hW G Z Y res.2) A) args s 0 0 A) (F0 m 15 ls []) := by
  obtain ⟨hx, hb, hr, hml, hown, hts, hlocks, hK, hE⟩ := id C0
  intro n
  induction n with
  | zero =>
    intro σ1 z5 h
    cases h
  | succ n ih =>
    intro σ1 z5 h H locs ls hP hD hS hl
    rw [f_X1_goByDraws_L15] at h
    refine lv_iload hx hb dX1_goByDraws_15 (lv_at hl 2 rfl) ?_
    refine lv_aload_n hx hb dX1_goByDraws_17 rfl (lv_at hl 1 rfl) ?_
    obtain ⟨qq2, hq2⟩ := hg_Ta G Z Y σ1 hr1
    refine va_getN (D := D) (ci := 7) (v := va_rf (((Z.2.2.2 r1 0)).map G.2.1)) (C := RX7) (T := TX7) (N := 4) hx hb hts inU_X7 hown hK hP _ hq2 rfl 0 (by decide) (nF_use 19 hE rfl) (fun _ h9 => h9) rfl dX1_goByDraws_18 ?_
    rcases f_o h with ⟨ho, h⟩ | ⟨r3, ho, h⟩
    · rw [ho]
      cases h
    · rw [ho]
      obtain ⟨hr3, h⟩ := f_c h
      obtain ⟨qq4, hq4⟩ := hg_Sa G Z Y σ1 hr3
      refine va_getN (D := D) (ci := 5) (v := .int (Z.2.2.1 r3 2)) (C := RX4) (T := TX4) (N := 5) hx hb hts inU_X4 hown hK hP _ hq4 rfl 2 (by decide) (nF_use 11 hE rfl) (fun _ h9 => h9) rfl dX1_goByDraws_21 ?_
      refine lv_icmp_ge (tgt := 83) hx hb dX1_goByDraws_24 (by decide) (fun c5 => ?_) (fun c5 => ?_)
      · skip
        have h := f_t c5 h
        exact hk83 σ1 h _ _ _ hP hD hS (lv_sub hl [0, 1] rfl)
      · skip
        have h := f_f c5 h
        refine lv_aload_n hx hb dX1_goByDraws_27 rfl (lv_at hl 0 rfl) ?_
        refine lv_aload_n hx hb dX1_goByDraws_28 rfl (lv_at hl 1 rfl) ?_
        refine lv_iload hx hb dX1_goByDraws_29 (lv_at hl 2 rfl) ?_
        obtain ⟨q6, hq6, h⟩ := f_b h
        refine cl_V (w := (hW G Z Y σ1)) (w' := (hW G Z Y q6.2)) (rv := none) (bytes := cX1_sayCurve) (maxL := 5) (ret := none) (C := RX1) (As := [.ref (G.2.1 r1), .int z5]) (rest := []) (stk := []) ⟨hx, hb, hml, hown, hts⟩ hK hE hA hP hD hS (c_X1_sayCurve l D G Z Y σ1 F r0 hr0 r1 hr1 z5 q6 hq6) (cwV 2 hts (gwV wd_853 wd_855 wp_26 wd_7 wd_856) rfl rfl rfl hd_X1_sayCurve ⟨Nat.le_of_ble_eq_true rfl, Nat.le_of_ble_eq_true rfl⟩) (hg_Co G Z Y σ1 hr0) rfl rfl rfl hl.1 rfl (Nat.le_of_ble_eq_true rfl) dX1_goByDraws_31 ⟨Nat.zero_le _, Nat.zero_le _⟩ rfl (fun H locs hP hD hS => ?_)
        refine lv_aload_n hx hb dX1_goByDraws_34 rfl (lv_at hl 0 rfl) ?_
        refine lv_aload_n hx hb dX1_goByDraws_35 rfl (lv_at hl 1 rfl) ?_
        refine lv_iload hx hb dX1_goByDraws_36 (lv_at hl 2 rfl) ?_
        obtain ⟨q7, hq7, h⟩ := f_b h
        refine cl_V (w := (hW G Z Y q6.2)) (w' := (hW G Z Y q7.2)) (rv := some (.int q7.1)) (bytes := cX1_agrees) (maxL := 5) (ret := (some .boolean)) (C := RX1) (As := [.ref (G.2.1 r1), .int z5]) (rest := []) (stk := [.int q7.1]) ⟨hx, hb, hml, hown, hts⟩ hK hE hA hP hD hS (c_X1_agrees l D G Z Y q6.2 F r0 hr0 r1 hr1 z5 q7 hq7) (cwV 2 hts (gwV wd_874 wd_876 wp_30 wd_7 wd_877) rfl rfl rfl hd_X1_agrees ⟨Nat.le_of_ble_eq_true rfl, Nat.le_of_ble_eq_true rfl⟩) (hg_Co G Z Y q6.2 hr0) rfl rfl rfl hl.1 rfl (Nat.le_of_ble_eq_true rfl) dX1_goByDraws_38 ⟨Nat.zero_le _, Nat.zero_le _⟩ rfl (fun H locs hP hD hS => ?_)
        refine lv_if_ne (tgt := 52) hx hb dX1_goByDraws_41 (by decide) (fun c8 => ?_) (fun c8 => ?_)
        · skip
          have h := f_f c8 h
          refine lv_aload_n hx hb dX1_goByDraws_52 rfl (lv_at hl 0 rfl) ?_
          refine lv_lconst (v := 0) hx hb dX1_goByDraws_53 (by decide) ?_
          obtain ⟨q9, hq9, h⟩ := f_b h
          refine cl_V (w := (hW G Z Y q7.2)) (w' := (hW G Z Y q9.2)) (rv := none) (bytes := cX1_stir) (maxL := 3) (ret := none) (C := RX1) (As := [.long (0 : Int64)]) (rest := []) (stk := []) ⟨hx, hb, hml, hown, hts⟩ hK hE hA hP hD hS (c_X1_stir l D G Z Y q7.2 r0 hr0 (0 : Int64) q9 hq9) (cwV 1 hts (gwV wd_901 wd_903 wp_34 wd_7 wd_904) rfl rfl rfl hd_X1_stir ⟨Nat.le_of_ble_eq_true rfl, Nat.le_of_ble_eq_true rfl⟩) (hg_Co G Z Y q7.2 hr0) rfl rfl rfl hl.1 rfl (Nat.le_of_ble_eq_true rfl) dX1_goByDraws_54 ⟨Nat.zero_le _, Nat.zero_le _⟩ rfl (fun H locs hP hD hS => ?_)
          refine lv_aload_n hx hb dX1_goByDraws_57 rfl (lv_at hl 0 rfl) ?_
          refine lv_aload_n hx hb dX1_goByDraws_58 rfl (lv_at hl 1 rfl) ?_
          refine lv_iload hx hb dX1_goByDraws_59 (lv_at hl 2 rfl) ?_
          refine lv_aload_n hx hb dX1_goByDraws_61 rfl (lv_at hl 0 rfl) ?_
          refine lv_aload_n hx hb dX1_goByDraws_62 rfl (lv_at hl 0 rfl) ?_
          refine va_get (D := D) (ci := 2) (v := .ref (G.2.1 12)) (C := RX1) (T := TX1) (N := 15) hx hb hts inU_X1 hown hK hP _ (hg_Co G Z Y q9.2 hr0) rfl 1 (by decide) (hts _ wd_159) (fun _ h9 => h9) rfl dX1_goByDraws_63 ?_
          refine lv_iload hx hb dX1_goByDraws_66 (lv_at hl 2 rfl) ?_
          obtain ⟨q10, hq10, h⟩ := f_b h
          refine cl_V (w := (hW G Z Y q9.2)) (w' := (hW G Z Y q10.2)) (rv := some (.int q10.1)) (bytes := cX0_dice) (maxL := 2) (ret := (some .int)) (C := RX0) (As := [.int z5]) (rest := [.ref (G.2.1 r0), .int z5, .ref (G.2.1 r1), .ref (G.2.1 r0)]) (stk := [.int q10.1, .ref (G.2.1 r0), .int z5, .ref (G.2.1 r1), .ref (G.2.1 r0)]) ⟨hx, hb, hml, hown, hts⟩ hK hE hA hP hD hS (c_X0_dice l D G Z Y q9.2 F z5 q10 hq10) (cwV 1 hts (gwV wd_907 wd_908 wd_909 wd_6 wd_910) rfl rfl rfl hd_X0_dice ⟨Nat.le_of_ble_eq_true rfl, Nat.le_of_ble_eq_true rfl⟩) (hg_12 G Z Y q9.2) rfl rfl rfl hl.1 rfl (Nat.le_of_ble_eq_true rfl) dX1_goByDraws_68 ⟨Nat.zero_le _, Nat.zero_le _⟩ rfl (fun H locs hP hD hS => ?_)
          obtain ⟨q11, hq11, h⟩ := f_b h
          refine cl_V (w := (hW G Z Y q10.2)) (w' := (hW G Z Y q10.2)) (rv := some (.int q11)) (bytes := cX1_drawOfDice) (maxL := 2) (ret := (some .int)) (C := RX1) (As := [.int q10.1]) (rest := [.int z5, .ref (G.2.1 r1), .ref (G.2.1 r0)]) (stk := [.int q11, .int z5, .ref (G.2.1 r1), .ref (G.2.1 r0)]) ⟨hx, hb, hml, hown, hts⟩ hK hE hA hP hD hS (c_X1_drawOfDice l D G Z Y q10.2 r0 hr0 q10.1 q11 hq11) (cwV 1 hts (gwV wd_913 wd_915 wp_35 wd_7 wd_916) rfl rfl rfl hd_X1_drawOfDice ⟨Nat.le_of_ble_eq_true rfl, Nat.le_of_ble_eq_true rfl⟩) (hg_Co G Z Y q10.2 hr0) rfl rfl rfl hl.1 rfl (Nat.le_of_ble_eq_true rfl) dX1_goByDraws_71 ⟨Nat.zero_le _, Nat.zero_le _⟩ rfl (fun H locs hP hD hS => ?_)
          obtain ⟨q12, hq12, h⟩ := f_b h
          refine cl_V (w := (hW G Z Y q10.2)) (w' := (hW G Z Y q12.2)) (rv := none) (bytes := cX1_moveOn) (maxL := 4) (ret := none) (C := RX1) (As := [.ref (G.2.1 r1), .int z5, .int q11]) (rest := []) (stk := []) ⟨hx, hb, hml, hown, hts⟩ hK hE hA hP hD hS (c_X1_moveOn l D G Z Y q10.2 F r0 hr0 r1 hr1 z5 q11 q12 hq12) (cwV 3 hts (gwV wd_917 wd_919 wp_36 wd_7 wd_920) rfl rfl rfl hd_X1_moveOn ⟨Nat.le_of_ble_eq_true rfl, Nat.le_of_ble_eq_true rfl⟩) (hg_Co G Z Y q10.2 hr0) rfl rfl rfl hl.1 rfl (Nat.le_of_ble_eq_true rfl) dX1_goByDraws_74 ⟨Nat.zero_le _, Nat.zero_le _⟩ rfl (fun H locs hP hD hS => ?_)
          refine lv_iinc (v := (z5 + 1)) (lv' := [(5, .int (z5 + 1)), (0, .ref (G.2.1 r0)), (1, .ref (G.2.1 r1))]) hx hb dX1_goByDraws_77 hl (k := 2) rfl rfl (by decide) rfl (fun ls hl => ?_)
          refine lv_goto (tgt := 15) hx hb dX1_goByDraws_80 (by decide) ?_
          exact ih q12.2 (z5 + 1) h _ _ _ hP hD hS (lv_sub hl [1, 2, 0] rfl)
        · skip
          have h := f_t c8 h
          refine lv_aload_n hx hb dX1_goByDraws_44 rfl (lv_at hl 0 rfl) ?_
          refine lv_iload hx hb dX1_goByDraws_45 (lv_at hl 2 rfl) ?_
          refine va_put (D := D) (ci := 2) (v := .int z5) (ty := .int) (C := RX1) (T := TX1) (N := 15) hx hb hts inU_X1 tyX1 tyX1_ok nmX1 hown hK hP hD hS _ (hg_Co G Z Y q7.2 hr0) rfl 11 (by decide) (hts _ wd_172) (fun _ h9 => h9) rfl (by decide +kernel) rfl rfl (Nat.le_of_ble_eq_true rfl) dX1_goByDraws_47 (fun H locs hP hD hS => ?_)
          have hP := wrP (hp_Co_11 G Z Y q7.2 hr0 z5) hP
          have hD := wrD (hp_Co_11 G Z Y q7.2 hr0 z5) hD
          refine lv_iconst (v := 0) hx hb dX1_goByDraws_50 (by decide) ?_
          obtain rfl := Option.some.inj h
          exact W.zret (v := (0 : Int32)) hx hb hr rfl (q_end hK hP hD hS) hS.2.2 dX1_goByDraws_51
set_option maxRecDepth 100000 in
set_option maxHeartbeats 8000000 in
theorem c_X1_goByDraws (l : Launch) (D : va_G) (G : hG) (Z : hZ) (Y : va_W) (σ0 : hSt) (F : Nat) (r0 : Nat) (hr0 : isCo r0 = true) (r1 : Nat) (hr1 : isTa Z r1 = true) (x2 : Int64) (x4 : Int32) (res : (Int32 × hSt)) (h : f_X1_goByDraws F Z σ0 r0 r1 x2 x4 = some res) : CT l yX1_goByDraws cX1_goByDraws 6 (some .boolean) rm_X1_goByDraws D G 0 0 [.ref (G.2.1 r0), .ref (G.2.1 r1), .long x2, .int x4] (hW G Z Y σ0) (hW G Z Y res.2) (some (.int res.1)) := by
  unfold f_X1_goByDraws at h
  refine CT.mk (cc := cX1_goByDraws) (maxL := 6) (ret := (some .boolean)) (own := RX1) (plainFor_of_name (by decide)) rfl (Nat.le_of_ble_eq_true rfl) ?_
  intro p e s m args below meth c A ls C0 hnm hA hP hD hl
  obtain ⟨hx, hb, hr, hml, hown, hts, hlocks, hK, hE⟩ := id C0
  have hS : va_S A s.heap s.heap [] := va_S.rf
  have hl : lv_has ls 6 [(0, .ref (G.2.1 r0)), (1, .ref (G.2.1 r1)), (2, .long x2), (4, .int x4)] := hl
  refine lv_aload_n hx hb dX1_goByDraws_0 rfl (lv_at hl 0 rfl) ?_
  refine lv_aload_n hx hb dX1_goByDraws_1 rfl (lv_at hl 1 rfl) ?_
  refine lv_iload hx hb dX1_goByDraws_2 (lv_at hl 3 rfl) ?_
  obtain ⟨q1, hq1, h⟩ := f_b h
  refine cl_V (w := (hW G Z Y σ0)) (w' := (hW G Z Y q1.2)) (rv := none) (bytes := cX1_open) (maxL := 5) (ret := none) (C := RX1) (As := [.ref (G.2.1 r1), .int x4]) (rest := []) (stk := []) ⟨hx, hb, hml, hown, hts⟩ hK hE hA hP hD hS (c_X1_open l D G Z Y σ0 F r0 hr0 r1 hr1 x4 q1 hq1) (cwV 2 hts (gwV wd_815 wd_816 wd_817 wd_7 wd_818) rfl rfl rfl hd_X1_open ⟨Nat.le_of_ble_eq_true rfl, Nat.le_of_ble_eq_true rfl⟩) (hg_Co G Z Y σ0 hr0) rfl rfl rfl hl.1 rfl (Nat.le_of_ble_eq_true rfl) dX1_goByDraws_4 ⟨Nat.zero_le _, Nat.zero_le _⟩ rfl (fun H locs hP hD hS => ?_)
  refine lv_aload_n hx hb dX1_goByDraws_7 rfl (lv_at hl 0 rfl) ?_
  refine lv_lload_n hx hb dX1_goByDraws_8 rfl (lv_at hl 2 rfl) ?_
  refine va_put (D := D) (ci := 2) (v := .long x2) (ty := .long) (C := RX1) (T := TX1) (N := 15) hx hb hts inU_X1 tyX1 tyX1_ok nmX1 hown hK hP hD hS _ (hg_Co G Z Y q1.2 hr0) rfl 14 (by decide) (hts _ wd_177) (fun _ h9 => h9) rfl (by decide +kernel) rfl rfl (Nat.le_of_ble_eq_true rfl) dX1_goByDraws_9 (fun H locs hP hD hS => ?_)
  have hP := wrP (hp_Co_14 G Z Y q1.2 hr0 x2) hP
  have hD := wrD (hp_Co_14 G Z Y q1.2 hr0 x2) hD
  refine lv_iconst (v := 0) hx hb dX1_goByDraws_12 (by decide) ?_
  refine lv_istore (lv' := [(5, .int (0 : Int32)), (0, .ref (G.2.1 r0)), (1, .ref (G.2.1 r1)), (2, .long x2), (4, .int x4)]) hx hb dX1_goByDraws_13 hl (by decide) rfl (fun ls hl => ?_)
  refine W_X1_goByDraws_L15 l D G Z Y σ0 F r0 hr0 r1 hr1 x2 x4 res C0 hA _ ?_ F (sJ q1.2 r0 14 x2) (0 : Int32) h _ _ _ hP hD hS (lv_sub hl [1, 2, 0] rfl)
  · intro σ1 h H locs ls hP hD hS hl
    refine lv_aload_n hx hb dX1_goByDraws_83 rfl (lv_at hl 0 rfl) ?_
    refine lv_aload_n hx hb dX1_goByDraws_84 rfl (lv_at hl 1 rfl) ?_
    obtain ⟨q13, hq13, h⟩ := f_b h
    refine cl_V (w := (hW G Z Y σ1)) (w' := (hW G Z Y q13.2)) (rv := some (.int q13.1)) (bytes := cX1_believesAtEnd) (maxL := 3) (ret := (some .boolean)) (C := RX1) (As := [.ref (G.2.1 r1)]) (rest := []) (stk := [.int q13.1]) ⟨hx, hb, hml, hown, hts⟩ hK hE hA hP hD hS (c_X1_believesAtEnd l D G Z Y σ1 F r0 hr0 r1 hr1 q13 hq13) (cwV 1 hts (gwV wd_922 wd_924 wp_37 wd_7 wd_925) rfl rfl rfl hd_X1_believesAtEnd ⟨Nat.le_of_ble_eq_true rfl, Nat.le_of_ble_eq_true rfl⟩) (hg_Co G Z Y σ1 hr0) rfl rfl rfl hl.1 rfl (Nat.le_of_ble_eq_true rfl) dX1_goByDraws_85 ⟨Nat.zero_le _, Nat.zero_le _⟩ rfl (fun H locs hP hD hS => ?_)
    obtain ⟨c14, h⟩ := f_c h
    obtain rfl := Option.some.inj h
    exact W.zret (v := q13.1) hx hb hr (bn c14) (q_end hK hP hD hS) hS.2.2 dX1_goByDraws_88
abbrev rm_X1_goFixed : Room := { frames := 7, cells := 0, slots := 0, locals := 177 }
set_option maxRecDepth 100000 in
set_option maxHeartbeats 8000000 in
theorem W_X1_goFixed_L41 {p : Program} {e : Env} {s : State} {m : MethodId} {args : Array Value} {below : List Frame} {meth : Method} {c : Code} {A : Nat → Prop} (l : Launch) (D : va_G) (G : hG) (Z : hZ) (Y : va_W) (σ0 : hSt) (F : Nat) (r0 : Nat) (hr0 : isCo r0 = true) (r1 : Nat) (hr1 : isTa Z r1 = true) (x2 : Int32) (y3 : Int32) (res : (Int32 × hSt)) (C0 : Cx p s m args meth c cX1_goFixed (some .boolean) RX1 5 D G A) (hA : ∀ q : Nat, s.heap.size ≤ q → A q) (k71 : hSt → Option (Int32 × hSt)) (hk71 : ∀ (σ1 : hSt), k71 σ1 = some res → ∀ (H : Heap) (locs : List Loc) (ls : Array Slot), va_P D vwCl (hW G Z Y σ1) H → va_D A (hW G Z Y σ1) → va_S A s.heap H locs → lv_has ls 5 [(0, .ref (G.2.1 r0)), (1, .ref (G.2.1 r1)), (3, .int y3)] → W p l e rm_X1_goFixed s m args below meth c H locs 0 0 (MQ below (Qg (some (.int res.1)) D (tysG G) (hW G Z Y res.2) A) args s 0 0 A) (F0 m 71 ls [])) : ∀ (n : Nat) (σ1 : hSt) (z4 : Int32), f_X1_goFixed_L41 Z r0 r1 y3 k71 n σ1 z4 = some res → ∀ (H : Heap) (locs : List Loc) (ls : Array Slot), va_P D vwCl (hW G Z Y σ1) H → va_D A (hW G Z Y σ1) → va_S A s.heap H locs → lv_has ls 5 [(0, .ref (G.2.1 r0)), (1, .ref (G.2.1 r1)), (3, .int y3), (4, .int z4)] → W p l e rm_X1_goFixed s m args below meth c H locs 0 0 (MQ below (Qg (some (.int res.1)) D (tysG G) (hW G Z Y res.2) A) args s 0 0 A) (F0 m 41 ls []) := by
  obtain ⟨hx, hb, hr, hml, hown, hts, hlocks, hK, hE⟩ := id C0
  intro n
  induction n with
  | zero =>
    intro σ1 z4 h
    cases h
  | succ n ih =>
    intro σ1 z4 h H locs ls hP hD hS hl
    rw [f_X1_goFixed_L41] at h
    refine lv_iload hx hb dX1_goFixed_41 (lv_at hl 3 rfl) ?_
    refine lv_aload_n hx hb dX1_goFixed_43 rfl (lv_at hl 1 rfl) ?_
    obtain ⟨qq8, hq8⟩ := hg_Ta G Z Y σ1 hr1
    refine va_getN (D := D) (ci := 7) (v := va_rf (((Z.2.2.2 r1 0)).map G.2.1)) (C := RX7) (T := TX7) (N := 4) hx hb hts inU_X7 hown hK hP _ hq8 rfl 0 (by decide) (nF_use 19 hE rfl) (fun _ h9 => h9) rfl dX1_goFixed_44 ?_
    rcases f_o h with ⟨ho, h⟩ | ⟨r9, ho, h⟩
    · rw [ho]
      refine lv_iload_n hx hb dX1_goFixed_47 rfl (lv_at hl 2 rfl) ?_
      cases h
    · rw [ho]
      obtain ⟨hr9, h⟩ := f_c h
      refine lv_iload_n hx hb dX1_goFixed_47 rfl (lv_at hl 2 rfl) ?_
      obtain ⟨q10, hq10, h⟩ := f_b h
      obtain ⟨qq11, hq11⟩ := hg_Sa G Z Y σ1 hr9
      refine cl_V (w := (hW G Z Y σ1)) (w' := (hW G Z Y σ1)) (rv := some (.int q10)) (bytes := cX4_steepOf) (maxL := 2) (ret := (some .int)) (C := RX4) (As := [.int y3]) (rest := [.int z4]) (stk := [.int q10, .int z4]) ⟨hx, hb, hml, hown, hts⟩ hK hE hA hP hD hS (c_X4_steepOf l D G Z Y σ1 r9 hr9 y3 q10 hq10) (cwV 1 hts (gwV wd_862 wd_676 wd_677 wd_18 wd_678) rfl rfl rfl hd_X4_steepOf ⟨Nat.le_of_ble_eq_true rfl, Nat.le_of_ble_eq_true rfl⟩) hq11 rfl rfl rfl hl.1 rfl (Nat.le_of_ble_eq_true rfl) dX1_goFixed_48 ⟨Nat.zero_le _, Nat.zero_le _⟩ rfl (fun H locs hP hD hS => ?_)
      refine lv_icmp_gt (tgt := 71) hx hb dX1_goFixed_51 (by decide) (fun c12 => ?_) (fun c12 => ?_)
      · skip
        have h := f_t c12 h
        exact hk71 σ1 h _ _ _ hP hD hS (lv_sub hl [0, 1, 2] rfl)
      · skip
        have h := f_f c12 h
        refine lv_aload_n hx hb dX1_goFixed_54 rfl (lv_at hl 0 rfl) ?_
        refine lv_aload_n hx hb dX1_goFixed_55 rfl (lv_at hl 0 rfl) ?_
        refine lv_iload_n hx hb dX1_goFixed_56 rfl (lv_at hl 2 rfl) ?_
        refine lv_iload hx hb dX1_goFixed_57 (lv_at hl 3 rfl) ?_
        obtain ⟨q13, hq13, h⟩ := f_b h
        refine cl_V (w := (hW G Z Y σ1)) (w' := (hW G Z Y σ1)) (rv := some (.long q13)) (bytes := cX1_saidAt) (maxL := 3) (ret := (some .long)) (C := RX1) (As := [.int y3, .int z4]) (rest := [.ref (G.2.1 r0)]) (stk := [.long q13, .ref (G.2.1 r0)]) ⟨hx, hb, hml, hown, hts⟩ hK hE hA hP hD hS (c_X1_saidAt l D G Z Y σ1 r0 hr0 y3 z4 q13 hq13) (cwV 2 hts (gwV wd_879 wd_880 wd_881 wd_7 wd_882) rfl rfl rfl hd_X1_saidAt ⟨Nat.le_of_ble_eq_true rfl, Nat.le_of_ble_eq_true rfl⟩) (hg_Co G Z Y σ1 hr0) rfl rfl rfl hl.1 rfl (Nat.le_of_ble_eq_true rfl) dX1_goFixed_59 ⟨Nat.zero_le _, Nat.zero_le _⟩ rfl (fun H locs hP hD hS => ?_)
        obtain ⟨q14, hq14, h⟩ := f_b h
        refine cl_V (w := (hW G Z Y σ1)) (w' := (hW G Z Y q14.2)) (rv := none) (bytes := cX1_stir) (maxL := 3) (ret := none) (C := RX1) (As := [.long q13]) (rest := []) (stk := []) ⟨hx, hb, hml, hown, hts⟩ hK hE hA hP hD hS (c_X1_stir l D G Z Y σ1 r0 hr0 q13 q14 hq14) (cwV 1 hts (gwV wd_901 wd_903 wp_34 wd_7 wd_904) rfl rfl rfl hd_X1_stir ⟨Nat.le_of_ble_eq_true rfl, Nat.le_of_ble_eq_true rfl⟩) (hg_Co G Z Y σ1 hr0) rfl rfl rfl hl.1 rfl (Nat.le_of_ble_eq_true rfl) dX1_goFixed_62 ⟨Nat.zero_le _, Nat.zero_le _⟩ rfl (fun H locs hP hD hS => ?_)
        refine lv_iinc (v := (z4 + 1)) (lv' := [(4, .int (z4 + 1)), (0, .ref (G.2.1 r0)), (1, .ref (G.2.1 r1)), (3, .int y3)]) hx hb dX1_goFixed_65 hl (k := 3) rfl rfl (by decide) rfl (fun ls hl => ?_)
        refine lv_goto (tgt := 41) hx hb dX1_goFixed_68 (by decide) ?_
        exact ih q14.2 (z4 + 1) h _ _ _ hP hD hS (lv_sub hl [1, 2, 3, 0] rfl)
set_option maxRecDepth 100000 in
set_option maxHeartbeats 8000000 in
theorem W_X1_goFixed_L21 {p : Program} {e : Env} {s : State} {m : MethodId} {args : Array Value} {below : List Frame} {meth : Method} {c : Code} {A : Nat → Prop} (l : Launch) (D : va_G) (G : hG) (Z : hZ) (Y : va_W) (σ0 : hSt) (F : Nat) (r0 : Nat) (hr0 : isCo r0 = true) (r1 : Nat) (hr1 : isTa Z r1 = true) (x2 : Int32) (res : (Int32 × hSt)) (C0 : Cx p s m args meth c cX1_goFixed (some .boolean) RX1 5 D G A) (hA : ∀ q : Nat, s.heap.size ≤ q → A q) (k111 : hSt → Option (Int32 × hSt)) (hk111 : ∀ (σ1 : hSt), k111 σ1 = some res → ∀ (H : Heap) (locs : List Loc) (ls : Array Slot), va_P D vwCl (hW G Z Y σ1) H → va_D A (hW G Z Y σ1) → va_S A s.heap H locs → lv_has ls 5 [(0, .ref (G.2.1 r0)), (1, .ref (G.2.1 r1))] → W p l e rm_X1_goFixed s m args below meth c H locs 0 0 (MQ below (Qg (some (.int res.1)) D (tysG G) (hW G Z Y res.2) A) args s 0 0 A) (F0 m 111 ls [])) : ∀ (n : Nat) (σ1 : hSt) (z3 : Int32), f_X1_goFixed_L21 F Z r0 r1 k111 n σ1 z3 = some res → ∀ (H : Heap) (locs : List Loc) (ls : Array Slot), va_P D vwCl (hW G Z Y σ1) H → va_D A (hW G Z Y σ1) → va_S A s.heap H locs → lv_has ls 5 [(0, .ref (G.2.1 r0)), (1, .ref (G.2.1 r1)), (3, .int z3)] → W p l e rm_X1_goFixed s m args below meth c H locs 0 0 (MQ below (Qg (some (.int res.1)) D (tysG G) (hW G Z Y res.2) A) args s 0 0 A) (F0 m 21 ls []) := by
  obtain ⟨hx, hb, hr, hml, hown, hts, hlocks, hK, hE⟩ := id C0
  intro n
  induction n with
  | zero =>
    intro σ1 z3 h
    cases h
  | succ n ih =>
    intro σ1 z3 h H locs ls hP hD hS hl
    rw [f_X1_goFixed_L21] at h
    refine lv_iload_n hx hb dX1_goFixed_21 rfl (lv_at hl 2 rfl) ?_
    refine lv_aload_n hx hb dX1_goFixed_22 rfl (lv_at hl 1 rfl) ?_
    obtain ⟨qq3, hq3⟩ := hg_Ta G Z Y σ1 hr1
    refine va_getN (D := D) (ci := 7) (v := va_rf (((Z.2.2.2 r1 0)).map G.2.1)) (C := RX7) (T := TX7) (N := 4) hx hb hts inU_X7 hown hK hP _ hq3 rfl 0 (by decide) (nF_use 19 hE rfl) (fun _ h9 => h9) rfl dX1_goFixed_23 ?_
    rcases f_o h with ⟨ho, h⟩ | ⟨r4, ho, h⟩
    · rw [ho]
      cases h
    · rw [ho]
      obtain ⟨hr4, h⟩ := f_c h
      obtain ⟨qq5, hq5⟩ := hg_Sa G Z Y σ1 hr4
      refine va_getN (D := D) (ci := 5) (v := .int (Z.2.2.1 r4 2)) (C := RX4) (T := TX4) (N := 5) hx hb hts inU_X4 hown hK hP _ hq5 rfl 2 (by decide) (nF_use 11 hE rfl) (fun _ h9 => h9) rfl dX1_goFixed_26 ?_
      refine lv_icmp_ge (tgt := 111) hx hb dX1_goFixed_29 (by decide) (fun c6 => ?_) (fun c6 => ?_)
      · skip
        have h := f_t c6 h
        exact hk111 σ1 h _ _ _ hP hD hS (lv_sub hl [0, 1] rfl)
      · skip
        have h := f_f c6 h
        refine lv_aload_n hx hb dX1_goFixed_32 rfl (lv_at hl 0 rfl) ?_
        refine lv_aload_n hx hb dX1_goFixed_33 rfl (lv_at hl 1 rfl) ?_
        refine lv_iload_n hx hb dX1_goFixed_34 rfl (lv_at hl 2 rfl) ?_
        obtain ⟨q7, hq7, h⟩ := f_b h
        refine cl_V (w := (hW G Z Y σ1)) (w' := (hW G Z Y q7.2)) (rv := none) (bytes := cX1_sayCurve) (maxL := 5) (ret := none) (C := RX1) (As := [.ref (G.2.1 r1), .int z3]) (rest := []) (stk := []) ⟨hx, hb, hml, hown, hts⟩ hK hE hA hP hD hS (c_X1_sayCurve l D G Z Y σ1 F r0 hr0 r1 hr1 z3 q7 hq7) (cwV 2 hts (gwV wd_853 wd_855 wp_26 wd_7 wd_856) rfl rfl rfl hd_X1_sayCurve ⟨Nat.le_of_ble_eq_true rfl, Nat.le_of_ble_eq_true rfl⟩) (hg_Co G Z Y σ1 hr0) rfl rfl rfl hl.1 rfl (Nat.le_of_ble_eq_true rfl) dX1_goFixed_35 ⟨Nat.zero_le _, Nat.zero_le _⟩ rfl (fun H locs hP hD hS => ?_)
        refine lv_iconst (v := 0) hx hb dX1_goFixed_38 (by decide) ?_
        refine lv_istore (lv' := [(4, .int (0 : Int32)), (0, .ref (G.2.1 r0)), (1, .ref (G.2.1 r1)), (3, .int z3)]) hx hb dX1_goFixed_39 hl (by decide) rfl (fun ls hl => ?_)
        refine W_X1_goFixed_L41 l D G Z Y σ0 F r0 hr0 r1 hr1 x2 z3 res C0 hA _ ?_ F q7.2 (0 : Int32) h _ _ _ hP hD hS (lv_sub hl [1, 2, 3, 0] rfl)
        · intro σ1 h H locs ls hP hD hS hl
          refine lv_aload_n hx hb dX1_goFixed_71 rfl (lv_at hl 0 rfl) ?_
          refine lv_aload_n hx hb dX1_goFixed_72 rfl (lv_at hl 1 rfl) ?_
          refine lv_iload_n hx hb dX1_goFixed_73 rfl (lv_at hl 2 rfl) ?_
          obtain ⟨q15, hq15, h⟩ := f_b h
          refine cl_V (w := (hW G Z Y σ1)) (w' := (hW G Z Y q15.2)) (rv := some (.int q15.1)) (bytes := cX1_agrees) (maxL := 5) (ret := (some .boolean)) (C := RX1) (As := [.ref (G.2.1 r1), .int z3]) (rest := []) (stk := [.int q15.1]) ⟨hx, hb, hml, hown, hts⟩ hK hE hA hP hD hS (c_X1_agrees l D G Z Y σ1 F r0 hr0 r1 hr1 z3 q15 hq15) (cwV 2 hts (gwV wd_874 wd_876 wp_30 wd_7 wd_877) rfl rfl rfl hd_X1_agrees ⟨Nat.le_of_ble_eq_true rfl, Nat.le_of_ble_eq_true rfl⟩) (hg_Co G Z Y σ1 hr0) rfl rfl rfl hl.1 rfl (Nat.le_of_ble_eq_true rfl) dX1_goFixed_74 ⟨Nat.zero_le _, Nat.zero_le _⟩ rfl (fun H locs hP hD hS => ?_)
          refine lv_if_ne (tgt := 87) hx hb dX1_goFixed_77 (by decide) (fun c16 => ?_) (fun c16 => ?_)
          · skip
            have h := f_f c16 h
            refine lv_aload_n hx hb dX1_goFixed_87 rfl (lv_at hl 0 rfl) ?_
            refine lv_aload_n hx hb dX1_goFixed_88 rfl (lv_at hl 1 rfl) ?_
            refine lv_iload_n hx hb dX1_goFixed_89 rfl (lv_at hl 2 rfl) ?_
            refine lv_aload_n hx hb dX1_goFixed_90 rfl (lv_at hl 0 rfl) ?_
            refine lv_aload_n hx hb dX1_goFixed_91 rfl (lv_at hl 0 rfl) ?_
            refine va_get (D := D) (ci := 2) (v := .ref (G.2.1 12)) (C := RX1) (T := TX1) (N := 15) hx hb hts inU_X1 hown hK hP _ (hg_Co G Z Y q15.2 hr0) rfl 1 (by decide) (hts _ wd_159) (fun _ h9 => h9) rfl dX1_goFixed_92 ?_
            refine lv_iload_n hx hb dX1_goFixed_95 rfl (lv_at hl 2 rfl) ?_
            obtain ⟨q17, hq17, h⟩ := f_b h
            refine cl_V (w := (hW G Z Y q15.2)) (w' := (hW G Z Y q17.2)) (rv := some (.int q17.1)) (bytes := cX0_dice) (maxL := 2) (ret := (some .int)) (C := RX0) (As := [.int z3]) (rest := [.ref (G.2.1 r0), .int z3, .ref (G.2.1 r1), .ref (G.2.1 r0)]) (stk := [.int q17.1, .ref (G.2.1 r0), .int z3, .ref (G.2.1 r1), .ref (G.2.1 r0)]) ⟨hx, hb, hml, hown, hts⟩ hK hE hA hP hD hS (c_X0_dice l D G Z Y q15.2 F z3 q17 hq17) (cwV 1 hts (gwV wd_907 wd_908 wd_909 wd_6 wd_910) rfl rfl rfl hd_X0_dice ⟨Nat.le_of_ble_eq_true rfl, Nat.le_of_ble_eq_true rfl⟩) (hg_12 G Z Y q15.2) rfl rfl rfl hl.1 rfl (Nat.le_of_ble_eq_true rfl) dX1_goFixed_96 ⟨Nat.zero_le _, Nat.zero_le _⟩ rfl (fun H locs hP hD hS => ?_)
            obtain ⟨q18, hq18, h⟩ := f_b h
            refine cl_V (w := (hW G Z Y q17.2)) (w' := (hW G Z Y q17.2)) (rv := some (.int q18)) (bytes := cX1_drawOfDice) (maxL := 2) (ret := (some .int)) (C := RX1) (As := [.int q17.1]) (rest := [.int z3, .ref (G.2.1 r1), .ref (G.2.1 r0)]) (stk := [.int q18, .int z3, .ref (G.2.1 r1), .ref (G.2.1 r0)]) ⟨hx, hb, hml, hown, hts⟩ hK hE hA hP hD hS (c_X1_drawOfDice l D G Z Y q17.2 r0 hr0 q17.1 q18 hq18) (cwV 1 hts (gwV wd_913 wd_915 wp_35 wd_7 wd_916) rfl rfl rfl hd_X1_drawOfDice ⟨Nat.le_of_ble_eq_true rfl, Nat.le_of_ble_eq_true rfl⟩) (hg_Co G Z Y q17.2 hr0) rfl rfl rfl hl.1 rfl (Nat.le_of_ble_eq_true rfl) dX1_goFixed_99 ⟨Nat.zero_le _, Nat.zero_le _⟩ rfl (fun H locs hP hD hS => ?_)
            obtain ⟨q19, hq19, h⟩ := f_b h
            refine cl_V (w := (hW G Z Y q17.2)) (w' := (hW G Z Y q19.2)) (rv := none) (bytes := cX1_moveOn) (maxL := 4) (ret := none) (C := RX1) (As := [.ref (G.2.1 r1), .int z3, .int q18]) (rest := []) (stk := []) ⟨hx, hb, hml, hown, hts⟩ hK hE hA hP hD hS (c_X1_moveOn l D G Z Y q17.2 F r0 hr0 r1 hr1 z3 q18 q19 hq19) (cwV 3 hts (gwV wd_917 wd_919 wp_36 wd_7 wd_920) rfl rfl rfl hd_X1_moveOn ⟨Nat.le_of_ble_eq_true rfl, Nat.le_of_ble_eq_true rfl⟩) (hg_Co G Z Y q17.2 hr0) rfl rfl rfl hl.1 rfl (Nat.le_of_ble_eq_true rfl) dX1_goFixed_102 ⟨Nat.zero_le _, Nat.zero_le _⟩ rfl (fun H locs hP hD hS => ?_)
            refine lv_iinc (v := (z3 + 1)) (lv' := [(3, .int (z3 + 1)), (0, .ref (G.2.1 r0)), (1, .ref (G.2.1 r1))]) hx hb dX1_goFixed_105 hl (k := 2) rfl rfl (by decide) rfl (fun ls hl => ?_)
            refine lv_goto (tgt := 21) hx hb dX1_goFixed_108 (by decide) ?_
            exact ih q19.2 (z3 + 1) h _ _ _ hP hD hS (lv_sub hl [1, 2, 0] rfl)
          · skip
            have h := f_t c16 h
            refine lv_aload_n hx hb dX1_goFixed_80 rfl (lv_at hl 0 rfl) ?_
            refine lv_iload_n hx hb dX1_goFixed_81 rfl (lv_at hl 2 rfl) ?_
            refine va_put (D := D) (ci := 2) (v := .int z3) (ty := .int) (C := RX1) (T := TX1) (N := 15) hx hb hts inU_X1 tyX1 tyX1_ok nmX1 hown hK hP hD hS _ (hg_Co G Z Y q15.2 hr0) rfl 11 (by decide) (hts _ wd_172) (fun _ h9 => h9) rfl (by decide +kernel) rfl rfl (Nat.le_of_ble_eq_true rfl) dX1_goFixed_82 (fun H locs hP hD hS => ?_)
            have hP := wrP (hp_Co_11 G Z Y q15.2 hr0 z3) hP
            have hD := wrD (hp_Co_11 G Z Y q15.2 hr0 z3) hD
            refine lv_iconst (v := 0) hx hb dX1_goFixed_85 (by decide) ?_
            obtain rfl := Option.some.inj h
            exact W.zret (v := (0 : Int32)) hx hb hr rfl (q_end hK hP hD hS) hS.2.2 dX1_goFixed_86
set_option maxRecDepth 100000 in
set_option maxHeartbeats 8000000 in
theorem c_X1_goFixed (l : Launch) (D : va_G) (G : hG) (Z : hZ) (Y : va_W) (σ0 : hSt) (F : Nat) (r0 : Nat) (hr0 : isCo r0 = true) (r1 : Nat) (hr1 : isTa Z r1 = true) (x2 : Int32) (res : (Int32 × hSt)) (h : f_X1_goFixed F Z σ0 r0 r1 x2 = some res) : CT l yX1_goFixed cX1_goFixed 5 (some .boolean) rm_X1_goFixed D G 0 0 [.ref (G.2.1 r0), .ref (G.2.1 r1), .int x2] (hW G Z Y σ0) (hW G Z Y res.2) (some (.int res.1)) := by
  unfold f_X1_goFixed at h
  refine CT.mk (cc := cX1_goFixed) (maxL := 5) (ret := (some .boolean)) (own := RX1) (plainFor_of_name (by decide)) rfl (Nat.le_of_ble_eq_true rfl) ?_
  intro p e s m args below meth c A ls C0 hnm hA hP hD hl
  obtain ⟨hx, hb, hr, hml, hown, hts, hlocks, hK, hE⟩ := id C0
  have hS : va_S A s.heap s.heap [] := va_S.rf
  have hl : lv_has ls 5 [(0, .ref (G.2.1 r0)), (1, .ref (G.2.1 r1)), (2, .int x2)] := hl
  refine lv_aload_n hx hb dX1_goFixed_0 rfl (lv_at hl 0 rfl) ?_
  refine lv_aload_n hx hb dX1_goFixed_1 rfl (lv_at hl 1 rfl) ?_
  refine lv_iload_n hx hb dX1_goFixed_2 rfl (lv_at hl 2 rfl) ?_
  obtain ⟨q1, hq1, h⟩ := f_b h
  refine cl_V (w := (hW G Z Y σ0)) (w' := (hW G Z Y q1.2)) (rv := none) (bytes := cX1_open) (maxL := 5) (ret := none) (C := RX1) (As := [.ref (G.2.1 r1), .int x2]) (rest := []) (stk := []) ⟨hx, hb, hml, hown, hts⟩ hK hE hA hP hD hS (c_X1_open l D G Z Y σ0 F r0 hr0 r1 hr1 x2 q1 hq1) (cwV 2 hts (gwV wd_815 wd_816 wd_817 wd_7 wd_818) rfl rfl rfl hd_X1_open ⟨Nat.le_of_ble_eq_true rfl, Nat.le_of_ble_eq_true rfl⟩) (hg_Co G Z Y σ0 hr0) rfl rfl rfl hl.1 rfl (Nat.le_of_ble_eq_true rfl) dX1_goFixed_3 ⟨Nat.zero_le _, Nat.zero_le _⟩ rfl (fun H locs hP hD hS => ?_)
  refine lv_aload_n hx hb dX1_goFixed_6 rfl (lv_at hl 0 rfl) ?_
  refine lv_lconst (v := 1) hx hb dX1_goFixed_7 (by decide) ?_
  refine va_put (D := D) (ci := 2) (v := .long (1 : Int64)) (ty := .long) (C := RX1) (T := TX1) (N := 15) hx hb hts inU_X1 tyX1 tyX1_ok nmX1 hown hK hP hD hS _ (hg_Co G Z Y q1.2 hr0) rfl 14 (by decide) (hts _ wd_177) (fun _ h9 => h9) rfl (by decide +kernel) rfl rfl (Nat.le_of_ble_eq_true rfl) dX1_goFixed_8 (fun H locs hP hD hS => ?_)
  have hP := wrP (hp_Co_14 G Z Y q1.2 hr0 (1 : Int64)) hP
  have hD := wrD (hp_Co_14 G Z Y q1.2 hr0 (1 : Int64)) hD
  refine lv_aload_n hx hb dX1_goFixed_11 rfl (lv_at hl 0 rfl) ?_
  refine lv_aload_n hx hb dX1_goFixed_12 rfl (lv_at hl 0 rfl) ?_
  refine va_get (D := D) (ci := 2) (v := .long ((sJ q1.2 r0 14 (1 : Int64)).2.1 r0 10)) (C := RX1) (T := TX1) (N := 15) hx hb hts inU_X1 hown hK hP _ (hg_Co G Z Y (sJ q1.2 r0 14 (1 : Int64)) hr0) rfl 10 (by decide) (hts _ wd_170) (fun _ h9 => h9) rfl dX1_goFixed_13 ?_
  obtain ⟨q2, hq2, h⟩ := f_b h
  refine cl_V (w := (hW G Z Y (sJ q1.2 r0 14 (1 : Int64)))) (w' := (hW G Z Y q2.2)) (rv := none) (bytes := cX1_stir) (maxL := 3) (ret := none) (C := RX1) (As := [.long ((sJ q1.2 r0 14 (1 : Int64)).2.1 r0 10)]) (rest := []) (stk := []) ⟨hx, hb, hml, hown, hts⟩ hK hE hA hP hD hS (c_X1_stir l D G Z Y (sJ q1.2 r0 14 (1 : Int64)) r0 hr0 ((sJ q1.2 r0 14 (1 : Int64)).2.1 r0 10) q2 hq2) (cwV 1 hts (gwV wd_901 wd_903 wp_34 wd_7 wd_904) rfl rfl rfl hd_X1_stir ⟨Nat.le_of_ble_eq_true rfl, Nat.le_of_ble_eq_true rfl⟩) (hg_Co G Z Y (sJ q1.2 r0 14 (1 : Int64)) hr0) rfl rfl rfl hl.1 rfl (Nat.le_of_ble_eq_true rfl) dX1_goFixed_16 ⟨Nat.zero_le _, Nat.zero_le _⟩ rfl (fun H locs hP hD hS => ?_)
  refine lv_iconst (v := 0) hx hb dX1_goFixed_19 (by decide) ?_
  refine lv_istore_n (lv' := [(3, .int (0 : Int32)), (0, .ref (G.2.1 r0)), (1, .ref (G.2.1 r1)), (2, .int x2)]) hx hb dX1_goFixed_20 rfl hl (by decide) rfl (fun ls hl => ?_)
  refine W_X1_goFixed_L21 l D G Z Y σ0 F r0 hr0 r1 hr1 x2 res C0 hA _ ?_ F q2.2 (0 : Int32) h _ _ _ hP hD hS (lv_sub hl [1, 2, 0] rfl)
  · intro σ1 h H locs ls hP hD hS hl
    refine lv_aload_n hx hb dX1_goFixed_111 rfl (lv_at hl 0 rfl) ?_
    refine lv_aload_n hx hb dX1_goFixed_112 rfl (lv_at hl 1 rfl) ?_
    obtain ⟨q20, hq20, h⟩ := f_b h
    refine cl_V (w := (hW G Z Y σ1)) (w' := (hW G Z Y q20.2)) (rv := some (.int q20.1)) (bytes := cX1_believesAtEnd) (maxL := 3) (ret := (some .boolean)) (C := RX1) (As := [.ref (G.2.1 r1)]) (rest := []) (stk := [.int q20.1]) ⟨hx, hb, hml, hown, hts⟩ hK hE hA hP hD hS (c_X1_believesAtEnd l D G Z Y σ1 F r0 hr0 r1 hr1 q20 hq20) (cwV 1 hts (gwV wd_922 wd_924 wp_37 wd_7 wd_925) rfl rfl rfl hd_X1_believesAtEnd ⟨Nat.le_of_ble_eq_true rfl, Nat.le_of_ble_eq_true rfl⟩) (hg_Co G Z Y σ1 hr0) rfl rfl rfl hl.1 rfl (Nat.le_of_ble_eq_true rfl) dX1_goFixed_113 ⟨Nat.zero_le _, Nat.zero_le _⟩ rfl (fun H locs hP hD hS => ?_)
    obtain ⟨c21, h⟩ := f_c h
    obtain rfl := Option.some.inj h
    exact W.zret (v := q20.1) hx hb hr (bn c21) (q_end hK hP hD hS) hS.2.2 dX1_goFixed_116
def rmG_X1b (d : Nat) : Room := { frames := 7 + d, cells := 0, slots := 0, locals := 177 + d * 25 }
set_option maxRecDepth 100000 in
set_option maxHeartbeats 8000000 in
theorem W_X1_believedFrom_L63 {p : Program} {e : Env} {s : State} {m : MethodId} {args : Array Value} {below : List Frame} {meth : Method} {c : Code} {A : Nat → Prop} (l : Launch) (D : va_G) (G : hG) (Z : hZ) (Y : va_W) (F : Nat) (d : Nat) (u_X1_believedFrom : (hSt → Nat → Nat → Int32 → Option (Int32 × hSt))) (hu_X1_believedFrom : ∀ (σ0 : hSt) (r0 : Nat) (hr0 : isCo r0 = true) (r1 : Nat) (hr1 : isTa Z r1 = true) (x2 : Int32) (res : (Int32 × hSt)), u_X1_believedFrom σ0 r0 r1 x2 = some res → CT l yX1_believedFrom cX1_believedFrom 6 (some .int) (rmG_X1b d) D G 0 0 [.ref (G.2.1 r0), .ref (G.2.1 r1), .int x2] (hW G Z Y σ0) (hW G Z Y res.2) (some (.int res.1))) (σ0 : hSt) (r0 : Nat) (hr0 : isCo r0 = true) (r1 : Nat) (hr1 : isTa Z r1 = true) (x2 : Int32) (y2 : Int32) (y3 : Int32) (res : (Int32 × hSt)) (C0 : Cx p s m args meth c cX1_believedFrom (some .int) RX1 6 D G A) (hA : ∀ q : Nat, s.heap.size ≤ q → A q) : ∀ (n : Nat) (σ1 : hSt) (z4 : Int32) (z5 : Int32), f_X1_believedFrom_L63 F Z u_X1_believedFrom r0 r1 y2 y3 n σ1 z4 z5 = some res → ∀ (H : Heap) (locs : List Loc) (ls : Array Slot), va_P D vwCl (hW G Z Y σ1) H → va_D A (hW G Z Y σ1) → va_S A s.heap H locs → lv_has ls 6 [(0, .ref (G.2.1 r0)), (1, .ref (G.2.1 r1)), (2, .int y2), (3, .int y3), (4, .int z4), (5, .int z5)] → W p l e (rmG_X1b (d + 1)) s m args below meth c H locs 0 0 (MQ below (Qg (some (.int res.1)) D (tysG G) (hW G Z Y res.2) A) args s 0 0 A) (F0 m 63 ls []) := by
  obtain ⟨hx, hb, hr, hml, hown, hts, hlocks, hK, hE⟩ := id C0
  intro n
  induction n with
  | zero =>
    intro σ1 z4 z5 h
    cases h
  | succ n ih =>
    intro σ1 z4 z5 h H locs ls hP hD hS hl
    rw [f_X1_believedFrom_L63] at h
    refine lv_iload hx hb dX1_believedFrom_63 (lv_at hl 5 rfl) ?_
    refine lv_iload_n hx hb dX1_believedFrom_65 rfl (lv_at hl 3 rfl) ?_
    refine lv_icmp_ge (tgt := 104) hx hb dX1_believedFrom_66 (by decide) (fun c12 => ?_) (fun c12 => ?_)
    · skip
      have h := f_t c12 h
      refine lv_iload hx hb dX1_believedFrom_104 (lv_at hl 4 rfl) ?_
      obtain rfl := Option.some.inj h
      exact W.iret (v := z4) hx hb hr (q_end hK hP hD hS) hS.2.2 dX1_believedFrom_106
    · skip
      have h := f_f c12 h
      refine lv_iload hx hb dX1_believedFrom_69 (lv_at hl 5 rfl) ?_
      refine lv_sipush (v := 2000) hx hb dX1_believedFrom_71 (by decide) ?_
      refine lv_icmp_ge (tgt := 104) hx hb dX1_believedFrom_74 (by decide) (fun c13 => ?_) (fun c13 => ?_)
      · skip
        have h := f_t c13 h
        refine lv_iload hx hb dX1_believedFrom_104 (lv_at hl 4 rfl) ?_
        obtain rfl := Option.some.inj h
        exact W.iret (v := z4) hx hb hr (q_end hK hP hD hS) hS.2.2 dX1_believedFrom_106
      · skip
        have h := f_f c13 h
        refine lv_aload_n hx hb dX1_believedFrom_77 rfl (lv_at hl 0 rfl) ?_
        refine lv_aload_n hx hb dX1_believedFrom_78 rfl (lv_at hl 1 rfl) ?_
        refine lv_iload_n hx hb dX1_believedFrom_79 rfl (lv_at hl 2 rfl) ?_
        refine lv_iload hx hb dX1_believedFrom_80 (lv_at hl 5 rfl) ?_
        obtain ⟨q14, hq14, h⟩ := f_b h
        refine cl_V (w := (hW G Z Y σ1)) (w' := (hW G Z Y q14.2)) (rv := none) (bytes := cX1_moveOn) (maxL := 4) (ret := none) (C := RX1) (As := [.ref (G.2.1 r1), .int y2, .int z5]) (rest := []) (stk := []) ⟨hx, hb, hml, hown, hts⟩ hK hE hA hP hD hS (c_X1_moveOn l D G Z Y σ1 F r0 hr0 r1 hr1 y2 z5 q14 hq14) (cwV 3 hts (gwV wd_917 wd_919 wp_36 wd_7 wd_920) rfl rfl rfl hd_X1_moveOn ⟨by show 4 + 1 ≤ 7 + (d + 1); omega, by show 8 + (4 + 11) + 106 ≤ 177 + (d + 1) * 25; omega⟩) (hg_Co G Z Y σ1 hr0) rfl rfl rfl hl.1 rfl (Nat.le_of_ble_eq_true rfl) dX1_believedFrom_82 ⟨Nat.zero_le _, Nat.zero_le _⟩ rfl (fun H locs hP hD hS => ?_)
        refine lv_iload hx hb dX1_believedFrom_85 (lv_at hl 4 rfl) ?_
        refine lv_aload_n hx hb dX1_believedFrom_87 rfl (lv_at hl 0 rfl) ?_
        refine lv_aload_n hx hb dX1_believedFrom_88 rfl (lv_at hl 1 rfl) ?_
        refine lv_iload_n hx hb dX1_believedFrom_89 rfl (lv_at hl 2 rfl) ?_
        refine lv_iconst (v := 1) hx hb dX1_believedFrom_90 (by decide) ?_
        refine lv_iadd hx hb dX1_believedFrom_91 ?_
        obtain ⟨q15, hq15, h⟩ := f_b h
        refine cl_V (w := (hW G Z Y q14.2)) (w' := (hW G Z Y q15.2)) (rv := some (.int q15.1)) (bytes := cX1_believedFrom) (maxL := 6) (ret := (some .int)) (C := RX1) (As := [.ref (G.2.1 r1), .int (y2 + (1 : Int32))]) (rest := [.int z4]) (stk := [.int q15.1, .int z4]) ⟨hx, hb, hml, hown, hts⟩ hK hE hA hP hD hS (hu_X1_believedFrom q14.2 r0 hr0 r1 hr1 (y2 + (1 : Int32)) q15 hq15) (cwV 2 hts (gwV wd_977 wd_975 wp_38 wd_7 wd_976) rfl rfl rfl hd_X1_believedFrom ⟨by show 7 + d + 1 ≤ 7 + (d + 1); omega, by show 8 + (6 + 11) + (177 + d * 25) ≤ 177 + (d + 1) * 25; omega⟩) (hg_Co G Z Y q14.2 hr0) rfl rfl rfl hl.1 rfl (Nat.le_of_ble_eq_true rfl) dX1_believedFrom_92 ⟨Nat.zero_le _, Nat.zero_le _⟩ rfl (fun H locs hP hD hS => ?_)
        refine lv_iadd hx hb dX1_believedFrom_95 ?_
        refine lv_istore (lv' := [(4, .int (z4 + q15.1)), (0, .ref (G.2.1 r0)), (1, .ref (G.2.1 r1)), (2, .int y2), (3, .int y3), (5, .int z5)]) hx hb dX1_believedFrom_96 hl (by decide) rfl (fun ls hl => ?_)
        refine lv_iinc (v := (z5 + 1)) (lv' := [(5, .int (z5 + 1)), (4, .int (z4 + q15.1)), (0, .ref (G.2.1 r0)), (1, .ref (G.2.1 r1)), (2, .int y2), (3, .int y3)]) hx hb dX1_believedFrom_98 hl (k := 5) rfl rfl (by decide) rfl (fun ls hl => ?_)
        refine lv_goto (tgt := 63) hx hb dX1_believedFrom_101 (by decide) ?_
        exact ih q15.2 (z4 + q15.1) (z5 + 1) h _ _ _ hP hD hS (lv_sub hl [2, 3, 4, 5, 1, 0] rfl)
set_option maxRecDepth 100000 in
set_option maxHeartbeats 8000000 in
theorem o_X1_believedFrom (l : Launch) (D : va_G) (G : hG) (Z : hZ) (Y : va_W) (F : Nat) (d : Nat) (u_X1_believedFrom : (hSt → Nat → Nat → Int32 → Option (Int32 × hSt))) (hu_X1_believedFrom : ∀ (σ0 : hSt) (r0 : Nat) (hr0 : isCo r0 = true) (r1 : Nat) (hr1 : isTa Z r1 = true) (x2 : Int32) (res : (Int32 × hSt)), u_X1_believedFrom σ0 r0 r1 x2 = some res → CT l yX1_believedFrom cX1_believedFrom 6 (some .int) (rmG_X1b d) D G 0 0 [.ref (G.2.1 r0), .ref (G.2.1 r1), .int x2] (hW G Z Y σ0) (hW G Z Y res.2) (some (.int res.1))) (σ0 : hSt) (r0 : Nat) (hr0 : isCo r0 = true) (r1 : Nat) (hr1 : isTa Z r1 = true) (x2 : Int32) (res : (Int32 × hSt)) (h : b_X1_believedFrom F Z u_X1_believedFrom σ0 r0 r1 x2 = some res) : CT l yX1_believedFrom cX1_believedFrom 6 (some .int) (rmG_X1b (d + 1)) D G 0 0 [.ref (G.2.1 r0), .ref (G.2.1 r1), .int x2] (hW G Z Y σ0) (hW G Z Y res.2) (some (.int res.1)) := by
  unfold b_X1_believedFrom at h
  refine CT.mk (cc := cX1_believedFrom) (maxL := 6) (ret := (some .int)) (own := RX1) (plainFor_of_name (by decide)) rfl (Nat.le_of_ble_eq_true rfl) ?_
  intro p e s m args below meth c A ls C0 hnm hA hP hD hl
  obtain ⟨hx, hb, hr, hml, hown, hts, hlocks, hK, hE⟩ := id C0
  have hS : va_S A s.heap s.heap [] := va_S.rf
  have hl : lv_has ls 6 [(0, .ref (G.2.1 r0)), (1, .ref (G.2.1 r1)), (2, .int x2)] := hl
  refine lv_iload_n hx hb dX1_believedFrom_0 rfl (lv_at hl 2 rfl) ?_
  refine lv_aload_n hx hb dX1_believedFrom_1 rfl (lv_at hl 1 rfl) ?_
  obtain ⟨qq1, hq1⟩ := hg_Ta G Z Y σ0 hr1
  refine va_getN (D := D) (ci := 7) (v := va_rf (((Z.2.2.2 r1 0)).map G.2.1)) (C := RX7) (T := TX7) (N := 4) hx hb hts inU_X7 hown hK hP _ hq1 rfl 0 (by decide) (nF_use 19 hE rfl) (fun _ h9 => h9) rfl dX1_believedFrom_2 ?_
  rcases f_o h with ⟨ho, h⟩ | ⟨r2, ho, h⟩
  · rw [ho]
    cases h
  · rw [ho]
    obtain ⟨hr2, h⟩ := f_c h
    obtain ⟨qq3, hq3⟩ := hg_Sa G Z Y σ0 hr2
    refine va_getN (D := D) (ci := 5) (v := .int (Z.2.2.1 r2 2)) (C := RX4) (T := TX4) (N := 5) hx hb hts inU_X4 hown hK hP _ hq3 rfl 2 (by decide) (nF_use 11 hE rfl) (fun _ h9 => h9) rfl dX1_believedFrom_5 ?_
    refine lv_icmp_ge (tgt := 17) hx hb dX1_believedFrom_8 (by decide) (fun c4 => ?_) (fun c4 => ?_)
    · skip
      have h := f_t c4 h
      refine lv_aload_n hx hb dX1_believedFrom_17 rfl (lv_at hl 0 rfl) ?_
      refine lv_aload_n hx hb dX1_believedFrom_18 rfl (lv_at hl 1 rfl) ?_
      obtain ⟨q5, hq5, h⟩ := f_b h
      refine cl_V (w := (hW G Z Y σ0)) (w' := (hW G Z Y q5.2)) (rv := some (.int q5.1)) (bytes := cX1_believesAtEnd) (maxL := 3) (ret := (some .boolean)) (C := RX1) (As := [.ref (G.2.1 r1)]) (rest := []) (stk := [.int q5.1]) ⟨hx, hb, hml, hown, hts⟩ hK hE hA hP hD hS (c_X1_believesAtEnd l D G Z Y σ0 F r0 hr0 r1 hr1 q5 hq5) (cwV 1 hts (gwV wd_922 wd_924 wp_37 wd_7 wd_925) rfl rfl rfl hd_X1_believesAtEnd ⟨by show 6 + 1 ≤ 7 + (d + 1); omega, by show 8 + (3 + 11) + 152 ≤ 177 + (d + 1) * 25; omega⟩) (hg_Co G Z Y σ0 hr0) rfl rfl rfl hl.1 rfl (Nat.le_of_ble_eq_true rfl) dX1_believedFrom_19 ⟨Nat.zero_le _, Nat.zero_le _⟩ rfl (fun H locs hP hD hS => ?_)
      refine lv_if_eq (tgt := 29) hx hb dX1_believedFrom_22 (by decide) (fun c6 => ?_) (fun c6 => ?_)
      · skip
        have h := f_t c6 h
        refine lv_iconst (v := 0) hx hb dX1_believedFrom_29 (by decide) ?_
        obtain rfl := Option.some.inj h
        exact W.iret (v := (0 : Int32)) hx hb hr (q_end hK hP hD hS) hS.2.2 dX1_believedFrom_30
      · skip
        have h := f_f c6 h
        refine lv_iconst (v := 1) hx hb dX1_believedFrom_25 (by decide) ?_
        refine lv_goto (tgt := 30) hx hb dX1_believedFrom_26 (by decide) ?_
        obtain rfl := Option.some.inj h
        exact W.iret (v := (1 : Int32)) hx hb hr (q_end hK hP hD hS) hS.2.2 dX1_believedFrom_30
    · skip
      have h := f_f c4 h
      refine lv_iload_n hx hb dX1_believedFrom_11 rfl (lv_at hl 2 rfl) ?_
      refine lv_bipush (v := 6) hx hb dX1_believedFrom_12 (by decide) ?_
      refine lv_icmp_lt (tgt := 31) hx hb dX1_believedFrom_14 (by decide) (fun c7 => ?_) (fun c7 => ?_)
      · skip
        have h := f_t c7 h
        refine lv_aload_n hx hb dX1_believedFrom_31 rfl (lv_at hl 0 rfl) ?_
        refine lv_aload_n hx hb dX1_believedFrom_32 rfl (lv_at hl 1 rfl) ?_
        refine lv_iload_n hx hb dX1_believedFrom_33 rfl (lv_at hl 2 rfl) ?_
        obtain ⟨q8, hq8, h⟩ := f_b h
        refine cl_V (w := (hW G Z Y σ0)) (w' := (hW G Z Y q8.2)) (rv := none) (bytes := cX1_sayCurve) (maxL := 5) (ret := none) (C := RX1) (As := [.ref (G.2.1 r1), .int x2]) (rest := []) (stk := []) ⟨hx, hb, hml, hown, hts⟩ hK hE hA hP hD hS (c_X1_sayCurve l D G Z Y σ0 F r0 hr0 r1 hr1 x2 q8 hq8) (cwV 2 hts (gwV wd_853 wd_855 wp_26 wd_7 wd_856) rfl rfl rfl hd_X1_sayCurve ⟨by show 5 + 1 ≤ 7 + (d + 1); omega, by show 8 + (5 + 11) + 132 ≤ 177 + (d + 1) * 25; omega⟩) (hg_Co G Z Y σ0 hr0) rfl rfl rfl hl.1 rfl (Nat.le_of_ble_eq_true rfl) dX1_believedFrom_34 ⟨Nat.zero_le _, Nat.zero_le _⟩ rfl (fun H locs hP hD hS => ?_)
        refine lv_aload_n hx hb dX1_believedFrom_37 rfl (lv_at hl 0 rfl) ?_
        refine lv_aload_n hx hb dX1_believedFrom_38 rfl (lv_at hl 1 rfl) ?_
        refine lv_iload_n hx hb dX1_believedFrom_39 rfl (lv_at hl 2 rfl) ?_
        obtain ⟨q9, hq9, h⟩ := f_b h
        refine cl_V (w := (hW G Z Y q8.2)) (w' := (hW G Z Y q9.2)) (rv := some (.int q9.1)) (bytes := cX1_agrees) (maxL := 5) (ret := (some .boolean)) (C := RX1) (As := [.ref (G.2.1 r1), .int x2]) (rest := []) (stk := [.int q9.1]) ⟨hx, hb, hml, hown, hts⟩ hK hE hA hP hD hS (c_X1_agrees l D G Z Y q8.2 F r0 hr0 r1 hr1 x2 q9 hq9) (cwV 2 hts (gwV wd_874 wd_876 wp_30 wd_7 wd_877) rfl rfl rfl hd_X1_agrees ⟨by show 6 + 1 ≤ 7 + (d + 1); omega, by show 8 + (5 + 11) + 153 ≤ 177 + (d + 1) * 25; omega⟩) (hg_Co G Z Y q8.2 hr0) rfl rfl rfl hl.1 rfl (Nat.le_of_ble_eq_true rfl) dX1_believedFrom_40 ⟨Nat.zero_le _, Nat.zero_le _⟩ rfl (fun H locs hP hD hS => ?_)
        refine lv_if_ne (tgt := 48) hx hb dX1_believedFrom_43 (by decide) (fun c10 => ?_) (fun c10 => ?_)
        · skip
          have h := f_f c10 h
          refine lv_aload_n hx hb dX1_believedFrom_48 rfl (lv_at hl 0 rfl) ?_
          refine va_get (D := D) (ci := 2) (v := .ref (G.2.1 12)) (C := RX1) (T := TX1) (N := 15) hx hb hts inU_X1 hown hK hP _ (hg_Co G Z Y q9.2 hr0) rfl 1 (by decide) (hts _ wd_159) (fun _ h9 => h9) rfl dX1_believedFrom_49 ?_
          refine lv_iload_n hx hb dX1_believedFrom_52 rfl (lv_at hl 2 rfl) ?_
          obtain ⟨q11, hq11, h⟩ := f_b h
          refine cl_V (w := (hW G Z Y q9.2)) (w' := (hW G Z Y q11.2)) (rv := some (.int q11.1)) (bytes := cX0_dice) (maxL := 2) (ret := (some .int)) (C := RX0) (As := [.int x2]) (rest := []) (stk := [.int q11.1]) ⟨hx, hb, hml, hown, hts⟩ hK hE hA hP hD hS (c_X0_dice l D G Z Y q9.2 F x2 q11 hq11) (cwV 1 hts (gwV wd_907 wd_908 wd_909 wd_6 wd_910) rfl rfl rfl hd_X0_dice ⟨by show 5 + 1 ≤ 7 + (d + 1); omega, by show 8 + (2 + 11) + 132 ≤ 177 + (d + 1) * 25; omega⟩) (hg_12 G Z Y q9.2) rfl rfl rfl hl.1 rfl (Nat.le_of_ble_eq_true rfl) dX1_believedFrom_53 ⟨Nat.zero_le _, Nat.zero_le _⟩ rfl (fun H locs hP hD hS => ?_)
          refine lv_istore_n (lv' := [(3, .int q11.1), (0, .ref (G.2.1 r0)), (1, .ref (G.2.1 r1)), (2, .int x2)]) hx hb dX1_believedFrom_56 rfl hl (by decide) rfl (fun ls hl => ?_)
          refine lv_iconst (v := 0) hx hb dX1_believedFrom_57 (by decide) ?_
          refine lv_istore (lv' := [(4, .int (0 : Int32)), (3, .int q11.1), (0, .ref (G.2.1 r0)), (1, .ref (G.2.1 r1)), (2, .int x2)]) hx hb dX1_believedFrom_58 hl (by decide) rfl (fun ls hl => ?_)
          refine lv_iconst (v := 0) hx hb dX1_believedFrom_60 (by decide) ?_
          refine lv_istore (lv' := [(5, .int (0 : Int32)), (4, .int (0 : Int32)), (3, .int q11.1), (0, .ref (G.2.1 r0)), (1, .ref (G.2.1 r1)), (2, .int x2)]) hx hb dX1_believedFrom_61 hl (by decide) rfl (fun ls hl => ?_)
          refine W_X1_believedFrom_L63 l D G Z Y F d u_X1_believedFrom hu_X1_believedFrom σ0 r0 hr0 r1 hr1 x2 x2 q11.1 res C0 hA F q11.2 (0 : Int32) (0 : Int32) h _ _ _ hP hD hS (lv_sub hl [3, 4, 5, 2, 1, 0] rfl)
        · skip
          have h := f_t c10 h
          refine lv_iconst (v := 0) hx hb dX1_believedFrom_46 (by decide) ?_
          obtain rfl := Option.some.inj h
          exact W.iret (v := (0 : Int32)) hx hb hr (q_end hK hP hD hS) hS.2.2 dX1_believedFrom_47
      · skip
        have h := f_f c7 h
        refine lv_aload_n hx hb dX1_believedFrom_17 rfl (lv_at hl 0 rfl) ?_
        refine lv_aload_n hx hb dX1_believedFrom_18 rfl (lv_at hl 1 rfl) ?_
        obtain ⟨q16, hq16, h⟩ := f_b h
        refine cl_V (w := (hW G Z Y σ0)) (w' := (hW G Z Y q16.2)) (rv := some (.int q16.1)) (bytes := cX1_believesAtEnd) (maxL := 3) (ret := (some .boolean)) (C := RX1) (As := [.ref (G.2.1 r1)]) (rest := []) (stk := [.int q16.1]) ⟨hx, hb, hml, hown, hts⟩ hK hE hA hP hD hS (c_X1_believesAtEnd l D G Z Y σ0 F r0 hr0 r1 hr1 q16 hq16) (cwV 1 hts (gwV wd_922 wd_924 wp_37 wd_7 wd_925) rfl rfl rfl hd_X1_believesAtEnd ⟨by show 6 + 1 ≤ 7 + (d + 1); omega, by show 8 + (3 + 11) + 152 ≤ 177 + (d + 1) * 25; omega⟩) (hg_Co G Z Y σ0 hr0) rfl rfl rfl hl.1 rfl (Nat.le_of_ble_eq_true rfl) dX1_believedFrom_19 ⟨Nat.zero_le _, Nat.zero_le _⟩ rfl (fun H locs hP hD hS => ?_)
        refine lv_if_eq (tgt := 29) hx hb dX1_believedFrom_22 (by decide) (fun c17 => ?_) (fun c17 => ?_)
        · skip
          have h := f_t c17 h
          refine lv_iconst (v := 0) hx hb dX1_believedFrom_29 (by decide) ?_
          obtain rfl := Option.some.inj h
          exact W.iret (v := (0 : Int32)) hx hb hr (q_end hK hP hD hS) hS.2.2 dX1_believedFrom_30
        · skip
          have h := f_f c17 h
          refine lv_iconst (v := 1) hx hb dX1_believedFrom_25 (by decide) ?_
          refine lv_goto (tgt := 30) hx hb dX1_believedFrom_26 (by decide) ?_
          obtain rfl := Option.some.inj h
          exact W.iret (v := (1 : Int32)) hx hb hr (q_end hK hP hD hS) hS.2.2 dX1_believedFrom_30
set_option maxRecDepth 100000 in
set_option maxHeartbeats 8000000 in
theorem c_G_X1b (l : Launch) (D : va_G) (G : hG) (Z : hZ) (Y : va_W) (F : Nat) : ∀ d : Nat, (∀ (σ0 : hSt) (r0 : Nat) (hr0 : isCo r0 = true) (r1 : Nat) (hr1 : isTa Z r1 = true) (x2 : Int32) (res : (Int32 × hSt)), (G_X1b F Z d) σ0 r0 r1 x2 = some res → CT l yX1_believedFrom cX1_believedFrom 6 (some .int) (rmG_X1b d) D G 0 0 [.ref (G.2.1 r0), .ref (G.2.1 r1), .int x2] (hW G Z Y σ0) (hW G Z Y res.2) (some (.int res.1))) := by
  intro d
  induction d with
  | zero =>
    exact fun σ0 r0 hr0 r1 hr1 x2 res h => by
        have h1 : (none : Option (Int32 × hSt)) = some res := h
        cases h1
  | succ d ih =>
    have i_X1_believedFrom := ih
    exact fun σ0 r0 hr0 r1 hr1 x2 res h => o_X1_believedFrom l D G Z Y F d _ i_X1_believedFrom σ0 r0 hr0 r1 hr1 x2 res h
abbrev rm_X1_believedFrom : Room := rmG_X1b 8
theorem c_X1_believedFrom (l : Launch) (D : va_G) (G : hG) (Z : hZ) (Y : va_W) (σ0 : hSt) (F : Nat) (r0 : Nat) (hr0 : isCo r0 = true) (r1 : Nat) (hr1 : isTa Z r1 = true) (x2 : Int32) (res : (Int32 × hSt)) (h : f_X1_believedFrom F Z σ0 r0 r1 x2 = some res) : CT l yX1_believedFrom cX1_believedFrom 6 (some .int) rm_X1_believedFrom D G 0 0 [.ref (G.2.1 r0), .ref (G.2.1 r1), .int x2] (hW G Z Y σ0) (hW G Z Y res.2) (some (.int res.1)) := (c_G_X1b l D G Z Y F 8) σ0 r0 hr0 r1 hr1 x2 res h
