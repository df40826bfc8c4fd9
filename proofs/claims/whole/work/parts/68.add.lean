/-! ArrayList.add -/
section
variable {p : Program} {l : Launch} {e : Env} {R : Room} {s : State} {m : MethodId} {args : Array Value} {below : List Frame} {meth : Method} {c_ : Code} {H : Heap} {locs : List Loc} {cells slots : Nat} {Q : State → Prop} {cc : ByteArray} {pc : Nat} {ls : Array Slot} {rest : List Value} {A : Nat → Prop} {D : va_G} {G : hG}
theorem gw_len {hL E c ci n' : Nat} {md : Int32} {X : va_W} {f' : Nat → Option Nat} (hx : p.tables.exec = Jvm.exec) (hb : c_.code = cc) (hK : va_K D vwCl (tysG G) s) (hE : sE G A s s.heap) (hP : va_P D vwCl ((hL, lE md E c) :: X) H) (hS : va_S A s.heap H locs) (hX : gwR G E c X ci n' f') (hdg : decode cc pc = .ok (.arraylength, 1))
    (k : W p l e R s m args below meth c_ H locs cells slots Q (F0 m (pc + 1) ls (.int (i32 (c : Int)) :: rest))) : W p l e R s m args below meth c_ H locs cells slots Q (F0 m pc ls (.ref E :: rest)) := by
  rcases hX with ⟨B, f, rfl, hR, h1, h2, rfl, rfl⟩ | ⟨rfl, rfl, rfl, rfl⟩
  · exact va_alen (ty := .object "java/lang/Object") (v := i32 (c : Int)) hx hb hK hP 1 3 rfl rfl (i32_nat c) hdg k
  · exact va_tlen (v := (0 : Int32)) hx hb hE.2.2.2.1 hS rfl hdg k
end
abbrev rm_aP : Room := { frames := 5, cells := 1, slots := 40, locals := 220 }
set_option maxRecDepth 100000 in
set_option maxHeartbeats 8000000 in
theorem e_addP (l : Launch) (D : va_G) (G : hG) (hL E c v : Nat) (md : Int32) (X : va_W) (ci cj kv n' : Nat) (f' : Nat → Option Nat) (vs : List Value) (qc : vw_C) (hc : vwCl[ci]? = some qc) (hj : castL[cj]? = some (qc.1, "java/lang/Object")) (hX : gwR G E c X ci n' f') (hv : X[kv]? = some (v, .inr (ci, vs))) : CE l yJx4a65c_add_72be8 cJx4a65c_add_72be8 4 none rm_aP D G 1 40 [.ref hL, .ref v, .ref E, .int (i32 (c : Int))] ((hL, lE md E c) :: X) (fun q => (q 0, rE G n' (va_up f' c (some v))) :: (hL, lE md (q 0) (c + 1)) :: X) (fun _ => none) := by
  refine CE.mk (cc := cJx4a65c_add_72be8) (maxL := 4) (ret := none) (own := RJx4a65c) (plainFor_of_name (by decide)) rfl (Nat.le_of_ble_eq_true rfl) ?_
  intro p e s m args below meth c_ A ls C0 _ hA hP hD hl
  obtain ⟨hx, hb, hr, hml, hown, hts, hlocks, hK, hE⟩ := id C0
  have hS : va_S A s.heap s.heap [] := va_S.rf
  have hl : lv_has ls 4 [(0, .ref hL), (1, .ref v), (2, .ref E), (3, .int (i32 (c : Int)))] := hl
  have hcc := hX.c
  refine lv_iload_n hx hb dJx4a65c_add_72be8_0 rfl (lv_at hl 3 rfl) ?_
  refine lv_aload_n hx hb dJx4a65c_add_72be8_1 rfl (lv_at hl 2 rfl) ?_
  refine gw_len hx hb hK hE hP hS hX dJx4a65c_add_72be8_2 ?_
  refine lv_icmp_ne (tgt := 11) hx hb dJx4a65c_add_72be8_3 (by decide) (fun c1 => absurd rfl c1) (fun _ => ?_)
  refine lv_aload_n hx hb dJx4a65c_add_72be8_6 rfl (lv_at hl 0 rfl) ?_
  refine cl_VE (C := RJx4a65c) (w := (hL, lE md E c) :: X) (As := []) (rest := []) (stk := fun q => [.ref (q 0)]) ⟨hx, hb, hml, hown, hts⟩ hK hE hA hP hD hS (e_grow0 l D G hL E c md X ci cj n' f' qc hc hj hX) (cwV 0 hts (gwV wd_608 wd_610 wp_17 wd_10 wd_611) rfl rfl rfl hd_Jx4a65c_grow_d5877 ⟨Nat.le_of_ble_eq_true rfl, Nat.le_of_ble_eq_true rfl⟩) (q0 := 0) rfl rfl rfl rfl hl.1 rfl (Nat.le_of_ble_eq_true rfl) dJx4a65c_add_72be8_7 ⟨Nat.le_of_ble_eq_true rfl, Nat.le_of_ble_eq_true rfl⟩ (fun _ => rfl) (fun q H locs hP hD hS => ?_)
  refine lv_astore_n (lv' := [(2, .ref (q 0)), (0, .ref hL), (1, .ref v), (3, .int (i32 (c : Int)))]) hx hb dJx4a65c_add_72be8_10 rfl hl (by decide) rfl (fun ls hl => ?_)
  refine lv_aload_n hx hb dJx4a65c_add_72be8_11 rfl (lv_at hl 0 rfl) ?_
  refine lv_iload_n hx hb dJx4a65c_add_72be8_12 rfl (lv_at hl 3 rfl) ?_
  refine lv_aload_n hx hb dJx4a65c_add_72be8_13 rfl (lv_at hl 2 rfl) ?_
  refine va_astqO hx hb hK hP hD hS 0 3 (kv + 2) ci (E := "java/lang/Object") rfl rfl (hE.2.2.2.2.2.2.2.2.2.1 _ (List.mem_of_getElem? hj)) hv hc (vin (by omega) (by omega) (by omega)) dJx4a65c_add_72be8_14 (fun H locs hP hD hS => ?_)
  rw [i32_cn (show c ≤ 2147483647 by omega)] at hP hD
  refine lv_aload_n hx hb dJx4a65c_add_72be8_15 rfl (lv_at hl 1 rfl) ?_
  refine lv_iload_n hx hb dJx4a65c_add_72be8_16 rfl (lv_at hl 3 rfl) ?_
  refine lv_iconst (v := (1 : Int32)) hx hb dJx4a65c_add_72be8_17 (by decide) ?_
  refine lv_iadd hx hb dJx4a65c_add_72be8_18 ?_
  have e1 : i32 (c : Int) + 1 = i32 ((c + 1 : Nat) : Int) := by rw [show (1 : Int32) = i32 1 from rfl, i32_add]; rfl
  rw [e1]
  refine va_put (D := D) (ci := 0) (v := (.int (i32 ((c + 1 : Nat) : Int)))) (ty := .int) (C := RJx4a65c) (T := TJx4a65c) (N := 3) hx hb hts inU_Jx4a65c tyJx4a65c tyJx4a65c_ok nmJx4a65c hown hK hP hD hS 1 rfl rfl 2 (by decide) (hts _ wd_224) (fun _ h9 => h9) rfl (by decide +kernel) rfl rfl (Nat.le_of_ble_eq_true rfl) dJx4a65c_add_72be8_19 (fun H locs hP hD hS => ?_)
  exact W.vret hx hb hr (q_endE (W' := fun q => (q 0, rE G n' (va_up f' c (some v))) :: (hL, lE md (q 0) (c + 1)) :: X) (rv := fun _ => none) q hK hP hD hS) hS.2.2 dJx4a65c_add_72be8_22
set_option maxRecDepth 100000 in
set_option maxHeartbeats 8000000 in
theorem e_addPN (l : Launch) (D : va_G) (G : hG) (hL E c v : Nat) (md : Int32) (B : va_W) (ci cj kv n : Nat) (f : Nat → Option Nat) (vs : List Value) (qc : vw_C) (hc : vwCl[ci]? = some qc) (hj : castL[cj]? = some (qc.1, "java/lang/Object")) (hcn : c < n) (hn : n ≤ 40) (hv : B[kv]? = some (v, .inr (ci, vs))) : CE l yJx4a65c_add_72be8 cJx4a65c_add_72be8 4 none rm_aP D G 1 40 [.ref hL, .ref v, .ref E, .int (i32 (c : Int))] ((hL, lE md E c) :: (E, rE G n f) :: B) (fun _ => (hL, lE md E (c + 1)) :: (E, rE G n (va_up f c (some v))) :: B) (fun _ => none) := by
  refine CE.mk (cc := cJx4a65c_add_72be8) (maxL := 4) (ret := none) (own := RJx4a65c) (plainFor_of_name (by decide)) rfl (Nat.le_of_ble_eq_true rfl) ?_
  intro p e s m args below meth c_ A ls C0 _ hA hP hD hl
  obtain ⟨hx, hb, hr, hml, hown, hts, hlocks, hK, hE⟩ := id C0
  have hS : va_S A s.heap s.heap [] := va_S.rf
  have hl : lv_has ls 4 [(0, .ref hL), (1, .ref v), (2, .ref E), (3, .int (i32 (c : Int)))] := hl
  refine lv_iload_n hx hb dJx4a65c_add_72be8_0 rfl (lv_at hl 3 rfl) ?_
  refine lv_aload_n hx hb dJx4a65c_add_72be8_1 rfl (lv_at hl 2 rfl) ?_
  refine va_alen (ty := .object "java/lang/Object") (v := i32 (n : Int)) hx hb hK hP 1 3 rfl rfl (i32_nat n) dJx4a65c_add_72be8_2 ?_
  refine lv_icmp_ne (tgt := 11) hx hb dJx4a65c_add_72be8_3 (by decide) (fun _ => ?_) (fun c1 => absurd ((eqI (by omega)).mp c1) (by omega))
  refine lv_aload_n hx hb dJx4a65c_add_72be8_11 rfl (lv_at hl 2 rfl) ?_
  refine lv_iload_n hx hb dJx4a65c_add_72be8_12 rfl (lv_at hl 3 rfl) ?_
  refine lv_aload_n hx hb dJx4a65c_add_72be8_13 rfl (lv_at hl 1 rfl) ?_
  refine va_astqO hx hb hK hP hD hS 1 3 (kv + 2) ci (E := "java/lang/Object") rfl rfl (hE.2.2.2.2.2.2.2.2.2.1 _ (List.mem_of_getElem? hj)) hv hc (vin (by omega) (by omega) (by omega)) dJx4a65c_add_72be8_14 (fun H locs hP hD hS => ?_)
  rw [i32_cn (show c ≤ 2147483647 by omega)] at hP hD
  refine lv_aload_n hx hb dJx4a65c_add_72be8_15 rfl (lv_at hl 0 rfl) ?_
  refine lv_iload_n hx hb dJx4a65c_add_72be8_16 rfl (lv_at hl 3 rfl) ?_
  refine lv_iconst (v := (1 : Int32)) hx hb dJx4a65c_add_72be8_17 (by decide) ?_
  refine lv_iadd hx hb dJx4a65c_add_72be8_18 ?_
  have e1 : i32 (c : Int) + 1 = i32 ((c + 1 : Nat) : Int) := by rw [show (1 : Int32) = i32 1 from rfl, i32_add]; rfl
  rw [e1]
  refine va_put (D := D) (ci := 0) (v := (.int (i32 ((c + 1 : Nat) : Int)))) (ty := .int) (C := RJx4a65c) (T := TJx4a65c) (N := 3) hx hb hts inU_Jx4a65c tyJx4a65c tyJx4a65c_ok nmJx4a65c hown hK hP hD hS 0 rfl rfl 2 (by decide) (hts _ wd_224) (fun _ h9 => h9) rfl (by decide +kernel) rfl rfl (Nat.le_of_ble_eq_true rfl) dJx4a65c_add_72be8_19 (fun H locs hP hD hS => ?_)
  refine W.widen (k := 1) (n := 40) (Nat.le_of_ble_eq_true rfl) (Nat.le_of_ble_eq_true rfl) ?_
  exact W.vret hx hb hr (q_endE (W' := fun _ => (hL, lE md E (c + 1)) :: (E, rE G n (va_up f c (some v))) :: B) (rv := fun _ => none) (fun _ => 0) hK hP hD hS) hS.2.2 dJx4a65c_add_72be8_22
abbrev rm_aG : Room := { frames := 6, cells := 1, slots := 40, locals := 260 }
set_option maxRecDepth 100000 in
set_option maxHeartbeats 8000000 in
theorem e_add (l : Launch) (D : va_G) (G : hG) (hL E c v : Nat) (md : Int32) (X : va_W) (ci cj kv n' : Nat) (f' : Nat → Option Nat) (vs : List Value) (qc : vw_C) (hc : vwCl[ci]? = some qc) (hj : castL[cj]? = some (qc.1, "java/lang/Object")) (hX : gwR G E c X ci n' f') (hv : X[kv]? = some (v, .inr (ci, vs))) : CE l yJx4a65c_add_9ea2d cJx4a65c_add_9ea2d 2 (some .boolean) rm_aG D G 1 40 [.ref hL, .ref v] ((hL, lE md E c) :: X) (fun q => (q 0, rE G n' (va_up f' c (some v))) :: (hL, lE (md + 1) (q 0) (c + 1)) :: X) (fun _ => some (.int 1)) := by
  refine CE.mk (cc := cJx4a65c_add_9ea2d) (maxL := 2) (ret := some .boolean) (own := RJx4a65c) (plainFor_of_name (by decide)) rfl (Nat.le_of_ble_eq_true rfl) ?_
  intro p e s m args below meth c_ A ls C0 _ hA hP hD hl
  obtain ⟨hx, hb, hr, hml, hown, hts, hlocks, hK, hE⟩ := id C0
  have hS : va_S A s.heap s.heap [] := va_S.rf
  have hl : lv_has ls 2 [(0, .ref hL), (1, .ref v)] := hl
  refine lv_aload_n hx hb dJx4a65c_add_9ea2d_0 rfl (lv_at hl 0 rfl) ?_
  refine lv_dup hx hb dJx4a65c_add_9ea2d_1 rfl ?_
  refine va_get (D := D) (ci := 0) (v := .int md) (C := RJx4a65c) (T := TJx4a65c) (N := 3) hx hb hts inU_Jx4a65c hown hK hP 0 rfl rfl 0 (by decide) (hts _ wd_226) (fun x9 h9 => u_same (hts _ (mem_hU (t_in1 (List.mem_of_getElem? (i := 227) (by decide +kernel))) (by decide +kernel))) x9 h9) rfl dJx4a65c_add_9ea2d_2 ?_
  refine lv_iconst (v := (1 : Int32)) hx hb dJx4a65c_add_9ea2d_5 (by decide) ?_
  refine lv_iadd hx hb dJx4a65c_add_9ea2d_6 ?_
  refine va_put (D := D) (ci := 0) (v := (.int (md + 1))) (ty := .int) (C := RJx4a65c) (T := TJx4a65c) (N := 3) hx hb hts inU_Jx4a65c tyJx4a65c tyJx4a65c_ok nmJx4a65c hown hK hP hD hS 0 rfl rfl 0 (by decide) (hts _ wd_226) (fun x9 h9 => u_same (hts _ (mem_hU (t_in1 (List.mem_of_getElem? (i := 227) (by decide +kernel))) (by decide +kernel))) x9 h9) rfl (by decide +kernel) rfl rfl (Nat.le_of_ble_eq_true rfl) dJx4a65c_add_9ea2d_7 (fun H locs hP hD hS => ?_)
  refine lv_aload_n hx hb dJx4a65c_add_9ea2d_10 rfl (lv_at hl 0 rfl) ?_
  refine lv_aload_n hx hb dJx4a65c_add_9ea2d_11 rfl (lv_at hl 1 rfl) ?_
  refine lv_aload_n hx hb dJx4a65c_add_9ea2d_12 rfl (lv_at hl 0 rfl) ?_
  refine va_get (D := D) (ci := 0) (v := .ref E) (C := RJx4a65c) (T := TJx4a65c) (N := 3) hx hb hts inU_Jx4a65c hown hK hP 0 rfl rfl 1 (by decide) (hts _ wd_223) (fun _ h9 => h9) rfl dJx4a65c_add_9ea2d_13 ?_
  refine lv_aload_n hx hb dJx4a65c_add_9ea2d_16 rfl (lv_at hl 0 rfl) ?_
  refine va_get (D := D) (ci := 0) (v := .int (i32 (c : Int))) (C := RJx4a65c) (T := TJx4a65c) (N := 3) hx hb hts inU_Jx4a65c hown hK hP 0 rfl rfl 2 (by decide) (hts _ wd_224) (fun _ h9 => h9) rfl dJx4a65c_add_9ea2d_17 ?_
  refine cl_VE (C := RJx4a65c) (w := (hL, lE (md + 1) E c) :: X) (As := [.ref v, .ref E, .int (i32 (c : Int))]) (rest := []) (stk := fun _ => []) ⟨hx, hb, hml, hown, hts⟩ hK hE hA hP hD hS (e_addP l D G hL E c v (md + 1) X ci cj kv n' f' vs qc hc hj hX hv) (cwV 3 hts (gwV wd_604 wd_606 wp_16 wd_10 wd_607) rfl rfl rfl hd_Jx4a65c_add_72be8 ⟨Nat.le_of_ble_eq_true rfl, Nat.le_of_ble_eq_true rfl⟩) (q0 := 0) rfl rfl rfl rfl hl.1 rfl (Nat.le_of_ble_eq_true rfl) dJx4a65c_add_9ea2d_20 ⟨Nat.le_of_ble_eq_true rfl, Nat.le_of_ble_eq_true rfl⟩ (fun _ => rfl) (fun q H locs hP hD hS => ?_)
  refine lv_iconst (v := (1 : Int32)) hx hb dJx4a65c_add_9ea2d_23 (by decide) ?_
  exact W.zret (v := (1 : Int32)) hx hb hr rfl (q_endE (W' := fun q => (q 0, rE G n' (va_up f' c (some v))) :: (hL, lE (md + 1) (q 0) (c + 1)) :: X) (rv := fun _ => some (.int 1)) q hK hP hD hS) hS.2.2 dJx4a65c_add_9ea2d_24
set_option maxRecDepth 100000 in
set_option maxHeartbeats 8000000 in
theorem e_addN (l : Launch) (D : va_G) (G : hG) (hL E c v : Nat) (md : Int32) (B : va_W) (ci cj kv n : Nat) (f : Nat → Option Nat) (vs : List Value) (qc : vw_C) (hc : vwCl[ci]? = some qc) (hj : castL[cj]? = some (qc.1, "java/lang/Object")) (hcn : c < n) (hn : n ≤ 40) (hv : B[kv]? = some (v, .inr (ci, vs))) : CE l yJx4a65c_add_9ea2d cJx4a65c_add_9ea2d 2 (some .boolean) rm_aG D G 1 40 [.ref hL, .ref v] ((hL, lE md E c) :: (E, rE G n f) :: B) (fun _ => (hL, lE (md + 1) E (c + 1)) :: (E, rE G n (va_up f c (some v))) :: B) (fun _ => some (.int 1)) := by
  refine CE.mk (cc := cJx4a65c_add_9ea2d) (maxL := 2) (ret := some .boolean) (own := RJx4a65c) (plainFor_of_name (by decide)) rfl (Nat.le_of_ble_eq_true rfl) ?_
  intro p e s m args below meth c_ A ls C0 _ hA hP hD hl
  obtain ⟨hx, hb, hr, hml, hown, hts, hlocks, hK, hE⟩ := id C0
  have hS : va_S A s.heap s.heap [] := va_S.rf
  have hl : lv_has ls 2 [(0, .ref hL), (1, .ref v)] := hl
  refine lv_aload_n hx hb dJx4a65c_add_9ea2d_0 rfl (lv_at hl 0 rfl) ?_
  refine lv_dup hx hb dJx4a65c_add_9ea2d_1 rfl ?_
  refine va_get (D := D) (ci := 0) (v := .int md) (C := RJx4a65c) (T := TJx4a65c) (N := 3) hx hb hts inU_Jx4a65c hown hK hP 0 rfl rfl 0 (by decide) (hts _ wd_226) (fun x9 h9 => u_same (hts _ (mem_hU (t_in1 (List.mem_of_getElem? (i := 227) (by decide +kernel))) (by decide +kernel))) x9 h9) rfl dJx4a65c_add_9ea2d_2 ?_
  refine lv_iconst (v := (1 : Int32)) hx hb dJx4a65c_add_9ea2d_5 (by decide) ?_
  refine lv_iadd hx hb dJx4a65c_add_9ea2d_6 ?_
  refine va_put (D := D) (ci := 0) (v := (.int (md + 1))) (ty := .int) (C := RJx4a65c) (T := TJx4a65c) (N := 3) hx hb hts inU_Jx4a65c tyJx4a65c tyJx4a65c_ok nmJx4a65c hown hK hP hD hS 0 rfl rfl 0 (by decide) (hts _ wd_226) (fun x9 h9 => u_same (hts _ (mem_hU (t_in1 (List.mem_of_getElem? (i := 227) (by decide +kernel))) (by decide +kernel))) x9 h9) rfl (by decide +kernel) rfl rfl (Nat.le_of_ble_eq_true rfl) dJx4a65c_add_9ea2d_7 (fun H locs hP hD hS => ?_)
  refine lv_aload_n hx hb dJx4a65c_add_9ea2d_10 rfl (lv_at hl 0 rfl) ?_
  refine lv_aload_n hx hb dJx4a65c_add_9ea2d_11 rfl (lv_at hl 1 rfl) ?_
  refine lv_aload_n hx hb dJx4a65c_add_9ea2d_12 rfl (lv_at hl 0 rfl) ?_
  refine va_get (D := D) (ci := 0) (v := .ref E) (C := RJx4a65c) (T := TJx4a65c) (N := 3) hx hb hts inU_Jx4a65c hown hK hP 0 rfl rfl 1 (by decide) (hts _ wd_223) (fun _ h9 => h9) rfl dJx4a65c_add_9ea2d_13 ?_
  refine lv_aload_n hx hb dJx4a65c_add_9ea2d_16 rfl (lv_at hl 0 rfl) ?_
  refine va_get (D := D) (ci := 0) (v := .int (i32 (c : Int))) (C := RJx4a65c) (T := TJx4a65c) (N := 3) hx hb hts inU_Jx4a65c hown hK hP 0 rfl rfl 2 (by decide) (hts _ wd_224) (fun _ h9 => h9) rfl dJx4a65c_add_9ea2d_17 ?_
  refine cl_VE (C := RJx4a65c) (w := (hL, lE (md + 1) E c) :: (E, rE G n f) :: B) (As := [.ref v, .ref E, .int (i32 (c : Int))]) (rest := []) (stk := fun _ => []) ⟨hx, hb, hml, hown, hts⟩ hK hE hA hP hD hS (e_addPN l D G hL E c v (md + 1) B ci cj kv n f vs qc hc hj hcn hn hv) (cwV 3 hts (gwV wd_604 wd_606 wp_16 wd_10 wd_607) rfl rfl rfl hd_Jx4a65c_add_72be8 ⟨Nat.le_of_ble_eq_true rfl, Nat.le_of_ble_eq_true rfl⟩) (q0 := 0) rfl rfl rfl rfl hl.1 rfl (Nat.le_of_ble_eq_true rfl) dJx4a65c_add_9ea2d_20 ⟨Nat.le_of_ble_eq_true rfl, Nat.le_of_ble_eq_true rfl⟩ (fun _ => rfl) (fun q H locs hP hD hS => ?_)
  refine lv_iconst (v := (1 : Int32)) hx hb dJx4a65c_add_9ea2d_23 (by decide) ?_
  exact W.zret (v := (1 : Int32)) hx hb hr rfl (q_endE (W' := fun _ => (hL, lE (md + 1) E (c + 1)) :: (E, rE G n (va_up f c (some v))) :: B) (rv := fun _ => some (.int 1)) q hK hP hD hS) hS.2.2 dJx4a65c_add_9ea2d_24
