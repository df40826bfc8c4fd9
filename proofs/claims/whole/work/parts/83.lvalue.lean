/-! the law's own 'value': what it catches -/
section CLX
variable {p : Program} {l : Launch} {e : Env} {R : Room} {s : State} {m : MethodId} {args : Array Value} {below : List Frame} {meth : Method} {c : Code} {H : Heap} {locs : List Loc} {cells slots : Nat} {Q : State → Prop}
variable {pc : Nat} {ls : Array Slot} {rest st0 : List Value} {a : Array Value} {A0 A1 : Nat → Prop} {H0 : Heap} {mc ms : Nat} {free : Addr → Prop} {D : va_G} {tys : List (ClassId × FieldType)} {w : va_W}
/-- a call that throws -/
theorem cl_X (hr : vx_Run p l e R s m args below meth c H locs cells slots mc ms (F0 m pc ls st0) rest (fun _ _ _ => False) (XCv D tys w A1) free) (hS : va_S A0 H0 H locs) (hA : ∀ q, q < H.size → A1 q → A0 q) (hf : ∀ q, free q → A0 q)
    (kk : ∀ (q : Addr) (ce : Cell) (H1 : Heap) (locs1 : List Loc), va_P D vwCl w H1 → va_D A1 w → va_S A0 H0 H1 locs1 → H1[q]? = some ce → ce.vm = .none → s.vm.findClass NSE = some ce.cls → vx_W p l e R s m args below meth c H1 locs1 (cells + mc) (slots + ms) Q (F0 m pc ls rest) q) : W p l e R s m args below meth c H locs cells slots Q (F0 m pc ls st0) := by
  intro T hT X
  rcases hr T hT X with ⟨v, st₀, t, T', L, h0, X', hL, e1, e2, hq, st⟩ | ⟨q, st₀, t, T', L, E, ce, h0, X', hL, e1, e2, ⟨rfl, hp, -, hd, hF⟩, hce, hcv, hcl, st⟩
  · exact hq.elim
  · obtain ⟨k1, k2, k3⟩ := vx_keep h0 e1 hS hA hf hL hF
    obtain ⟨t2, a1, b1⟩ := kk q ce T'.heap (locs ++ L) (by rw [e1]; exact hp) hd k3 (by rw [e1]; exact hce) hcv hcl T' rfl X'
    exact ⟨t2, st.trans a1, b1⟩
end CLX
abbrev oE (G : hG) (f : Nat → Int64) : va_E := .inl (G.1 1, 1, .inr (.inl f))
abbrev wL : List Cond := Cond.codeWith yL_value cL_value 5 (some .int) [(0, 10, 13, 13)] :: hU
abbrev rm_Lv : Room := { frames := 20, cells := 1, slots := 6, locals := 600 }
def QgX (rv : Option Value) (D : va_G) (tys : List (ClassId × FieldType)) (w' : va_W) (A : Nat → Prop) : Array Value → State → Outcome → State → Prop := fun a st oc t => Qg rv D tys w' A a st oc t
set_option maxRecDepth 100000 in
set_option maxHeartbeats 8000000 in
theorem x_L_value (l : Launch) (hl0 : l.stackTraces = false) (D : va_G) (G : hG) (Z : hZ) (Y : va_W) (σ : hSt) (o : Nat) (f : Nat → Int64) (x1 x2 : Int32) (h : f_X1_hasSaid Z σ 14 x1 x2 = some 0) : ∀ sz : Nat, vx_Met l yL_value wL rm_Lv (PgX [.ref (G.2.1 0), .int x1, .int x2, .ref o] D G (hW G Z ((o, oE G f) :: Y) σ) sz) (Qg (some (.int 1)) D (tysG G) (hW G Z ((o, oE G f) :: Y) σ) (va_A (hW G Z ((o, oE G f) :: Y) σ) sz)) (fun _ _ _ => False) 1 6 (va_A (hW G Z ((o, oE G f) :: Y) σ) sz) := by
  intro sz
  refine vx_ofWH (cc := cL_value) (maxL := 5) (ret := some .int) (hh := [(0, 10, 13, 13)]) (by decide) rfl ?_
  intro p e s m args below meth c s₁ B hml hv
  obtain ⟨rfl, hsz, hP, hK, hD0, hE, hX⟩ := hv
  subst hsz
  have hl := lv_entry [.ref (G.2.1 0), .int x1, .int x2, .ref o] (n := 5) (Nat.le_of_ble_eq_true rfl)
  rw [lg_entry_eq]
  generalize (lg_sl [Value.ref (G.2.1 0), .int x1, .int x2, .ref o] ++ List.replicate (5 - (lg_sl [Value.ref (G.2.1 0), .int x1, .int x2, .ref o]).length) Slot.unset).toArray = ls at hl ⊢
  have hl : lv_has ls 5 [(0, .ref (G.2.1 0)), (1, .int x1), (2, .int x2), (3, .ref o)] := hl
  have hx := B.exec
  have hb := B.bytes
  have hr := B.returns
  have hown : s.vm.findClass RL = some m.cls := findClass_of_methodNamed B.named
  have hts : ∀ w ∈ hU, w.before _ s = true := fun w hw => atoms_spec (ws := wL) B.pre w (List.mem_cons_of_mem _ hw)
  have hcw : (Cond.codeWith yL_value cL_value 5 (some .int) [(0, 10, 13, 13)]).before _ s = true := atoms_spec (ws := wL) B.pre _ List.mem_cons_self
  have htab : c.exceptionTable.toList.map (fun h => (h.startPc, h.endPc, h.handlerPc, h.catchType)) = [(0, 10, 13, 13)] := by
    obtain ⟨m9, meth9, c9, hn9, g1, g2, g3, g4, g5, -⟩ := Cond.codeWith_spec hcw
    cases hn9.symm.trans B.named
    cases g1.symm.trans B.method
    have h1 := B.here.code
    rw [State.code?_eq, show s₁.vm = s.vm by rw [B.state]; rfl, B.method] at h1
    have h2 : meth.code = some c := h1
    cases g2.symm.trans h2
    exact g5
  have hlocks := B.notSynchronized
  have hA : ∀ q : Nat, s.heap.size ≤ q → va_A (hW G Z ((o, oE G f) :: Y) σ) s.heap.size q := fun q h => Or.inr h
  have hD := hD0.self (sz := s.heap.size)
  have hS : va_S (va_A (hW G Z ((o, oE G f) :: Y) σ) s.heap.size) s.heap s.heap [] := va_S.rf
  have hin := cl_in hD hS hA
  refine lv_aload_n hx hb dL_value_0 rfl (lv_at hl 3 rfl) ?_
  refine lv_iconst (v := (0 : Int32)) hx hb dL_value_1 (by decide) ?_
  refine lv_aload_n hx hb dL_value_2 rfl (lv_at hl 0 rfl) ?_
  refine lv_iload_n hx hb dL_value_3 rfl (lv_at hl 1 rfl) ?_
  refine lv_iload_n hx hb dL_value_4 rfl (lv_at hl 2 rfl) ?_
  have cw : CallW rm_Lv s #[Value.ref (G.2.1 0), .int x1, .int x2, .ref o] RL RX11 7 yX11_value cX11_value 3 (some .int) (wU yX11_value cX11_value 3 (some .int)) rm_Xv 1 6 2 := cwV 2 hts (gwV wd_1166 wd_1167 wd_1168 wd_1 wd_1169) rfl rfl rfl hd_X11_value ⟨Nat.le_of_ble_eq_true rfl, Nat.le_of_ble_eq_true rfl⟩
  refine cl_X (vx_runV (As := [.int x1, .int x2]) (rest := [.int 0, .ref o]) (g := F0 m 5 ls [.int x2, .int x1, .ref (G.2.1 0), .int 0, .ref o]) (nL := 5) ⟨hx, hb, hml, hown, hts⟩ (x_X11_value l hl0 D G Z _ σ x1 x2 h s.heap.size) cw ⟨PgX.blind, va_recv hK hP (q0 := 0) (ci := 11) rfl (hg_0 G Z _ σ), fun U hU hW => ⟨rfl, by rw [hU], by rw [hU]; exact hP, va_K.moved hW.alike hK, hD.weaken (fun _ _ _ _ => trivial), by rw [hU]; exact sE.warm hW (hE.narrow hin), by rw [hU]; exact xE.warm hW (hX.narrow hin)⟩⟩ rfl rfl hl.1 rfl (Nat.le_of_ble_eq_true rfl) dL_value_5 ⟨Nat.le_of_ble_eq_true rfl, Nat.le_of_ble_eq_true rfl⟩) hS (fun q _ h => h) (fun q h => h) (fun q ce H1 locs1 hP hD hS hq hv hcl => ?_)
  obtain ⟨x, hxt, hx0⟩ : ∃ x, c.exceptionTable.toList = [x] ∧ (x.startPc, x.endPc, x.handlerPc, x.catchType) = (0, 10, 13, 13) := by
    match hc : c.exceptionTable.toList, htab with
    | [x], h9 => exact ⟨x, rfl, by simpa using h9⟩
    | [], h9 => simp at h9
    | _ :: _ :: _, h9 => simp at h9
  injection hx0 with k1 k2
  injection k2 with k2 k3
  injection k3 with k3 k4
  refine vx_catch (own := RL) (name := NSE) hown [] x [] hxt (fun z hz => nomatch hz) (by simp [covers, k1, k2]) (by rw [k4]; decide) (by rw [k4]; exact hts _ wd_1165) (va_Nw.use rfl (hX.2.2 _ List.mem_cons_self)) hq hv hcl ?_
  rw [k3]
  refine lv_astore (lv' := [(4, .ref q), (0, .ref (G.2.1 0)), (1, .int x1), (2, .int x2), (3, .ref o)]) hx hb dL_value_13 hl (by decide) rfl (fun ls hl => ?_)
  refine lv_iconst (v := (1 : Int32)) hx hb dL_value_15 (by decide) ?_
  exact vx_ret (W.iret (v := (1 : Int32)) hx hb hr (q_end hK hP hD hS) hS.2.2 dL_value_16)
set_option maxRecDepth 100000 in
set_option maxHeartbeats 8000000 in
theorem c_L_value (l : Launch) (D : va_G) (G : hG) (Z : hZ) (Y : va_W) (σ : hSt) (o : Nat) (f : Nat → Int64) (x1 x2 : Int32) (v : Int32) (h : f_X11_value Z σ x1 x2 = some (v, σ)) : ∀ sz : Nat, vx_Met l yL_value wL rm_Lv (PgX [.ref (G.2.1 0), .int x1, .int x2, .ref o] D G (hW G Z ((o, oE G f) :: Y) σ) sz) (Qg (some (.int 0)) D (tysG G) (hW G Z ((o, oE G (vp_updL f 0 v.toInt64)) :: Y) σ) (va_A (hW G Z ((o, oE G f) :: Y) σ) sz)) (fun _ _ _ => False) 1 6 (va_A (hW G Z ((o, oE G f) :: Y) σ) sz) := by
  intro sz
  refine vx_ofWH (cc := cL_value) (maxL := 5) (ret := some .int) (hh := [(0, 10, 13, 13)]) (by decide) rfl ?_
  intro p e s m args below meth c s₁ B hml hv
  obtain ⟨rfl, hsz, hP, hK, hD0, hE, hX⟩ := hv
  subst hsz
  have hl := lv_entry [.ref (G.2.1 0), .int x1, .int x2, .ref o] (n := 5) (Nat.le_of_ble_eq_true rfl)
  rw [lg_entry_eq]
  generalize (lg_sl [Value.ref (G.2.1 0), .int x1, .int x2, .ref o] ++ List.replicate (5 - (lg_sl [Value.ref (G.2.1 0), .int x1, .int x2, .ref o]).length) Slot.unset).toArray = ls at hl ⊢
  have hl : lv_has ls 5 [(0, .ref (G.2.1 0)), (1, .int x1), (2, .int x2), (3, .ref o)] := hl
  have hx := B.exec
  have hb := B.bytes
  have hr := B.returns
  have hown : s.vm.findClass RL = some m.cls := findClass_of_methodNamed B.named
  have hts : ∀ w ∈ hU, w.before _ s = true := fun w hw => atoms_spec (ws := wL) B.pre w (List.mem_cons_of_mem _ hw)
  have hlocks := B.notSynchronized
  have hA : ∀ q : Nat, s.heap.size ≤ q → va_A (hW G Z ((o, oE G f) :: Y) σ) s.heap.size q := fun q h => Or.inr h
  have hD := hD0.self (sz := s.heap.size)
  have hS : va_S (va_A (hW G Z ((o, oE G f) :: Y) σ) s.heap.size) s.heap s.heap [] := va_S.rf
  refine lv_aload_n hx hb dL_value_0 rfl (lv_at hl 3 rfl) ?_
  refine lv_iconst (v := (0 : Int32)) hx hb dL_value_1 (by decide) ?_
  refine lv_aload_n hx hb dL_value_2 rfl (lv_at hl 0 rfl) ?_
  refine lv_iload_n hx hb dL_value_3 rfl (lv_at hl 1 rfl) ?_
  refine lv_iload_n hx hb dL_value_4 rfl (lv_at hl 2 rfl) ?_
  refine cl_V (w := hW G Z ((o, oE G f) :: Y) σ) (w' := hW G Z ((o, oE G f) :: Y) σ) (rv := some (.int v)) (bytes := cX11_value) (maxL := 3) (ret := (some .int)) (C := RX11) (As := [.int x1, .int x2]) (rest := [.int 0, .ref o]) (stk := [.int v, .int 0, .ref o]) ⟨hx, hb, hml, hown, hts⟩ hK hE hA hP hD hS (c_X11_value l D G Z _ σ x1 x2 _ h) (cwV 2 hts (gwV wd_1166 wd_1167 wd_1168 wd_1 wd_1169) rfl rfl rfl hd_X11_value ⟨Nat.le_of_ble_eq_true rfl, Nat.le_of_ble_eq_true rfl⟩) (hg_0 G Z _ σ) rfl rfl rfl hl.1 rfl (Nat.le_of_ble_eq_true rfl) dL_value_5 ⟨Nat.le_of_ble_eq_true rfl, Nat.le_of_ble_eq_true rfl⟩ rfl (fun H locs hP hD hS => ?_)
  refine lv_i2l (v := v.toInt64) hx hb dL_value_8 rfl ?_
  have hP := pperm yin.symm hP
  have hD := dperm yin.symm hD
  refine va_last hx hb hK hP hD hS 0 1 rfl rfl (show vp_in (0 : Int32) 1 by unfold vp_in; decide) dL_value_9 (fun H locs hP hD hS => ?_)
  have hP : va_P D vwCl ((o, oE G (vp_updL f 0 v.toInt64)) :: hW G Z Y σ) H := hP
  have hD : va_D (va_A (hW G Z ((o, oE G f) :: Y) σ) s.heap.size) ((o, oE G (vp_updL f 0 v.toInt64)) :: hW G Z Y σ) := hD
  have hP := pperm yin hP
  have hD := dperm yin hD
  refine lv_goto (tgt := 17) hx hb dL_value_10 (by decide) ?_
  refine lv_iconst (v := (0 : Int32)) hx hb dL_value_17 (by decide) ?_
  refine W.widen (k := 1) (n := 6) (Nat.le_of_ble_eq_true rfl) (Nat.le_of_ble_eq_true rfl) ?_
  exact vx_ret (W.iret (v := (0 : Int32)) hx hb hr (q_end hK hP hD hS) hS.2.2 dL_value_18)
