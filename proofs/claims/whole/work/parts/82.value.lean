/-! LiarHall.value, where nothing was said: it throws -/
def NSE : String := "java/util/NoSuchElementException"
def vNm : List String := ["java/lang/RuntimeException", "java/lang/Exception"]
abbrev nsB : ByteArray := prog_38_method_4_code
theorem nx0 : decode nsB 0 = .ok (.aload_n 0, 1) := by decide +kernel
theorem nx1 : decode nsB 1 = .ok (.aload_n 1, 1) := by decide +kernel
theorem nx2 : decode nsB 2 = .ok (.invokespecial 13, 3) := by decide +kernel
theorem nx5 : decode nsB 5 = .ok (.return_, 1) := by decide +kernel
def vAt : List Cond := vy_at RX11 245 NSE 13 nsB vNm
def vB : List Cond := [.castable NSE NSE, .declares ⟨"java/lang/RuntimeException", "<init>", "(Ljava/lang/String;)V"⟩, .declares ⟨"java/lang/Exception", "<init>", "(Ljava/lang/String;)V"⟩, .declares ⟨"java/lang/Throwable", "<init>", "(Ljava/lang/String;)V"⟩]
set_option maxRecDepth 100000 in
theorem vAt_in : ∀ w ∈ vAt.filter goodWord, w ∈ lw_tbl := by decide +kernel
set_option maxRecDepth 100000 in
theorem vAt_B : ∀ w ∈ vAt.filter (fun w => !goodWord w), w ∈ vB := by decide +kernel
set_option maxRecDepth 100000 in
theorem vAt_ot : ∀ w ∈ Cond.classLink RX11 241 NSE :: Cond.initialized NSE :: vAt, vx_ot w = true := by decide +kernel
theorem vB_tbl : ∀ w ∈ vB, w.onTables = true := by decide +kernel
/-- what is asked besides, where one throws -/
def xE (A : Nat → Prop) (U : State) (H : Heap) : Prop := vx_Zq Bundle.tN "UNASSIGNED_STACK" Bundle.steD A U H ∧ vx_Zq Bundle.tN "SUPPRESSED_SENTINEL" Bundle.listD A U H ∧ ∀ w ∈ vB, va_Nw w U
theorem xE.warm {A : Nat → Prop} {u U : State} {H : Heap} (hW : u.WarmedH U.vm) (h : xE A u H) : xE A U H := by
  refine ⟨vx_Zq.moved hW.alike h.1, vx_Zq.moved hW.alike h.2.1, fun w hw => ?_⟩
  have h0 := h.2.2 w hw
  simp only [vB, List.mem_cons, List.not_mem_nil, or_false] at hw
  rcases hw with rfl | rfl | rfl | rfl
  · exact va_Nw.warmC hW h0
  · exact va_Nw.warmD hW h0
  · exact va_Nw.warmD hW h0
  · exact va_Nw.warmD hW h0
theorem xE.same {A : Nat → Prop} {u U : State} {H : Heap} (hv : u.vm = U.vm) (h : xE A u H) : xE A U H := ⟨vx_Zq.moved (hv ▸ Vm.Alike.refl u.vm) h.1, vx_Zq.moved (hv ▸ Vm.Alike.refl u.vm) h.2.1, fun w hw => va_Nw.same (vB_tbl w hw) hv (h.2.2 w hw)⟩
theorem xE.kept {A : Nat → Prop} {U : State} {H H1 : Heap} (h : xE A U H) (hq : ∀ a : Nat, a < H.size → ¬ A a → H1[a]? = H[a]?) : xE A U H1 := ⟨vx_Zq.kept h.1 hq, vx_Zq.kept h.2.1 hq, h.2.2⟩
theorem xE.narrow {A B : Nat → Prop} {U : State} {H : Heap} (h : xE A U H) (hAB : ∀ q, B q → A q) : xE B U H := ⟨vx_Zq.narrow h.1 hAB, vx_Zq.narrow h.2.1 hAB, h.2.2⟩
def PgX (av : List Value) (D : va_G) (G : hG) (w : va_W) (sz : Nat) : Array Value → State → Prop := va_Pc av (fun U => U.heap.size = sz ∧ va_P D vwCl w U.heap ∧ va_K D vwCl (tysG G) U ∧ va_D (fun _ => True) w ∧ sE G (va_A w sz) U U.heap ∧ xE (va_A w sz) U U.heap)
theorem PgX.blind {av : List Value} {D : va_G} {G : hG} {w : va_W} {sz : Nat} : FrameBlind (PgX av D G w sz) := fun a U g mk q => by
  obtain ⟨q0, q1, qP, qK, qD, qE, qX⟩ := q
  exact ⟨q0, q1, qP, va_K.moved (u := U) (U := U.calling g mk a) (Vm.Alike.refl U.vm) qK, qD, sE.same (u := U) (U := U.calling g mk a) rfl qE, xE.same (u := U) (U := U.calling g mk a) rfl qX⟩
/-- where it threw: of that class, the world as it was -/
def XCv (D : va_G) (tys : List (ClassId × FieldType)) (w : va_W) (A : Nat → Prop) : String → State → State → Prop := fun E st t => E = NSE ∧ va_P D vwCl w t.heap ∧ va_K D vwCl tys t ∧ va_D A w ∧ va_F A st t
abbrev rm_Xv : Room := { frames := 12, cells := 1, slots := 6, locals := 400 }
set_option maxRecDepth 100000 in
set_option maxHeartbeats 8000000 in
theorem x_X11_value (l : Launch) (hl0 : l.stackTraces = false) (D : va_G) (G : hG) (Z : hZ) (Y : va_W) (σ : hSt) (x1 x2 : Int32) (h : f_X1_hasSaid Z σ 14 x1 x2 = some 0) : ∀ sz : Nat, vx_Met l yX11_value (wU yX11_value cX11_value 3 (some .int)) rm_Xv (PgX [.ref (G.2.1 0), .int x1, .int x2] D G (hW G Z Y σ) sz) (fun _ _ _ _ => False) (XCv D (tysG G) (hW G Z Y σ) (va_A (hW G Z Y σ) sz)) 1 6 (va_A (hW G Z Y σ) sz) := by
  intro sz
  refine vx_ofW (cc := cX11_value) (maxL := 3) (ret := some .int) (by decide) rfl ?_
  intro p e s m args below meth c s₁ B hml htab hv
  obtain ⟨rfl, hsz, hP, hK, hD0, hE, hX⟩ := hv
  subst hsz
  have hl := lv_entry [.ref (G.2.1 0), .int x1, .int x2] (n := 3) (Nat.le_of_ble_eq_true rfl)
  rw [lg_entry_eq]
  generalize (lg_sl [Value.ref (G.2.1 0), .int x1, .int x2] ++ List.replicate (3 - (lg_sl [Value.ref (G.2.1 0), .int x1, .int x2]).length) Slot.unset).toArray = ls at hl ⊢
  have hl : lv_has ls 3 [(0, .ref (G.2.1 0)), (1, .int x1), (2, .int x2)] := hl
  have hx := B.exec
  have hb := B.bytes
  have hr := B.returns
  have hown : s.vm.findClass RX11 = some m.cls := findClass_of_methodNamed B.named
  have hts : ∀ w ∈ hU, w.before _ s = true := fun w hw => atoms_spec (ws := wU yX11_value cX11_value 3 (some .int)) B.pre w (List.mem_cons_of_mem _ hw)
  have hlocks := B.notSynchronized
  have hA : ∀ q : Nat, s.heap.size ≤ q → va_A (hW G Z Y σ) s.heap.size q := fun q h => Or.inr h
  have hD := hD0.self (sz := s.heap.size)
  have hS : va_S (va_A (hW G Z Y σ) s.heap.size) s.heap s.heap [] := va_S.rf
  refine lv_aload_n hx hb dX11_value_0 rfl (lv_at hl 0 rfl) ?_
  refine va_get (D := D) (ci := 11) (v := .ref (G.2.1 14)) (C := RX11) (T := TX11) (N := 16) hx hb hts inU_X11 hown hK hP _ (hg_0 G Z Y σ) rfl 6 (by decide) (hts _ wd_241) (fun _ h9 => h9) rfl dX11_value_1 ?_
  refine lv_iload_n hx hb dX11_value_4 rfl (lv_at hl 1 rfl) ?_
  refine lv_iload_n hx hb dX11_value_5 rfl (lv_at hl 2 rfl) ?_
  refine cl_V (w := hW G Z Y σ) (w' := hW G Z Y σ) (rv := some (.int 0)) (bytes := cX1_hasSaid) (maxL := 3) (ret := (some .boolean)) (C := RX1) (As := [.int x1, .int x2]) (rest := []) (stk := [.int 0]) ⟨hx, hb, hml, hown, hts⟩ hK hE hA hP hD hS (c_X1_hasSaid l D G Z Y σ 14 (rfl : isCo 14 = true) x1 x2 _ h) (cwV 2 hts (gwV wd_1170 wd_1171 wd_1172 wd_7 wd_1173) rfl rfl rfl hd_X1_hasSaid ⟨Nat.le_of_ble_eq_true rfl, Nat.le_of_ble_eq_true rfl⟩) (hg_14 G Z Y σ) rfl rfl rfl hl.1 rfl (Nat.le_of_ble_eq_true rfl) dX11_value_6 ⟨Nat.le_of_ble_eq_true rfl, Nat.le_of_ble_eq_true rfl⟩ rfl (fun H locs hP hD hS => ?_)
  refine lv_if_ne (tgt := 22) hx hb dX11_value_9 (by decide) (fun c1 => absurd rfl c1) (fun _ => ?_)
  have hat : ∀ w ∈ vy_at RX11 245 NSE 13 nsB vNm, w.before _ s = true := vx_hat (fun w hw => hts w (mem_hU (vAt_in w hw) (List.mem_filter.mp hw).2)) vAt_B (fun w hw => va_Nw.use (vB_tbl w hw) (hX.2.2 w hw))
  refine vy_make hx hb hl0 (names := vNm) (sa := G.2.2 5) nx0 nx1 nx2 nx5 hown (by decide +kernel) (by decide +kernel) (hts _ wd_1174) (hts _ (mem_hU (t_in1 (List.mem_of_getElem? (i := 28) (by decide +kernel))) (by decide +kernel))) (strL_use 9 hE rfl) hat vAt_ot hX.1 hX.2.1 hS (by rw [hml]; exact hl.1) dX11_value_12 dX11_value_15 dX11_value_16 dX11_value_18 (Nat.le_of_ble_eq_true rfl) (Nat.le_of_ble_eq_true rfl) (Nat.le_of_ble_eq_true rfl) (Nat.le_of_ble_eq_true rfl) (fun q ce H1 hq hv hcl hsz2 hsame hS1 => ?_)
  refine vy_athrow hx hb dX11_value_21 ?_
  have hP1 : va_P D vwCl (hW G Z Y σ) H1 := hP.kept (fun k x hk => hsame x.1 ((hP k x hk).lt))
  exact vx_out (E := NSE) (fun x hx => (htab x hx).elim) hlocks hq hv hcl (fun t ht hvm => ⟨rfl, by rw [ht]; exact hP1, va_K.moved hvm hK, hD, hS1.F ht⟩) hS1.2.2 (Nat.le_of_ble_eq_true rfl) (Nat.le_of_ble_eq_true rfl)
