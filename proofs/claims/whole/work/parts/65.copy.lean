/-! calls of what makes, static and by the receiver; places brought to the front -/
section CLE2
variable {p : Program} {l : Launch} {e : Env} {R : Room} {s : State} {m : MethodId} {args : Array Value} {below : List Frame} {meth : Method} {c : Code} {H : Heap} {locs : List Loc} {cells slots : Nat} {Q : State → Prop}
variable {pc : Nat} {ls : Array Slot} {rest st0 : List Value} {stk : (Nat → Nat) → List Value} {A0 : Nat → Prop} {mc ms : Nat} {D : va_G} {G : hG} {w : va_W} {W' : (Nat → Nat) → va_W} {rv : (Nat → Nat) → Option Value}
variable {y : MethodName} {bytes cc : ByteArray} {maxL nL n index : Nat} {ret : Option FieldType} {rm : Room} {own C : String} {b : Addr} {As : List Value} {q0 ci : Nat} {fs : List Value} {qc : vw_C}
theorem mkSE {C : String} (hts : ∀ w ∈ hU, w.before args s = true) (h1 : Cond.methodLink own index y ∈ hU) (h2 : Cond.static y ∈ hU) (h4 : Cond.initialized y.cls ∈ hU) (hc : Cond.code y bytes maxL ret ∈ hU) (hrc : rm.cells = mc) (hrs : rm.slots = ms)
    (hd : y.cls = C ∧ y.cls ≠ "java/lang/invoke/MethodHandle" ∧ y.cls ≠ "java/lang/invoke/VarHandle" ∧ (parseMethodDescriptor y.desc).map (fun d => d.parameters.length) = some n) (hR : rm.frames + 1 ≤ R.frames ∧ 8 + (maxL + 11) + rm.locals ≤ R.locals) : CallB R s args own index y bytes maxL ret (wU y bytes maxL ret) rm mc ms n ∧ (Cond.static y).before args s = true :=
  ⟨callB_of n hts (gwU hc) rfl hrc hrs (hts _ h4) (hts _ h1) hd.2 hR, hts _ h2⟩
theorem cl_SE (S5 : CallFix p m c cc nL s args hU own) (hK : va_K D vwCl (tysG G) s) (hE : sE G A0 s s.heap) (hA : ∀ q : Nat, s.heap.size ≤ q → A0 q) (hP : va_P D vwCl w H) (hD : va_D A0 w) (hS : va_S A0 s.heap H locs) (hM : CE l y bytes maxL ret rm D G mc ms As w W' rv)
    (cw : CallB R s args own index y bytes maxL ret (wU y bytes maxL ret) rm mc ms n ∧ (Cond.static y).before args s = true) (hn : As.length = n) (hsize : ls.size = nL) (hst : st0 = As.reverse ++ rest) (hW : (rest.map fun v => v.category).sum ≤ 8) (hdg : decode cc pc = .ok (.invokestatic index, 3)) (hf : cells + mc ≤ R.cells ∧ slots + ms ≤ R.slots) (hstk : ∀ q, (rv q).toList ++ rest = stk q)
    (kk : ∀ (q : Nat → Nat) (H1 : Heap) (locs1 : List Loc), va_P D vwCl (W' q) H1 → va_D A0 (W' q) → va_S A0 s.heap H1 locs1 → W p l e R s m args below meth c H1 locs1 (cells + mc) (slots + ms) Q (F0 m (pc + 3) ls (stk q))) : W p l e R s m args below meth c H locs cells slots Q (F0 m pc ls st0) := by
  have hin := cl_in hD hS hA
  exact cl_goE (va_runS (As := As) (rest := rest) S5 (hM H.size) cw ⟨Pg.blind, fun U hU hW => ⟨rfl, by rw [hU], by rw [hU]; exact hP, va_K.moved hW.alike hK, hD.weaken (fun _ _ _ _ => trivial), by rw [hU]; exact sE.warm hW ((hE.kept hS.2.1).narrow hin)⟩⟩ rfl hn hsize hst (lv_room hW) hdg hf) hS (fun q _ h => hin q h) hin hstk (fun q H1 locs1 hP1 hD1 hS1 => kk q H1 locs1 hP1 (hD1.weaken (fun _ q _ h => hin q.1 h)) hS1)
theorem cl_VE (S5 : CallFix p m c cc nL s args hU own) (hK : va_K D vwCl (tysG G) s) (hE : sE G A0 s s.heap) (hA : ∀ q : Nat, s.heap.size ≤ q → A0 q) (hP : va_P D vwCl w H) (hD : va_D A0 w) (hS : va_S A0 s.heap H locs) (hM : CE l y bytes maxL ret rm D G mc ms (.ref b :: As) w W' rv)
    (cw : CallW R s args own C index y bytes maxL ret (wU y bytes maxL ret) rm mc ms n) (he : w[q0]? = some (b, .inr (ci, fs))) (hc : vwCl[ci]? = some qc) (hC : qc.1 = C) (hn : As.length = n) (hsize : ls.size = nL) (hst : st0 = As.reverse ++ .ref b :: rest) (hW : (rest.map fun v => v.category).sum ≤ 8) (hdg : decode cc pc = .ok (.invokevirtual index, 3)) (hf : cells + mc ≤ R.cells ∧ slots + ms ≤ R.slots) (hstk : ∀ q, (rv q).toList ++ rest = stk q)
    (kk : ∀ (q : Nat → Nat) (H1 : Heap) (locs1 : List Loc), va_P D vwCl (W' q) H1 → va_D A0 (W' q) → va_S A0 s.heap H1 locs1 → W p l e R s m args below meth c H1 locs1 (cells + mc) (slots + ms) Q (F0 m (pc + 3) ls (stk q))) : W p l e R s m args below meth c H locs cells slots Q (F0 m pc ls st0) := by
  have hin := cl_in hD hS hA
  refine cl_goE (va_runV (As := As) (rest := rest) S5 (hM H.size) cw ⟨Pg.blind, ?_, fun U hU hW => ⟨rfl, by rw [hU], by rw [hU]; exact hP, va_K.moved hW.alike hK, hD.weaken (fun _ _ _ _ => trivial), by rw [hU]; exact sE.warm hW ((hE.kept hS.2.1).narrow hin)⟩⟩ rfl hn hsize hst (lv_room hW) hdg hf) hS (fun q _ h => hin q h) hin hstk (fun q H1 locs1 hP1 hD1 hS1 => kk q H1 locs1 hP1 (hD1.weaken (fun _ q _ h => hin q.1 h)) hS1)
  obtain ⟨cell, c1, c2, c3⟩ := va_recv hK hP hc he
  exact ⟨cell, c1, c2, by rw [← hC]; exact c3⟩
end CLE2
theorem pget {α : Type} : ∀ {L : List α} {i : Nat} {x : α}, L[i]? = some x → L.Perm (x :: L.eraseIdx i)
  | [], _, _, h => by cases h
  | a :: L, 0, x, h => by cases h; exact List.Perm.refl _
  | a :: L, i + 1, x, h => ((pget (L := L) (i := i) (x := x) h).cons a).trans (List.Perm.swap x a _)
/-! making by the JDK's rows: Arrays.copyOf of ints, Tape.writtenCode -/
def cpI (n k : Nat) (f : Nat → Int32) : Nat → Int32 := if k = n then f else va_cpy f (fun _ => 0) 0 0 k
theorem cpI_at {n k : Nat} {f : Nat → Int32} {i : Nat} (h : i < k) : cpI n k f i = f i := by
  unfold cpI
  by_cases c : k = n
  · rw [if_pos c]
  · rw [if_neg c]
    unfold va_cpy
    rw [if_pos ⟨Nat.zero_le _, by omega⟩]
    congr 1
    omega
abbrev rm_cp (N : Nat) : Room := { frames := 1, cells := 1, slots := N, locals := 60 }
set_option maxRecDepth 100000 in
set_option maxHeartbeats 8000000 in
theorem e_J7_copyOf_59c91 (l : Launch) (D : va_G) (G : hG) (B : va_W) (h0 : Nat) (n k N : Nat) (f : Nat → Int32) (hn : n ≤ 100000) (hk : k ≤ n) (hN : k ≤ N) : CE l yJ7_copyOf_59c91 cJ7_copyOf_59c91 3 (some (.array .int)) (rm_cp N) D G 1 N [.ref h0, .int (i32 (k : Int))] ((h0, .inl (G.1 0, n, .inl f)) :: B) (fun q => (q 0, .inl (G.1 0, k, .inl (cpI n k f))) :: (h0, .inl (G.1 0, n, .inl f)) :: B) (fun q => some (.ref (q 0))) := by
  refine CE.mk (cc := cJ7_copyOf_59c91) (maxL := 3) (ret := some (.array .int)) (own := RJ7) (plainFor_of_name (by decide)) rfl (Nat.le_of_ble_eq_true rfl) ?_
  intro p e s m args below meth c A ls C0 _ hA hP hD hl
  obtain ⟨hx, hb, hr, hml, hown, hts, hlocks, hK, hE⟩ := id C0
  have hS : va_S A s.heap s.heap [] := va_S.rf
  have hl : lv_has ls 3 [(0, .ref h0), (1, .int (i32 (k : Int)))] := hl
  have hki : (i32 (k : Int)).toNatClampNeg = k := i32_cn (by omega)
  have hk0 : ¬ i32 (k : Int) < 0 := fun h => by have h2 := (ltI (b := 0) (by omega)).mp h; omega
  have hnm : s.vm.findClass "[I" = some (G.1 0) := (hK.2 0 _ rfl).2
  refine lv_iload_n hx hb dJ7_copyOf_59c91_0 rfl (lv_at hl 1 rfl) ?_
  refine lv_aload_n hx hb dJ7_copyOf_59c91_1 rfl (lv_at hl 0 rfl) ?_
  refine va_alen (ty := .int) (v := i32 (n : Int)) hx hb hK hP 0 0 rfl rfl (i32_nat n) dJ7_copyOf_59c91_2 ?_
  refine lv_icmp_ne (tgt := 14) hx hb dJ7_copyOf_59c91_3 (by decide) (fun c1 => ?_) (fun c1 => ?_)
  · have hne : k ≠ n := fun h => c1 (by rw [h])
    refine lv_iload_n hx hb dJ7_copyOf_59c91_14 rfl (lv_at hl 1 rfl) ?_
    refine q_newa (atype := .int) (ty := .int) (N' := k) (a0 := (k, .inl (fun _ => 0))) hx hb wd_69 hts rfl hK 0 rfl hP hD hS hA (fun _ => rfl) hk0 hki (show k * 4 ≤ 536870912 by omega) (Nat.le_of_ble_eq_true rfl) (show 0 + k ≤ N by omega) dJ7_copyOf_59c91_15 (fun q1 H hP hD hS => ?_)
    refine lv_astore_n (lv' := [(2, .ref q1), (0, .ref h0), (1, .int (i32 (k : Int)))]) hx hb dJ7_copyOf_59c91_17 rfl hl (by decide) rfl (fun ls hl => ?_)
    refine lv_aload_n hx hb dJ7_copyOf_59c91_18 rfl (lv_at hl 1 rfl) ?_
    refine lv_iconst (v := (0 : Int32)) hx hb dJ7_copyOf_59c91_19 (by decide) ?_
    refine lv_aload_n hx hb dJ7_copyOf_59c91_20 rfl (lv_at hl 0 rfl) ?_
    refine lv_iconst (v := (0 : Int32)) hx hb dJ7_copyOf_59c91_21 (by decide) ?_
    refine lv_aload_n hx hb dJ7_copyOf_59c91_22 rfl (lv_at hl 1 rfl) ?_
    refine va_alen (ty := .int) (v := i32 (n : Int)) hx hb hK hP 1 0 rfl rfl (i32_nat n) dJ7_copyOf_59c91_23 ?_
    refine lv_iload_n hx hb dJ7_copyOf_59c91_24 rfl (lv_at hl 2 rfl) ?_
    refine va_mmin hx hb (hml.trans hl.1.symm) hown (hts _ wd_544) (hts _ wd_400) (hts _ wd_12) (hts _ wd_401) (Nat.le_of_ble_eq_true rfl) (Nat.le_of_ble_eq_true rfl) (Nat.le_of_ble_eq_true rfl) (show 0 + k ≤ N by omega) dJ7_copyOf_59c91_25 ?_
    rw [if_pos ((ltI (by omega)).mpr (show (k : Int) < (n : Int) by omega))]
    refine va_copyi hx hb (hml.trans hl.1.symm) hown (hts _ wd_545) (hts _ wd_547) (hts _ wd_546) (hts _ wd_20) hK hP hD hS 1 0 0 0 (f := f) (g := fun _ => 0) (n0 := n) (n1 := k) (ty := .int) rfl rfl rfl rfl rfl (by decide) (by decide) hk0 (by rw [hki]; show 0 + k ≤ n; omega) (by rw [hki]; show 0 + k ≤ k; omega) (fun _ _ => rfl) (Nat.le_of_ble_eq_true rfl) (show 0 + (nativeFrameWords "java/lang/System" "arraycopy" 5 + 11) ≤ 60 by decide +kernel) dJ7_copyOf_59c91_28 (fun H locs hP hD hS => ?_)
    have e0 : cpI n k f = va_cpy f (fun _ => 0) (0 : Int32).toNatClampNeg (0 : Int32).toNatClampNeg (i32 (k : Int)).toNatClampNeg := by
      rw [hki]
      unfold cpI
      rw [if_neg hne]
      rfl
    have hP : va_P D vwCl ((q1, .inl (G.1 0, k, .inl (cpI n k f))) :: (h0, .inl (G.1 0, n, .inl f)) :: B) H := by rw [e0]; exact hP
    have hD : va_D A ((q1, .inl (G.1 0, k, .inl (cpI n k f))) :: (h0, .inl (G.1 0, n, .inl f)) :: B) := by rw [e0]; exact hD
    refine lv_aload_n hx hb dJ7_copyOf_59c91_31 rfl (lv_at hl 0 rfl) ?_
    refine W.widen (k := 1) (n := N) (Nat.le_of_ble_eq_true rfl) (show 0 + k ≤ N by omega) ?_
    exact W.aret (v := .ref q1) hx hb hr (Or.inr ⟨_, rfl⟩) (Or.inr ⟨_, rfl⟩) (q_endE (W' := fun q => (q 0, .inl (G.1 0, k, .inl (cpI n k f))) :: (h0, .inl (G.1 0, n, .inl f)) :: B) (rv := fun q => some (.ref (q 0))) (fun _ => q1) hK hP hD hS) hS.2.2 dJ7_copyOf_59c91_32
  · have hkn : k = n := by have := (eqI (by omega)).mp c1; omega
    subst hkn
    have e0 : cpI k k f = f := by unfold cpI; rw [if_pos rfl]
    refine lv_aload_n hx hb dJ7_copyOf_59c91_6 rfl (lv_at hl 0 rfl) ?_
    refine va_clone (ad := "[I") (x := (k, .inl f)) (ty := .int) hx hb (hml.trans hl.1.symm) hown (hts _ wd_537) (hts _ (mem_hU (t_in3 (List.mem_of_getElem? (i := 58) (by decide +kernel))) (by decide +kernel))) (hts _ wd_539) (hts _ wd_540) (hts _ (mem_hU (t_in3 (List.mem_of_getElem? (i := 61) (by decide +kernel))) (by decide +kernel))) (hE.2.2.2.2.2.2.2.2.2.1 _ (List.mem_of_getElem? (i := 0) rfl)) hK hP hD hS hA 0 0 rfl rfl hnm (fun i v hv => ?_) (Nat.le_of_ble_eq_true rfl) (Nat.le_of_ble_eq_true rfl) (Nat.le_of_ble_eq_true rfl) (show 0 + k ≤ N by omega) dJ7_copyOf_59c91_7 (fun q1 H _ hP hD hS => ?_)
    · have hv : (arrV (G.1 0) k (fun j => .int (f j))).slots[i]? = some v := hv
      have hi : i < k := by
        have := (Array.getElem?_eq_some_iff.mp hv).1
        rw [arrV_size] at this
        exact this
      rw [arrV_read _ _ hi] at hv
      cases hv
      rfl
    have hP := pfront hP
    have hD := dfront hD
    refine va_castA hx hb hown (hts _ wd_543) hP 0 rfl hnm dJ7_copyOf_59c91_10 ?_
    have hP : va_P D vwCl ((q1, .inl (G.1 0, k, .inl (cpI k k f))) :: (h0, .inl (G.1 0, k, .inl f)) :: B) H := by rw [e0]; exact hP
    have hD : va_D A ((q1, .inl (G.1 0, k, .inl (cpI k k f))) :: (h0, .inl (G.1 0, k, .inl f)) :: B) := by rw [e0]; exact hD
    refine W.widen (k := 1) (n := N) (Nat.le_of_ble_eq_true rfl) (show 0 + k ≤ N by omega) ?_
    exact W.aret (v := .ref q1) hx hb hr (Or.inr ⟨_, rfl⟩) (Or.inr ⟨_, rfl⟩) (q_endE (W' := fun q => (q 0, .inl (G.1 0, k, .inl (cpI k k f))) :: (h0, .inl (G.1 0, k, .inl f)) :: B) (rv := fun q => some (.ref (q 0))) (fun _ => q1) hK hP hD hS) hS.2.2 dJ7_copyOf_59c91_13
abbrev rm_wc : Room := { frames := 2, cells := 1, slots := 400, locals := 120 }
set_option maxRecDepth 100000 in
set_option maxHeartbeats 8000000 in
theorem e_X8_writtenCode (l : Launch) (D : va_G) (G : hG) (Z : hZ) (Y : va_W) (σ : hSt) (k : Nat) (hk : k ≤ 400) (hw : σ.1 1 5 = i32 (k : Int)) : CE l yX8_writtenCode cX8_writtenCode 1 (some (.array .int)) rm_wc D G 1 400 [.ref (G.2.1 1)] (hW G Z Y σ) (fun q => (q 0, .inl (G.1 0, k, .inl (cpI 400 k (σ.1 3)))) :: hW G Z Y σ) (fun q => some (.ref (q 0))) := by
  refine CE.mk (cc := cX8_writtenCode) (maxL := 1) (ret := some (.array .int)) (own := RX8) (plainFor_of_name (by decide)) rfl (Nat.le_of_ble_eq_true rfl) ?_
  intro p e s m args below meth c A ls C0 _ hA hP hD hl
  obtain ⟨hx, hb, hr, hml, hown, hts, hlocks, hK, hE⟩ := id C0
  have hS : va_S A s.heap s.heap [] := va_S.rf
  have hl : lv_has ls 1 [(0, .ref (G.2.1 1))] := hl
  refine lv_aload_n hx hb dX8_writtenCode_0 rfl (lv_at hl 0 rfl) ?_
  refine va_get (D := D) (ci := 8) (v := .ref (G.2.1 3)) (C := RX8) (T := TX8) (N := 6) hx hb hts inU_X8 hown hK hP _ (hg_1 G Z Y σ) rfl 1 (by decide) (hts _ wd_47) (fun _ h9 => h9) rfl dX8_writtenCode_1 ?_
  refine lv_iconst (v := (0 : Int32)) hx hb dX8_writtenCode_4 (by decide) ?_
  refine lv_aload_n hx hb dX8_writtenCode_5 rfl (lv_at hl 0 rfl) ?_
  refine va_get (D := D) (ci := 8) (v := .int (σ.1 1 5)) (C := RX8) (T := TX8) (N := 6) hx hb hts inU_X8 hown hK hP _ (hg_1 G Z Y σ) rfl 5 (by decide) (hts _ wd_55) (fun _ h9 => h9) rfl dX8_writtenCode_6 ?_
  refine lv_aload_n hx hb dX8_writtenCode_9 rfl (lv_at hl 0 rfl) ?_
  refine va_get (D := D) (ci := 8) (v := .ref (G.2.1 3)) (C := RX8) (T := TX8) (N := 6) hx hb hts inU_X8 hown hK hP _ (hg_1 G Z Y σ) rfl 1 (by decide) (hts _ wd_47) (fun _ h9 => h9) rfl dX8_writtenCode_10 ?_
  refine va_alen (ty := .int) (v := (400 : Int32)) hx hb hK hP _ 0 (hg_3 G Z Y σ) rfl rfl dX8_writtenCode_13 ?_
  refine va_mmin hx hb (hml.trans hl.1.symm) hown (hts _ wd_533) (hts _ wd_400) (hts _ wd_12) (hts _ wd_401) (Nat.le_of_ble_eq_true rfl) (Nat.le_of_ble_eq_true rfl) (Nat.zero_le _) (Nat.zero_le _) dX8_writtenCode_14 ?_
  rw [hw, if_neg (show ¬ (400 : Int32) < i32 (k : Int) from fun h => by have h2 := (ltI (a := 400) (by omega)).mp h; omega)]
  refine va_mmax hx hb (hml.trans hl.1.symm) hown (hts _ wd_327) (hts _ wd_328) (hts _ wd_12) (hts _ wd_329) (Nat.le_of_ble_eq_true rfl) (Nat.le_of_ble_eq_true rfl) (Nat.zero_le _) (Nat.zero_le _) dX8_writtenCode_17 ?_
  have e1 : (if (0 : Int32) < i32 (k : Int) then i32 (k : Int) else 0) = i32 (k : Int) := by
    by_cases c : (0 : Int32) < i32 (k : Int)
    · rw [if_pos c]
    · rw [if_neg c]
      have h2 := mt (ltI (a := 0) (b := (k : Int)) (by omega)).mpr c
      have : k = 0 := by omega
      subst this
      rfl
  rw [e1]
  have hp := pget (hg_3 G Z Y σ)
  have hP := pperm hp hP
  have hD := dperm hp hD
  refine cl_SE (w := _) (As := [.ref (G.2.1 3), .int (i32 (k : Int))]) (rest := []) (stk := fun q => [.ref (q 0)]) ⟨hx, hb, hml, hown, hts⟩ hK hE hA hP hD hS (e_J7_copyOf_59c91 l D G ((hW G Z Y σ).eraseIdx 3) (G.2.1 3) 400 k 400 (σ.1 3) (by decide) hk hk) (mkSE hts wd_534 wd_535 wd_19 wd_536 rfl rfl hd_J7_copyOf_59c91 ⟨Nat.le_of_ble_eq_true rfl, Nat.le_of_ble_eq_true rfl⟩) rfl hl.1 rfl (Nat.le_of_ble_eq_true rfl) dX8_writtenCode_20 ⟨Nat.le_of_ble_eq_true rfl, Nat.le_of_ble_eq_true rfl⟩ (fun _ => rfl) (fun q H locs hP hD hS => ?_)
  have hP := pperm (hp.symm.cons _) hP
  have hD := dperm (hp.symm.cons _) hD
  exact W.aret (v := .ref (q 0)) hx hb hr (Or.inr ⟨_, rfl⟩) (Or.inr ⟨_, rfl⟩) (q_endE (W' := fun q => (q 0, .inl (G.1 0, k, .inl (cpI 400 k (σ.1 3)))) :: hW G Z Y σ) (rv := fun q => some (.ref (q 0))) q hK hP hD hS) hS.2.2 dX8_writtenCode_23
