/-! the lists: ArrayList.add, with growth and without -/
abbrev rE (G : hG) (n : Nat) (f : Nat → Option Nat) : va_E := .inl (G.1 3, n, .inr (.inr (.inr (.inr f))))
abbrev lE (md : Int32) (E c : Nat) : va_E := .inr (0, [.int md, .ref E, .int (i32 (c : Int))])
/-- the new length of a full row -/
def nlL (n : Nat) : Nat := n + max 1 (n / 2)
abbrev rm_nl : Room := { frames := 1, cells := 0, slots := 0, locals := 40 }
set_option maxRecDepth 100000 in
set_option maxHeartbeats 8000000 in
theorem c_J8_newLength_h (l : Launch) (D : va_G) (G : hG) (w : va_W) (n : Nat) (h1 : 1 ≤ n) (h2 : n ≤ 1000) : CT l yJ8_newLength_cabcc cJ8_newLength_cabcc 4 (some .int) rm_nl D G 0 0 [.int (i32 (n : Int)), .int (1 : Int32), .int (i32 ((n / 2 : Nat) : Int))] w w (some (.int (i32 (nlL n : Int)))) := by
  refine CT.mk (cc := cJ8_newLength_cabcc) (maxL := 4) (ret := some .int) (own := RJ8) (plainFor_of_name (by decide)) rfl (Nat.le_of_ble_eq_true rfl) ?_
  intro p e s m args below meth c A ls C0 _ hA hP hD hl
  obtain ⟨hx, hb, hr, hml, hown, hts, hlocks, hK, hE⟩ := id C0
  have hS : va_S A s.heap s.heap [] := va_S.rf
  have hl : lv_has ls 4 [(0, .int (i32 (n : Int))), (1, .int (1 : Int32)), (2, .int (i32 ((n / 2 : Nat) : Int)))] := hl
  refine lv_iload_n hx hb dJ8_newLength_cabcc_0 rfl (lv_at hl 0 rfl) ?_
  refine lv_iload_n hx hb dJ8_newLength_cabcc_1 rfl (lv_at hl 1 rfl) ?_
  refine lv_iload_n hx hb dJ8_newLength_cabcc_2 rfl (lv_at hl 2 rfl) ?_
  refine va_mmax hx hb (hml.trans hl.1.symm) hown (hts _ wd_619) (hts _ wd_328) (hts _ wd_12) (hts _ wd_329) (Nat.le_of_ble_eq_true rfl) (Nat.le_of_ble_eq_true rfl) (Nat.zero_le _) (Nat.zero_le _) dJ8_newLength_cabcc_3 ?_
  have e1 : (if (1 : Int32) < i32 ((n / 2 : Nat) : Int) then i32 ((n / 2 : Nat) : Int) else 1) = i32 ((max 1 (n / 2) : Nat) : Int) := by
    by_cases c1 : (1 : Int32) < i32 ((n / 2 : Nat) : Int)
    · have := (ltI (a := 1) (by omega)).mp c1
      rw [if_pos c1]
      congr 1
      omega
    · have := mt (ltI (a := 1) (b := ((n / 2 : Nat) : Int)) (by omega)).mpr c1
      rw [if_neg c1]
      show i32 1 = _
      congr 1
      omega
  rw [e1]
  refine lv_iadd hx hb dJ8_newLength_cabcc_6 ?_
  have e2 : i32 (n : Int) + i32 ((max 1 (n / 2) : Nat) : Int) = i32 (nlL n : Int) := by
    rw [i32_add]
    congr 1
  rw [e2]
  have hb1 : 1 ≤ nlL n ∧ nlL n ≤ 2000 := by unfold nlL; omega
  refine lv_istore_n (lv' := [(3, .int (i32 (nlL n : Int))), (0, .int (i32 (n : Int))), (1, .int (1 : Int32)), (2, .int (i32 ((n / 2 : Nat) : Int)))]) hx hb dJ8_newLength_cabcc_7 rfl hl (by decide) rfl (fun ls hl => ?_)
  refine lv_iconst (v := (0 : Int32)) hx hb dJ8_newLength_cabcc_8 (by decide) ?_
  refine lv_iload_n hx hb dJ8_newLength_cabcc_9 rfl (lv_at hl 0 rfl) ?_
  refine lv_icmp_ge (tgt := 21) hx hb dJ8_newLength_cabcc_10 (by decide) (fun c1 => absurd c1 ?_) (fun c1 => ?_)
  · exact fun h => by have := (leI (b := 0) (by omega)).mp h; omega
  · refine lv_iload_n hx hb dJ8_newLength_cabcc_13 rfl (lv_at hl 0 rfl) ?_
    refine lv_ldc (v := 2147483639) hx hb hown (hts _ wd_620) dJ8_newLength_cabcc_14 ?_
    refine lv_icmp_gt (tgt := 21) hx hb dJ8_newLength_cabcc_16 (by decide) (fun c2 => absurd c2 ?_) (fun c2 => ?_)
    · exact fun h => by have := (ltI (a := 2147483639) (by omega)).mp h; omega
    · refine lv_iload_n hx hb dJ8_newLength_cabcc_19 rfl (lv_at hl 0 rfl) ?_
      exact W.iret (v := i32 (nlL n : Int)) hx hb hr (q_end hK hP hD hS) hS.2.2 dJ8_newLength_cabcc_20
/-- the things of a row stand in the world, all of one class -/
def inR (B : va_W) (ci n : Nat) (f : Nat → Option Nat) : Prop := ∀ i, i < n → ∀ y, f i = some y → ∃ (j : Nat) (vs : List Value), B[j]? = some (y, .inr (ci, vs))
abbrev rm_c3 : Room := { frames := 1, cells := 1, slots := 40, locals := 60 }
set_option maxRecDepth 100000 in
set_option maxHeartbeats 8000000 in
theorem e_J7_copyOf_6403c (l : Launch) (D : va_G) (G : hG) (B : va_W) (E n k ci cj : Nat) (f : Nat → Option Nat) (qc : vw_C) (hc : vwCl[ci]? = some qc) (hj : castL[cj]? = some (qc.1, "java/lang/Object")) (hR : inR B ci n f) (hn : n ≤ k) (hk : k ≤ 40) : CE l yJ7_copyOf_6403c cJ7_copyOf_6403c 4 (some (.array (.object "java/lang/Object"))) rm_c3 D G 1 40 [.ref E, .int (i32 (k : Int)), .ref (G.2.2 201)] ((E, rE G n f) :: B) (fun q => (q 0, rE G k (va_cpy f (fun _ => none) 0 0 n)) :: (E, rE G n f) :: B) (fun q => some (.ref (q 0))) := by
  refine CE.mk (cc := cJ7_copyOf_6403c) (maxL := 4) (ret := some (.array (.object "java/lang/Object"))) (own := RJ7) (plainFor_of_name (by decide)) rfl (Nat.le_of_ble_eq_true rfl) ?_
  intro p e s m args below meth c A ls C0 _ hA hP hD hl
  obtain ⟨hx, hb, hr, hml, hown, hts, hlocks, hK, hE⟩ := id C0
  have hS : va_S A s.heap s.heap [] := va_S.rf
  have hl : lv_has ls 4 [(0, .ref E), (1, .int (i32 (k : Int))), (2, .ref (G.2.2 201))] := hl
  have hki : (i32 (k : Int)).toNatClampNeg = k := i32_cn (by omega)
  have hni : (i32 (n : Int)).toNatClampNeg = n := i32_cn (by omega)
  have hk0 : ¬ i32 (k : Int) < 0 := fun h => by have h2 := (ltI (b := 0) (by omega)).mp h; omega
  have hn0 : ¬ i32 (n : Int) < 0 := fun h => by have h2 := (ltI (b := 0) (by omega)).mp h; omega
  refine lv_aload_n hx hb dJ7_copyOf_6403c_0 rfl (lv_at hl 2 rfl) ?_
  refine va_ldcM hx hb hown (hts _ wd_648) hE.2.2.2.2.2.2.2.2.2.2.2 dJ7_copyOf_6403c_1 ?_
  refine lv_acmp_ne (rx := some (G.2.2 201)) (ry := some (G.2.2 201)) (tgt := 13) hx hb dJ7_copyOf_6403c_3 (by decide) (fun c1 => absurd rfl c1) (fun _ => ?_)
  refine lv_iload_n hx hb dJ7_copyOf_6403c_6 rfl (lv_at hl 1 rfl) ?_
  refine va_newq (N' := k) hx hb hown (hts _ wd_650) hE.2.2.2.2.2.2.2.2.1 hK hP hD hS hA hk0 hki (show k * 4 ≤ 536870912 by omega) (Nat.le_of_ble_eq_true rfl) (show 0 + k ≤ 40 by omega) dJ7_copyOf_6403c_7 (fun q1 cA H hK1 hP hD hS => ?_)
  have e : cA = G.1 3 := ra_uniq (hK1.2 (tysG G).length (cA, .object "java/lang/Object") (by rw [List.getElem?_append_right (Nat.le_refl _), Nat.sub_self]; rfl)).2 (hK.2 3 _ rfl).2
  subst e
  have hP := pfront hP
  have hD := dfront hD
  refine lv_goto (tgt := 24) hx hb dJ7_copyOf_6403c_10 (by decide) ?_
  refine lv_astore_n (lv' := [(3, .ref q1), (0, .ref E), (1, .int (i32 (k : Int))), (2, .ref (G.2.2 201))]) hx hb dJ7_copyOf_6403c_24 rfl hl (by decide) rfl (fun ls hl => ?_)
  refine lv_aload_n hx hb dJ7_copyOf_6403c_25 rfl (lv_at hl 1 rfl) ?_
  refine lv_iconst (v := (0 : Int32)) hx hb dJ7_copyOf_6403c_26 (by decide) ?_
  refine lv_aload_n hx hb dJ7_copyOf_6403c_27 rfl (lv_at hl 0 rfl) ?_
  refine lv_iconst (v := (0 : Int32)) hx hb dJ7_copyOf_6403c_28 (by decide) ?_
  refine lv_aload_n hx hb dJ7_copyOf_6403c_29 rfl (lv_at hl 1 rfl) ?_
  refine va_alen (ty := .object "java/lang/Object") (v := i32 (n : Int)) hx hb hK hP 1 3 rfl rfl (i32_nat n) dJ7_copyOf_6403c_30 ?_
  refine lv_iload_n hx hb dJ7_copyOf_6403c_31 rfl (lv_at hl 2 rfl) ?_
  refine va_mmin hx hb (hml.trans hl.1.symm) hown (hts _ wd_544) (hts _ wd_400) (hts _ wd_12) (hts _ wd_401) (Nat.le_of_ble_eq_true rfl) (Nat.le_of_ble_eq_true rfl) (Nat.le_of_ble_eq_true rfl) (show 0 + k ≤ 40 by omega) dJ7_copyOf_6403c_32 ?_
  rw [if_neg (show ¬ i32 (k : Int) < i32 (n : Int) from fun h => by have := (ltI (by omega)).mp h; omega)]
  have hcl := (hK.1 ci qc hc).2
  refine va_copyq (C := qc.1) hx hb (hml.trans hl.1.symm) hown (hts _ wd_545) (hts _ wd_547) (hts _ wd_546) (hts _ wd_20) hK hP hD hS 1 0 3 3 (f := f) (g := fun _ => none) (n0 := n) (n1 := k) (E0 := "java/lang/Object") (E1 := "java/lang/Object") rfl rfl rfl rfl (by decide) (by decide) hn0 (by rw [hni]; show 0 + n ≤ n; omega) (by rw [hni]; show 0 + n ≤ k; omega) (fun i hi y hy => ?_) (fun comp c0 g1 g2 => ?_) (Nat.le_of_ble_eq_true rfl) (by decide +kernel) dJ7_copyOf_6403c_35 (fun H locs hP hD hS => ?_)
  · rw [hni] at hi
    have hy : f i = some y := by rw [← hy]; congr 1; show i = 0 + i; omega
    obtain ⟨j, vs, hj⟩ := hR i hi y hy
    exact va_recv hK hP hc (q0 := j + 2) hj
  · obtain ⟨c2, t2, f1, f2, f3⟩ := Cond.castable_spec (va_Nw.use (A := args) rfl (hE.2.2.2.2.2.2.2.2.2.1 _ (List.mem_of_getElem? hj)))
    cases f1.symm.trans g2
    cases f2.symm.trans g1
    exact f3
  · have e0 : va_cpy f (fun _ => none) 0 0 n = va_cpy f (fun _ => none) (0 : Int32).toNatClampNeg (0 : Int32).toNatClampNeg (i32 (n : Int)).toNatClampNeg := by
      rw [hni]
      rfl
    have hP : va_P D vwCl ((q1, rE G k (va_cpy f (fun _ => none) 0 0 n)) :: (E, rE G n f) :: B) H := by rw [e0]; exact hP
    have hD : va_D A ((q1, rE G k (va_cpy f (fun _ => none) 0 0 n)) :: (E, rE G n f) :: B) := by rw [e0]; exact hD
    refine lv_aload_n hx hb dJ7_copyOf_6403c_38 rfl (lv_at hl 0 rfl) ?_
    refine W.widen (k := 1) (n := 40) (Nat.le_of_ble_eq_true rfl) (show 0 + k ≤ 40 by omega) ?_
    exact W.aret (v := .ref q1) hx hb hr (Or.inr ⟨_, rfl⟩) (Or.inr ⟨_, rfl⟩) (q_endE (W' := fun q => (q 0, rE G k (va_cpy f (fun _ => none) 0 0 n)) :: (E, rE G n f) :: B) (rv := fun q => some (.ref (q 0))) (fun _ => q1) hK hP hD hS) hS.2.2 dJ7_copyOf_6403c_39
abbrev rm_c2 : Room := { frames := 2, cells := 1, slots := 40, locals := 100 }
set_option maxRecDepth 100000 in
set_option maxHeartbeats 8000000 in
theorem e_J7_copyOf_1904c (l : Launch) (D : va_G) (G : hG) (B : va_W) (E n k ci cj : Nat) (f : Nat → Option Nat) (qc : vw_C) (hc : vwCl[ci]? = some qc) (hj : castL[cj]? = some (qc.1, "java/lang/Object")) (hR : inR B ci n f) (hn : n ≤ k) (hk : k ≤ 40) : CE l yJ7_copyOf_1904c cJ7_copyOf_1904c 2 (some (.array (.object "java/lang/Object"))) rm_c2 D G 1 40 [.ref E, .int (i32 (k : Int))] ((E, rE G n f) :: B) (fun q => (q 0, rE G k (va_cpy f (fun _ => none) 0 0 n)) :: (E, rE G n f) :: B) (fun q => some (.ref (q 0))) := by
  refine CE.mk (cc := cJ7_copyOf_1904c) (maxL := 2) (ret := some (.array (.object "java/lang/Object"))) (own := RJ7) (plainFor_of_name (by decide)) rfl (Nat.le_of_ble_eq_true rfl) ?_
  intro p e s m args below meth c A ls C0 _ hA hP hD hl
  obtain ⟨hx, hb, hr, hml, hown, hts, hlocks, hK, hE⟩ := id C0
  have hS : va_S A s.heap s.heap [] := va_S.rf
  have hl : lv_has ls 2 [(0, .ref E), (1, .int (i32 (k : Int)))] := hl
  have hnm : s.vm.findClass "[Ljava/lang/Object;" = some (G.1 3) := by
    obtain ⟨_, _, _, _, _, h4⟩ := (hK.2 3 _ rfl).2
    exact h4
  refine lv_aload_n hx hb dJ7_copyOf_1904c_0 rfl (lv_at hl 0 rfl) ?_
  refine lv_iload_n hx hb dJ7_copyOf_1904c_1 rfl (lv_at hl 1 rfl) ?_
  refine lv_aload_n hx hb dJ7_copyOf_1904c_2 rfl (lv_at hl 0 rfl) ?_
  refine va_getC (C := "[Ljava/lang/Object;") hx hb (hml.trans hl.1.symm) hown (hts _ wd_627) (va_Nw.use rfl hE.2.2.2.2.2.2.2.2.2.2.1) (hts _ (mem_hU (t_in8 (List.mem_of_getElem? (i := 218) (by decide +kernel))) (by decide +kernel))) (hts _ wd_628) (hts _ wd_644) hE.2.2.2.2.2.2.2.2.2.2.2 ⟨_, hP 0 _ rfl, rfl, hnm⟩ (Nat.le_of_ble_eq_true rfl) (Nat.le_of_ble_eq_true rfl) dJ7_copyOf_1904c_3 ?_
  refine cl_SE (w := (E, rE G n f) :: B) (As := [.ref E, .int (i32 (k : Int)), .ref (G.2.2 201)]) (rest := []) (stk := fun q => [.ref (q 0)]) ⟨hx, hb, hml, hown, hts⟩ hK hE hA hP hD hS (e_J7_copyOf_6403c l D G B E n k ci cj f qc hc hj hR hn hk) (mkSE hts wd_645 wd_646 wd_19 wd_647 rfl rfl hd_J7_copyOf_6403c ⟨Nat.le_of_ble_eq_true rfl, Nat.le_of_ble_eq_true rfl⟩) rfl hl.1 rfl (Nat.le_of_ble_eq_true rfl) dJ7_copyOf_1904c_6 ⟨Nat.le_of_ble_eq_true rfl, Nat.le_of_ble_eq_true rfl⟩ (fun _ => rfl) (fun q H locs hP hD hS => ?_)
  exact W.aret (v := .ref (q 0)) hx hb hr (Or.inr ⟨_, rfl⟩) (Or.inr ⟨_, rfl⟩) (q_endE (W' := fun q => (q 0, rE G k (va_cpy f (fun _ => none) 0 0 n)) :: (E, rE G n f) :: B) (rv := fun q => some (.ref (q 0))) q hK hP hD hS) hS.2.2 dJ7_copyOf_1904c_9
/-- what growing needs: the row is full and in the world, or it's the empty one -/
def gwR (G : hG) (E c : Nat) (X : va_W) (ci : Nat) (n' : Nat) (f' : Nat → Option Nat) : Prop := (∃ (B : va_W) (f : Nat → Option Nat), X = (E, rE G c f) :: B ∧ inR B ci c f ∧ 1 ≤ c ∧ c ≤ 25 ∧ n' = nlL c ∧ f' = va_cpy f (fun _ => none) 0 0 c) ∨ (E = G.2.2 200 ∧ c = 0 ∧ n' = 10 ∧ f' = fun _ => none)
theorem gwR.c {G : hG} {E c : Nat} {X : va_W} {ci n' : Nat} {f' : Nat → Option Nat} (h : gwR G E c X ci n' f') : c ≤ 25 ∧ c < n' ∧ n' ≤ 40 := by
  rcases h with ⟨_, _, _, _, h1, h2, h3, _⟩ | ⟨_, h1, h2, _⟩
  · subst h3; unfold nlL; omega
  · omega
abbrev rm_g1 : Room := { frames := 3, cells := 1, slots := 40, locals := 140 }
set_option maxRecDepth 100000 in
set_option maxHeartbeats 8000000 in
theorem e_grow1 (l : Launch) (D : va_G) (G : hG) (hL E c : Nat) (md : Int32) (X : va_W) (ci cj n' : Nat) (f' : Nat → Option Nat) (qc : vw_C) (hc : vwCl[ci]? = some qc) (hj : castL[cj]? = some (qc.1, "java/lang/Object")) (hX : gwR G E c X ci n' f') : CE l yJx4a65c_grow_92f84 cJx4a65c_grow_92f84 4 (some (.array (.object "java/lang/Object"))) rm_g1 D G 1 40 [.ref hL, .int (i32 ((c + 1 : Nat) : Int))] ((hL, lE md E c) :: X) (fun q => (q 0, rE G n' f') :: (hL, lE md (q 0) c) :: X) (fun q => some (.ref (q 0))) := by
  refine CE.mk (cc := cJx4a65c_grow_92f84) (maxL := 4) (ret := some (.array (.object "java/lang/Object"))) (own := RJx4a65c) (plainFor_of_name (by decide)) rfl (Nat.le_of_ble_eq_true rfl) ?_
  intro p e s m args below meth c_ A ls C0 _ hA hP hD hl
  obtain ⟨hx, hb, hr, hml, hown, hts, hlocks, hK, hE⟩ := id C0
  have hS : va_S A s.heap s.heap [] := va_S.rf
  have hl : lv_has ls 4 [(0, .ref hL), (1, .int (i32 ((c + 1 : Nat) : Int)))] := hl
  refine lv_aload_n hx hb dJx4a65c_grow_92f84_0 rfl (lv_at hl 0 rfl) ?_
  refine va_get (D := D) (ci := 0) (v := .ref E) (C := RJx4a65c) (T := TJx4a65c) (N := 3) hx hb hts inU_Jx4a65c hown hK hP 0 rfl rfl 1 (by decide) (hts _ wd_223) (fun _ h9 => h9) rfl dJx4a65c_grow_92f84_1 ?_
  rcases hX with ⟨B, f, rfl, hR, h1, h2, rfl, rfl⟩ | ⟨rfl, rfl, rfl, rfl⟩
  · have hnl : nlL c ≤ 40 ∧ c ≤ nlL c := by unfold nlL; omega
    refine va_alen (ty := .object "java/lang/Object") (v := i32 (c : Int)) hx hb hK hP 1 3 rfl rfl (i32_nat c) dJx4a65c_grow_92f84_4 ?_
    refine lv_istore_n (lv' := [(2, .int (i32 (c : Int))), (0, .ref hL), (1, .int (i32 ((c + 1 : Nat) : Int)))]) hx hb dJx4a65c_grow_92f84_5 rfl hl (by decide) rfl (fun ls hl => ?_)
    refine lv_iload_n hx hb dJx4a65c_grow_92f84_6 rfl (lv_at hl 0 rfl) ?_
    refine lv_if_gt (tgt := 20) hx hb dJx4a65c_grow_92f84_7 (by decide) (fun _ => ?_) (fun c1 => absurd ((ltI (a := 0) (b := (c : Int)) (by omega)).mpr (by omega)) c1)
    refine lv_iload_n hx hb dJx4a65c_grow_92f84_20 rfl (lv_at hl 0 rfl) ?_
    refine lv_iload_n hx hb dJx4a65c_grow_92f84_21 rfl (lv_at hl 2 rfl) ?_
    refine lv_iload_n hx hb dJx4a65c_grow_92f84_22 rfl (lv_at hl 0 rfl) ?_
    refine lv_isub hx hb dJx4a65c_grow_92f84_23 ?_
    refine lv_iload_n hx hb dJx4a65c_grow_92f84_24 rfl (lv_at hl 0 rfl) ?_
    refine lv_iconst (v := (1 : Int32)) hx hb dJx4a65c_grow_92f84_25 (by decide) ?_
    refine lv_ishr hx hb dJx4a65c_grow_92f84_26 ?_
    have e1 : i32 ((c + 1 : Nat) : Int) - i32 (c : Int) = 1 := by
      rw [i32_sub, show ((c + 1 : Nat) : Int) - (c : Int) = 1 by omega]
      rfl
    have e2 : i32 (c : Int) >>> ((1 : Int32) &&& 31) = i32 ((c / 2 : Nat) : Int) := by
      rw [show (1 : Int32) = i32 ((1 : Nat) : Int) from rfl, i32_shr (by decide) (by omega)]
      congr 1
    rw [e1, e2]
    refine cl_S (w := (hL, lE md E c) :: (E, rE G c f) :: B) (w' := (hL, lE md E c) :: (E, rE G c f) :: B) (rv := some (.int (i32 (nlL c : Int)))) (As := [.int (i32 (c : Int)), .int (1 : Int32), .int (i32 ((c / 2 : Nat) : Int))]) (rest := []) (stk := [.int (i32 (nlL c : Int))]) ⟨hx, hb, hml, hown, hts⟩ hK hE hA hP hD hS (c_J8_newLength_h l D G _ c h1 (by omega)) (mkS hts wd_616 wd_617 wd_21 wd_618 rfl rfl hd_J8_newLength_cabcc ⟨Nat.le_of_ble_eq_true rfl, Nat.le_of_ble_eq_true rfl⟩) rfl hl.1 rfl (Nat.le_of_ble_eq_true rfl) dJx4a65c_grow_92f84_27 ⟨Nat.zero_le _, Nat.zero_le _⟩ rfl (fun H locs hP hD hS => ?_)
    refine lv_istore_n (lv' := [(3, .int (i32 (nlL c : Int))), (2, .int (i32 (c : Int))), (0, .ref hL), (1, .int (i32 ((c + 1 : Nat) : Int)))]) hx hb dJx4a65c_grow_92f84_30 rfl hl (by decide) rfl (fun ls hl => ?_)
    refine lv_aload_n hx hb dJx4a65c_grow_92f84_31 rfl (lv_at hl 2 rfl) ?_
    refine lv_aload_n hx hb dJx4a65c_grow_92f84_32 rfl (lv_at hl 2 rfl) ?_
    refine va_get (D := D) (ci := 0) (v := .ref E) (C := RJx4a65c) (T := TJx4a65c) (N := 3) hx hb hts inU_Jx4a65c hown hK hP 0 rfl rfl 1 (by decide) (hts _ wd_223) (fun _ h9 => h9) rfl dJx4a65c_grow_92f84_33 ?_
    refine lv_iload_n hx hb dJx4a65c_grow_92f84_36 rfl (lv_at hl 0 rfl) ?_
    have hp : ((hL, lE md E c) :: (E, rE G c f) :: B).Perm ((E, rE G c f) :: (hL, lE md E c) :: B) := List.Perm.swap _ _ _
    have hP := pperm hp hP
    have hD := dperm hp hD
    refine cl_SE (w := (E, rE G c f) :: (hL, lE md E c) :: B) (As := [.ref E, .int (i32 (nlL c : Int))]) (rest := [.ref hL]) (stk := fun q => [.ref (q 0), .ref hL]) ⟨hx, hb, hml, hown, hts⟩ hK hE hA hP hD hS (e_J7_copyOf_1904c l D G ((hL, lE md E c) :: B) E c (nlL c) ci cj f qc hc hj (fun i hi y hy => by obtain ⟨j, vs, h⟩ := hR i hi y hy; exact ⟨j + 1, vs, h⟩) hnl.2 hnl.1) (mkSE hts wd_624 wd_625 wd_19 wd_626 rfl rfl hd_J7_copyOf_1904c ⟨Nat.le_of_ble_eq_true rfl, Nat.le_of_ble_eq_true rfl⟩) rfl hl.1 rfl (Nat.le_of_ble_eq_true rfl) dJx4a65c_grow_92f84_37 ⟨Nat.le_of_ble_eq_true rfl, Nat.le_of_ble_eq_true rfl⟩ (fun _ => rfl) (fun q H locs hP hD hS => ?_)
    refine lv_dup_x1 hx hb dJx4a65c_grow_92f84_40 rfl rfl ?_
    refine va_put (D := D) (ci := 0) (v := .ref (q 0)) (ty := .array (.object "java/lang/Object")) (C := RJx4a65c) (T := TJx4a65c) (N := 3) hx hb hts inU_Jx4a65c tyJx4a65c tyJx4a65c_ok nmJx4a65c hown hK hP hD hS 2 rfl rfl 1 (by decide) (hts _ wd_223) (fun _ h9 => h9) rfl (by decide +kernel) rfl rfl (Nat.le_of_ble_eq_true rfl) dJx4a65c_grow_92f84_41 (fun H locs hP hD hS => ?_)
    have hp2 : ((q 0, rE G (nlL c) (va_cpy f (fun _ => none) 0 0 c)) :: (E, rE G c f) :: (hL, lE md (q 0) c) :: B).Perm ((q 0, rE G (nlL c) (va_cpy f (fun _ => none) 0 0 c)) :: (hL, lE md (q 0) c) :: (E, rE G c f) :: B) := (List.Perm.swap _ _ _).cons _
    have hP := pperm hp2 hP
    have hD := dperm hp2 hD
    exact W.aret (v := .ref (q 0)) hx hb hr (Or.inr ⟨_, rfl⟩) (Or.inr ⟨_, rfl⟩) (q_endE (W' := fun q => (q 0, rE G (nlL c) (va_cpy f (fun _ => none) 0 0 c)) :: (hL, lE md (q 0) c) :: (E, rE G c f) :: B) (rv := fun q => some (.ref (q 0))) q hK hP hD hS) hS.2.2 dJx4a65c_grow_92f84_44
  · have hT := hE.2.2.2.1
    refine va_tlen (v := (0 : Int32)) hx hb hT hS rfl dJx4a65c_grow_92f84_4 ?_
    refine lv_istore_n (lv' := [(2, .int (0 : Int32)), (0, .ref hL), (1, .int (i32 ((0 + 1 : Nat) : Int)))]) hx hb dJx4a65c_grow_92f84_5 rfl hl (by decide) rfl (fun ls hl => ?_)
    refine lv_iload_n hx hb dJx4a65c_grow_92f84_6 rfl (lv_at hl 0 rfl) ?_
    refine lv_if_gt (tgt := 20) hx hb dJx4a65c_grow_92f84_7 (by decide) (fun c1 => absurd c1 (by decide)) (fun c1 => ?_)
    refine lv_aload_n hx hb dJx4a65c_grow_92f84_10 rfl (lv_at hl 1 rfl) ?_
    refine va_get (D := D) (ci := 0) (v := .ref (G.2.2 200)) (C := RJx4a65c) (T := TJx4a65c) (N := 3) hx hb hts inU_Jx4a65c hown hK hP 0 rfl rfl 1 (by decide) (hts _ wd_223) (fun _ h9 => h9) rfl dJx4a65c_grow_92f84_11 ?_
    refine va_gets hx hb hE.2.2.1 hS hown (hts _ wd_221) (fun _ h9 => h9) dJx4a65c_grow_92f84_14 ?_
    refine lv_acmp_eq (rx := some (G.2.2 200)) (ry := some (G.2.2 200)) (tgt := 45) hx hb dJx4a65c_grow_92f84_17 (by decide) (fun _ => ?_) (fun c1 => absurd rfl c1)
    refine lv_aload_n hx hb dJx4a65c_grow_92f84_45 rfl (lv_at hl 1 rfl) ?_
    refine lv_bipush (v := 10) hx hb dJx4a65c_grow_92f84_46 (by decide) ?_
    refine lv_iload_n hx hb dJx4a65c_grow_92f84_48 rfl (lv_at hl 2 rfl) ?_
    refine va_mmax hx hb (hml.trans hl.1.symm) hown (hts _ wd_651) (hts _ wd_328) (hts _ wd_12) (hts _ wd_329) (Nat.le_of_ble_eq_true rfl) (Nat.le_of_ble_eq_true rfl) (Nat.zero_le _) (Nat.zero_le _) dJx4a65c_grow_92f84_49 ?_
    rw [show (if (10 : Int32) < i32 ((0 + 1 : Nat) : Int) then i32 ((0 + 1 : Nat) : Int) else 10) = 10 from by decide]
    refine va_newq (N' := 10) hx hb hown (hts _ wd_652) hE.2.2.2.2.2.2.2.2.1 hK hP hD hS hA (by decide) (by decide) (by decide) (Nat.le_of_ble_eq_true rfl) (Nat.le_of_ble_eq_true rfl) dJx4a65c_grow_92f84_52 (fun q1 cA H hK1 hP hD hS => ?_)
    have e : cA = G.1 3 := ra_uniq (hK1.2 (tysG G).length (cA, .object "java/lang/Object") (by rw [List.getElem?_append_right (Nat.le_refl _), Nat.sub_self]; rfl)).2 (hK.2 3 _ rfl).2
    subst e
    have hP := pfront hP
    have hD := dfront hD
    refine lv_dup_x1 hx hb dJx4a65c_grow_92f84_55 rfl rfl ?_
    refine va_put (D := D) (ci := 0) (v := .ref q1) (ty := .array (.object "java/lang/Object")) (C := RJx4a65c) (T := TJx4a65c) (N := 3) hx hb hts inU_Jx4a65c tyJx4a65c tyJx4a65c_ok nmJx4a65c hown hK hP hD hS 1 rfl rfl 1 (by decide) (hts _ wd_223) (fun _ h9 => h9) rfl (by decide +kernel) rfl rfl (Nat.le_of_ble_eq_true rfl) dJx4a65c_grow_92f84_56 (fun H locs hP hD hS => ?_)
    refine W.widen (k := 1) (n := 40) (Nat.le_of_ble_eq_true rfl) (Nat.le_of_ble_eq_true rfl) ?_
    exact W.aret (v := .ref q1) hx hb hr (Or.inr ⟨_, rfl⟩) (Or.inr ⟨_, rfl⟩) (q_endE (W' := fun q => (q 0, rE G 10 (fun _ => none)) :: (hL, lE md (q 0) 0) :: X) (rv := fun q => some (.ref (q 0))) (fun _ => q1) hK hP hD hS) hS.2.2 dJx4a65c_grow_92f84_59
abbrev rm_g0 : Room := { frames := 4, cells := 1, slots := 40, locals := 180 }
set_option maxRecDepth 100000 in
set_option maxHeartbeats 8000000 in
theorem e_grow0 (l : Launch) (D : va_G) (G : hG) (hL E c : Nat) (md : Int32) (X : va_W) (ci cj n' : Nat) (f' : Nat → Option Nat) (qc : vw_C) (hc : vwCl[ci]? = some qc) (hj : castL[cj]? = some (qc.1, "java/lang/Object")) (hX : gwR G E c X ci n' f') : CE l yJx4a65c_grow_d5877 cJx4a65c_grow_d5877 1 (some (.array (.object "java/lang/Object"))) rm_g0 D G 1 40 [.ref hL] ((hL, lE md E c) :: X) (fun q => (q 0, rE G n' f') :: (hL, lE md (q 0) c) :: X) (fun q => some (.ref (q 0))) := by
  refine CE.mk (cc := cJx4a65c_grow_d5877) (maxL := 1) (ret := some (.array (.object "java/lang/Object"))) (own := RJx4a65c) (plainFor_of_name (by decide)) rfl (Nat.le_of_ble_eq_true rfl) ?_
  intro p e s m args below meth c_ A ls C0 _ hA hP hD hl
  obtain ⟨hx, hb, hr, hml, hown, hts, hlocks, hK, hE⟩ := id C0
  have hS : va_S A s.heap s.heap [] := va_S.rf
  have hl : lv_has ls 1 [(0, .ref hL)] := hl
  refine lv_aload_n hx hb dJx4a65c_grow_d5877_0 rfl (lv_at hl 0 rfl) ?_
  refine lv_aload_n hx hb dJx4a65c_grow_d5877_1 rfl (lv_at hl 0 rfl) ?_
  refine va_get (D := D) (ci := 0) (v := .int (i32 (c : Int))) (C := RJx4a65c) (T := TJx4a65c) (N := 3) hx hb hts inU_Jx4a65c hown hK hP 0 rfl rfl 2 (by decide) (hts _ wd_224) (fun _ h9 => h9) rfl dJx4a65c_grow_d5877_2 ?_
  refine lv_iconst (v := (1 : Int32)) hx hb dJx4a65c_grow_d5877_5 (by decide) ?_
  refine lv_iadd hx hb dJx4a65c_grow_d5877_6 ?_
  have e1 : i32 (c : Int) + 1 = i32 ((c + 1 : Nat) : Int) := by rw [show (1 : Int32) = i32 1 from rfl, i32_add]; rfl
  rw [e1]
  refine cl_VE (C := RJx4a65c) (w := (hL, lE md E c) :: X) (As := [.int (i32 ((c + 1 : Nat) : Int))]) (rest := []) (stk := fun q => [.ref (q 0)]) ⟨hx, hb, hml, hown, hts⟩ hK hE hA hP hD hS (e_grow1 l D G hL E c md X ci cj n' f' qc hc hj hX) (cwV 1 hts (gwV wd_612 wd_614 wp_18 wd_10 wd_615) rfl rfl rfl hd_Jx4a65c_grow_92f84 ⟨Nat.le_of_ble_eq_true rfl, Nat.le_of_ble_eq_true rfl⟩) (q0 := 0) rfl rfl rfl rfl hl.1 rfl (Nat.le_of_ble_eq_true rfl) dJx4a65c_grow_d5877_7 ⟨Nat.le_of_ble_eq_true rfl, Nat.le_of_ble_eq_true rfl⟩ (fun _ => rfl) (fun q H locs hP hD hS => ?_)
  exact W.aret (v := .ref (q 0)) hx hb hr (Or.inr ⟨_, rfl⟩) (Or.inr ⟨_, rfl⟩) (q_endE (W' := fun q => (q 0, rE G n' f') :: (hL, lE md (q 0) c) :: X) (rv := fun q => some (.ref (q 0))) q hK hP hD hS) hS.2.2 dJx4a65c_grow_d5877_10
