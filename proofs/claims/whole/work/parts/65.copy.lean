/-! making by the JDK's rows: Arrays.copyOf of ints, Tape.writtenCode -/
def cpI (n k : Nat) (f : Nat → Int32) : Nat → Int32 := if k = n then f else va_cpy f (fun _ => 0) 0 0 k
theorem cpI_at {n k : Nat} {f : Nat → Int32} {i : Nat} (h : i < k) : cpI n k f i = f i := by
  unfold cpI
  by_cases c : k = n
  · rw [if_pos c]
  · rw [if_neg c]
    unfold va_cpy
    rw [if_pos ⟨Nat.zero_le _, by omega⟩]
    congr 1
    omega
abbrev rm_cp (N : Nat) : Room := { frames := 1, cells := 1, slots := N, locals := 60 }
set_option maxRecDepth 100000 in
set_option maxHeartbeats 8000000 in
theorem e_J7_copyOf_59c91 (l : Launch) (D : va_G) (G : hG) (B : va_W) (h0 : Nat) (n k N : Nat) (f : Nat → Int32) (hn : n ≤ 100000) (hk : k ≤ n) (hN : k ≤ N) : CE l yJ7_copyOf_59c91 cJ7_copyOf_59c91 3 (some (.array .int)) (rm_cp N) D G 1 N [.ref h0, .int (i32 (k : Int))] ((h0, .inl (G.1 0, n, .inl f)) :: B) (fun q => (q 0, .inl (G.1 0, k, .inl (cpI n k f))) :: (h0, .inl (G.1 0, n, .inl f)) :: B) (fun q => some (.ref (q 0))) := by
  refine CE.mk (cc := cJ7_copyOf_59c91) (maxL := 3) (ret := some (.array .int)) (own := RJ7) (plainFor_of_name (by decide)) rfl (Nat.le_of_ble_eq_true rfl) ?_
  intro p e s m args below meth c A ls C0 _ hA hP hD hl
  obtain ⟨hx, hb, hr, hml, hown, hts, hlocks, hK, hE⟩ := id C0
  have hS : va_S A s.heap s.heap [] := va_S.rf
  have hl : lv_has ls 3 [(0, .ref h0), (1, .int (i32 (k : Int)))] := hl
  have hki : (i32 (k : Int)).toNatClampNeg = k := i32_cn (by omega)
  have hk0 : ¬ i32 (k : Int) < 0 := fun h => by have h2 := (ltI (b := 0) (by omega)).mp h; omega
  have hnm : s.vm.findClass "[I" = some (G.1 0) := (hK.2 0 _ rfl).2
  refine lv_iload_n hx hb dJ7_copyOf_59c91_0 rfl (lv_at hl 1 rfl) ?_
  refine lv_aload_n hx hb dJ7_copyOf_59c91_1 rfl (lv_at hl 0 rfl) ?_
  refine va_alen (ty := .int) (v := i32 (n : Int)) hx hb hK hP 0 0 rfl rfl (i32_nat n) dJ7_copyOf_59c91_2 ?_
  refine lv_icmp_ne (tgt := 14) hx hb dJ7_copyOf_59c91_3 (by decide) (fun c1 => ?_) (fun c1 => ?_)
  · have hne : k ≠ n := fun h => c1 (by rw [h])
    refine lv_iload_n hx hb dJ7_copyOf_59c91_14 rfl (lv_at hl 1 rfl) ?_
    refine q_newa (atype := .int) (ty := .int) (N' := k) (a0 := (k, .inl (fun _ => 0))) hx hb wd_69 hts rfl hK 0 rfl hP hD hS hA (fun _ => rfl) hk0 hki (show k * 4 ≤ 536870912 by omega) (Nat.le_of_ble_eq_true rfl) (show 0 + k ≤ N by omega) dJ7_copyOf_59c91_15 (fun q1 H hP hD hS => ?_)
    refine lv_astore_n (lv' := [(2, .ref q1), (0, .ref h0), (1, .int (i32 (k : Int)))]) hx hb dJ7_copyOf_59c91_17 rfl hl (by decide) rfl (fun ls hl => ?_)
    refine lv_aload_n hx hb dJ7_copyOf_59c91_18 rfl (lv_at hl 1 rfl) ?_
    refine lv_iconst (v := (0 : Int32)) hx hb dJ7_copyOf_59c91_19 (by decide) ?_
    refine lv_aload_n hx hb dJ7_copyOf_59c91_20 rfl (lv_at hl 0 rfl) ?_
    refine lv_iconst (v := (0 : Int32)) hx hb dJ7_copyOf_59c91_21 (by decide) ?_
    refine lv_aload_n hx hb dJ7_copyOf_59c91_22 rfl (lv_at hl 1 rfl) ?_
    refine va_alen (ty := .int) (v := i32 (n : Int)) hx hb hK hP 1 0 rfl rfl (i32_nat n) dJ7_copyOf_59c91_23 ?_
    refine lv_iload_n hx hb dJ7_copyOf_59c91_24 rfl (lv_at hl 2 rfl) ?_
    refine va_mmin hx hb (hml.trans hl.1.symm) hown (hts _ wd_544) (hts _ wd_400) (hts _ wd_12) (hts _ wd_401) (Nat.le_of_ble_eq_true rfl) (Nat.le_of_ble_eq_true rfl) (Nat.le_of_ble_eq_true rfl) (show 0 + k ≤ N by omega) dJ7_copyOf_59c91_25 ?_
    rw [if_pos ((ltI (by omega)).mpr (show (k : Int) < (n : Int) by omega))]
    refine va_copyi hx hb (hml.trans hl.1.symm) hown (hts _ wd_545) (hts _ wd_547) (hts _ wd_546) (hts _ wd_20) hK hP hD hS 1 0 0 0 (f := f) (g := fun _ => 0) (n0 := n) (n1 := k) (ty := .int) rfl rfl rfl rfl rfl (by decide) (by decide) hk0 (by rw [hki]; show 0 + k ≤ n; omega) (by rw [hki]; show 0 + k ≤ k; omega) (fun _ _ => rfl) (Nat.le_of_ble_eq_true rfl) (by decide +kernel) dJ7_copyOf_59c91_28 (fun H locs hP hD hS => ?_)
    have e0 : cpI n k f = va_cpy f (fun _ => 0) (0 : Int32).toNatClampNeg (0 : Int32).toNatClampNeg (i32 (k : Int)).toNatClampNeg := by
      rw [hki]
      unfold cpI
      rw [if_neg hne]
      rfl
    have hP : va_P D vwCl ((q1, .inl (G.1 0, k, .inl (cpI n k f))) :: (h0, .inl (G.1 0, n, .inl f)) :: B) H := by rw [e0]; exact hP
    have hD : va_D A ((q1, .inl (G.1 0, k, .inl (cpI n k f))) :: (h0, .inl (G.1 0, n, .inl f)) :: B) := by rw [e0]; exact hD
    refine lv_aload_n hx hb dJ7_copyOf_59c91_31 rfl (lv_at hl 0 rfl) ?_
    refine W.widen (k := 1) (n := N) (Nat.le_of_ble_eq_true rfl) (show 0 + k ≤ N by omega) ?_
    exact W.aret (v := .ref q1) hx hb hr (Or.inr ⟨_, rfl⟩) (Or.inr ⟨_, rfl⟩) (q_endE (W' := fun q => (q 0, .inl (G.1 0, k, .inl (cpI n k f))) :: (h0, .inl (G.1 0, n, .inl f)) :: B) (rv := fun q => some (.ref (q 0))) (fun _ => q1) hK hP hD hS) hS.2.2 dJ7_copyOf_59c91_32
  · have hkn : k = n := by have := (eqI (by omega)).mp c1; omega
    subst hkn
    have e0 : cpI k k f = f := by unfold cpI; rw [if_pos rfl]
    refine lv_aload_n hx hb dJ7_copyOf_59c91_6 rfl (lv_at hl 0 rfl) ?_
    refine va_clone (ad := "[I") (x := (k, .inl f)) (ty := .int) hx hb (hml.trans hl.1.symm) hown (hts _ wd_537) (hts _ (mem_hU (t_in3 (List.mem_of_getElem? (i := 58) (by decide +kernel))) (by decide +kernel))) (hts _ wd_539) (hts _ wd_540) (hts _ (mem_hU (t_in3 (List.mem_of_getElem? (i := 61) (by decide +kernel))) (by decide +kernel))) (hE.2.2.2.2.2.2.2.2.2.1 _ (List.mem_of_getElem? (i := 0) rfl)) hK hP hD hS hA 0 0 rfl rfl hnm (fun i v hv => ?_) (Nat.le_of_ble_eq_true rfl) (Nat.le_of_ble_eq_true rfl) (Nat.le_of_ble_eq_true rfl) (show 0 + k ≤ N by omega) dJ7_copyOf_59c91_7 (fun q1 H _ hP hD hS => ?_)
    · have hv : (arrV (G.1 0) k (fun j => .int (f j))).slots[i]? = some v := hv
      have hi : i < k := by
        have := (Array.getElem?_eq_some_iff.mp hv).1
        rw [arrV_size] at this
        exact this
      rw [arrV_read _ _ hi] at hv
      cases hv
      rfl
    have hP := pfront hP
    have hD := dfront hD
    refine va_castA hx hb hown (hts _ wd_543) hP 0 rfl hnm dJ7_copyOf_59c91_10 ?_
    have hP : va_P D vwCl ((q1, .inl (G.1 0, k, .inl (cpI k k f))) :: (h0, .inl (G.1 0, k, .inl f)) :: B) H := by rw [e0]; exact hP
    have hD : va_D A ((q1, .inl (G.1 0, k, .inl (cpI k k f))) :: (h0, .inl (G.1 0, k, .inl f)) :: B) := by rw [e0]; exact hD
    refine W.widen (k := 1) (n := N) (Nat.le_of_ble_eq_true rfl) (show 0 + k ≤ N by omega) ?_
    exact W.aret (v := .ref q1) hx hb hr (Or.inr ⟨_, rfl⟩) (Or.inr ⟨_, rfl⟩) (q_endE (W' := fun q => (q 0, .inl (G.1 0, k, .inl (cpI k k f))) :: (h0, .inl (G.1 0, k, .inl f)) :: B) (rv := fun q => some (.ref (q 0))) (fun _ => q1) hK hP hD hS) hS.2.2 dJ7_copyOf_59c91_13
