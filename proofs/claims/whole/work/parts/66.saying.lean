/-! a SAYING is made: its numbers out of its code -/
def stpF (C : List Int) : Nat → (Nat → Int32)
  | 0 => fun _ => 0
  | i + 1 => if C.getD i 0 ≤ 5 then upd (stpF C i) (C.getD i 0).toNat (stpF C i (C.getD i 0).toNat + 1) else stpF C i
theorem take_s (C : List Int) {i : Nat} (h : i < C.length) : C.take (i + 1) = C.take i ++ [C.getD i 0] := by
  rw [List.take_succ_eq_append_getElem h]
  congr 2
  rw [List.getD_eq_getElem?_getD, List.getElem?_eq_getElem h]
  rfl
theorem stpF_at {C : List Int} (h0 : ∀ j, j < C.length → 0 ≤ C.getD j 0) : ∀ i, i ≤ C.length → ∀ j, j < 6 → stpF C i j = i32 (cnL j (C.take i) : Int) := by
  intro i
  induction i with
  | zero => intro _ j _; rfl
  | succ i ih =>
    intro hi j hj
    have hc := h0 i (by omega)
    rw [take_s C (by omega), cnL_s, stpF]
    by_cases c1 : C.getD i 0 ≤ 5
    · rw [if_pos c1]
      unfold upd
      by_cases c2 : C.getD i 0 = (j : Int)
      · rw [if_pos c2, if_pos (by omega), ih (by omega) _ (by omega)]
        have e : (C.getD i 0).toNat = j := by omega
        rw [e, show (1 : Int32) = i32 1 from rfl, i32_add]
        rfl
      · rw [if_neg c2, if_neg (by omega), ih (by omega) _ hj]
    · rw [if_neg c1, if_neg (by omega), ih (by omega) _ hj]
theorem vin {z : Int} {n : Nat} (h0 : 0 ≤ z) (h1 : z < n) (h2 : n ≤ 2147483647) : vp_in (i32 z) n := by
  intro h
  rcases h with h | h
  · have := (ltI (b := 0) (by omega)).mp h; omega
  · rw [i32_cl (by omega)] at h; omega
abbrev rm_X4_init : Room := { frames := 1, cells := 1, slots := 6, locals := 60 }
set_option maxRecDepth 100000 in
set_option maxHeartbeats 8000000 in
theorem e_X4_init (l : Launch) (D : va_G) (G : hG) (B : va_W) (h0 a1 : Nat) (C : List Int) (f : Nat → Int32) (hC : C.length ≤ 400) (hf : ∀ j, j < C.length → f j = i32 (C.getD j 0)) (h8 : ∀ j, j < C.length → 0 ≤ C.getD j 0 ∧ C.getD j 0 ≤ 100) : CE l yX4_init cX4_init 8 none rm_X4_init D G 1 6 [.ref h0, .ref a1] ((h0, .inr (5, [.null, .null, .int 0, .int 0, .int 0])) :: (a1, .inl (G.1 0, C.length, .inl f)) :: B) (fun q => (q 0, .inl (G.1 0, 6, .inl (stpF C C.length))) :: (h0, .inr (5, [.ref a1, .ref (q 0), .int (i32 (nmL C : Int)), .int (i32 (wkL C : Int)), .int 0])) :: (a1, .inl (G.1 0, C.length, .inl f)) :: B) (fun _ => none) := by
  refine CE.mk (cc := cX4_init) (maxL := 8) (ret := none) (own := RX4) (plainFor_of_name (by decide)) rfl (Nat.le_of_ble_eq_true rfl) ?_
  intro p e s m args below meth c A ls C0 hin hA hP hD hl
  obtain ⟨hx, hb, hr, hml, hown, hts, hlocks, hK, hE⟩ := id C0
  have hin : meth.name = "<init>" := hin
  have hS : va_S A s.heap s.heap [] := va_S.rf
  have hl : lv_has ls 8 [(0, .ref h0), (1, .ref a1)] := hl
  refine lv_aload_n hx hb dX4_init_0 rfl (lv_at hl 0 rfl) ?_
  refine W.objInit hx hb hown (hts _ wd_551) (hts _ wd_38) (hts _ wd_39) rfl (by rw [hml]; exact hl.1) rfl dX4_init_1 (Nat.le_of_ble_eq_true rfl) (Nat.le_of_ble_eq_true rfl) ?_
  refine W.eq (g2 := F0 m 4 ls []) rfl ?_
  refine lv_aload_n hx hb dX4_init_4 rfl (lv_at hl 0 rfl) ?_
  refine lv_bipush (v := 6) hx hb dX4_init_5 (by decide) ?_
  refine q_newa (atype := .int) (ty := .int) (a0 := (6, .inl (fun _ => 0))) hx hb wd_69 hts rfl hK 0 rfl hP hD hS hA (fun _ => rfl) (by decide) (by decide) (Nat.le_of_ble_eq_true rfl) (Nat.le_of_ble_eq_true rfl) (Nat.le_of_ble_eq_true rfl) dX4_init_7 (fun q1 H hP hD hS => ?_)
  refine va_putF (D := D) (ci := 5) (v := .ref q1) (ty := .array .int) (C := RX4) (T := TX4) (N := 5) hx hb hts inU_X4 tyX4 tyX4_ok nmX4 hown hK hP hD hS 1 rfl rfl 1 (by decide) (hts _ wd_555) (fun _ h9 => h9) rfl hin rfl (by decide +kernel) rfl rfl (Nat.le_of_ble_eq_true rfl) dX4_init_9 (fun H locs hP hD hS => ?_)
  refine lv_aload_n hx hb dX4_init_12 rfl (lv_at hl 0 rfl) ?_
  refine lv_aload_n hx hb dX4_init_13 rfl (lv_at hl 1 rfl) ?_
  refine va_putF (D := D) (ci := 5) (v := .ref a1) (ty := .array .int) (C := RX4) (T := TX4) (N := 5) hx hb hts inU_X4 tyX4 tyX4_ok nmX4 hown hK hP hD hS 1 rfl rfl 0 (by decide) (hts _ wd_553) (fun _ h9 => h9) rfl hin rfl (by decide +kernel) rfl rfl (Nat.le_of_ble_eq_true rfl) dX4_init_14 (fun H locs hP hD hS => ?_)
  have hP : va_P D vwCl ((q1, .inl (G.1 0, 6, .inl (fun _ => 0))) :: (h0, .inr (5, [.ref a1, .ref q1, .int (0), .int (0), .int 0])) :: (a1, .inl (G.1 0, C.length, .inl f)) :: B) H := hP
  have hD : va_D A ((q1, .inl (G.1 0, 6, .inl (fun _ => 0))) :: (h0, .inr (5, [.ref a1, .ref q1, .int (0), .int (0), .int 0])) :: (a1, .inl (G.1 0, C.length, .inl f)) :: B) := hD
  refine lv_iconst (v := (-1 : Int32)) hx hb dX4_init_17 (by decide) ?_
  refine lv_istore_n (lv' := [(2, .int (-1)), (0, .ref h0), (1, .ref a1)]) hx hb dX4_init_18 rfl hl (by decide) rfl (fun ls hl => ?_)
  refine lv_iconst (v := (0 : Int32)) hx hb dX4_init_19 (by decide) ?_
  refine lv_istore_n (lv' := [(3, .int 0), (2, .int (-1)), (0, .ref h0), (1, .ref a1)]) hx hb dX4_init_20 rfl hl (by decide) rfl (fun ls hl => ?_)
  refine lv_aload_n hx hb dX4_init_21 rfl (lv_at hl 3 rfl) ?_
  refine lv_astore (lv' := [(4, .ref a1), (3, .int 0), (2, .int (-1)), (0, .ref h0), (1, .ref a1)]) hx hb dX4_init_22 hl (by decide) rfl (fun ls hl => ?_)
  refine lv_aload hx hb dX4_init_24 (lv_at hl 0 rfl) ?_
  refine va_alen (ty := .int) (v := i32 (C.length : Int)) hx hb hK hP 2 0 rfl rfl (i32_nat _) dX4_init_26 ?_
  refine lv_istore (lv' := [(5, .int (i32 (C.length : Int))), (4, .ref a1), (3, .int 0), (2, .int (-1)), (0, .ref h0), (1, .ref a1)]) hx hb dX4_init_27 hl (by decide) rfl (fun ls hl => ?_)
  refine lv_iconst (v := (0 : Int32)) hx hb dX4_init_29 (by decide) ?_
  refine lv_istore (lv' := [(6, .int 0), (5, .int (i32 (C.length : Int))), (4, .ref a1), (3, .int 0), (2, .int (-1)), (0, .ref h0), (1, .ref a1)]) hx hb dX4_init_30 hl (by decide) rfl (fun ls hl => ?_)
  have loop : ∀ (r i : Nat), i + r = C.length → ∀ (H : Heap) (locs : List Loc) (ls : Array Slot), va_P D vwCl ((q1, .inl (G.1 0, 6, .inl (stpF C i))) :: (h0, .inr (5, [.ref a1, .ref q1, .int (0), .int (0), .int 0])) :: (a1, .inl (G.1 0, C.length, .inl f)) :: B) H → va_D A ((q1, .inl (G.1 0, 6, .inl (stpF C i))) :: (h0, .inr (5, [.ref a1, .ref q1, .int (0), .int (0), .int 0])) :: (a1, .inl (G.1 0, C.length, .inl f)) :: B) → va_S A s.heap H locs → lv_has ls 8 [(6, .int (i32 ((i : Nat) : Int))), (3, .int (i32 ((wkL (C.take i) : Int)))), (2, .int (i32 ((nmL (C.take i) : Int) - 1))), (0, .ref h0), (4, .ref a1), (5, .int (i32 (C.length : Int)))] →
      W p l e rm_X4_init s m args below meth c H locs (0 + 1) (0 + 6) (MQ below (Qe (fun _ => none) D (tysG G) (fun q => (q 0, .inl (G.1 0, 6, .inl (stpF C C.length))) :: (h0, .inr (5, [.ref a1, .ref (q 0), .int (i32 (nmL C : Int)), .int (i32 (wkL C : Int)), .int 0])) :: (a1, .inl (G.1 0, C.length, .inl f)) :: B) A) args s 1 6 A) (F0 m 32 ls []) := by
    intro r
    induction r with
    | zero =>
      intro i hi H locs ls hP hD hS hl
      have hi : i = C.length := by omega
      subst hi
      refine lv_iload hx hb dX4_init_32 (lv_at hl 0 rfl) ?_
      refine lv_iload hx hb dX4_init_34 (lv_at hl 5 rfl) ?_
      refine lv_icmp_ge (tgt := 91) hx hb dX4_init_36 (by decide) (fun c1 => ?_) (fun c1 => absurd c1 (fun h => h ((leI (by omega)).mpr (Int.le_refl _))))
      · rw [List.take_length] at hl
        refine lv_aload_n hx hb dX4_init_91 rfl (lv_at hl 3 rfl) ?_
        refine lv_iload_n hx hb dX4_init_92 rfl (lv_at hl 2 rfl) ?_
        refine lv_iconst (v := (1 : Int32)) hx hb dX4_init_93 (by decide) ?_
        refine lv_iadd hx hb dX4_init_94 ?_
        have e1 : i32 ((nmL C : Int) - 1) + 1 = i32 (nmL C : Int) := by
          rw [show (1 : Int32) = i32 1 from rfl, i32_add]
          congr 1
          omega
        rw [e1]
        refine va_putF (D := D) (ci := 5) (v := .int (i32 (nmL C : Int))) (ty := .int) (C := RX4) (T := TX4) (N := 5) hx hb hts inU_X4 tyX4 tyX4_ok nmX4 hown hK hP hD hS 1 rfl rfl 2 (by decide) (hts _ wd_556) (fun _ h9 => h9) rfl hin rfl (by decide +kernel) rfl rfl (Nat.le_of_ble_eq_true rfl) dX4_init_95 (fun H locs hP hD hS => ?_)
        refine lv_aload_n hx hb dX4_init_98 rfl (lv_at hl 3 rfl) ?_
        refine lv_iload_n hx hb dX4_init_99 rfl (lv_at hl 1 rfl) ?_
        refine va_putF (D := D) (ci := 5) (v := .int (i32 (wkL C : Int))) (ty := .int) (C := RX4) (T := TX4) (N := 5) hx hb hts inU_X4 tyX4 tyX4_ok nmX4 hown hK hP hD hS 1 rfl rfl 3 (by decide) (hts _ wd_561) (fun _ h9 => h9) rfl hin rfl (by decide +kernel) rfl rfl (Nat.le_of_ble_eq_true rfl) dX4_init_100 (fun H locs hP hD hS => ?_)
        exact W.vret hx hb hr (q_endE (W' := fun q => (q 0, .inl (G.1 0, 6, .inl (stpF C C.length))) :: (h0, .inr (5, [.ref a1, .ref (q 0), .int (i32 (nmL C : Int)), .int (i32 (wkL C : Int)), .int 0])) :: (a1, .inl (G.1 0, C.length, .inl f)) :: B) (rv := fun _ => none) (fun _ => q1) hK hP hD hS) hS.2.2 dX4_init_103
    | succ r ih =>
      intro i hi H locs ls hP hD hS hl
      have hi2 : i < C.length := by omega
      have hc := h8 i hi2
      have hfi : f (i32 (i : Int)).toNatClampNeg = i32 (C.getD i 0) := by rw [i32_cn (by omega)]; exact hf i hi2
      have htk := take_s C hi2
      have hnm := nmL_le (C.take i)
      have hwk := wkL_le (C.take i)
      rw [List.length_take] at hwk
      refine lv_iload hx hb dX4_init_32 (lv_at hl 0 rfl) ?_
      refine lv_iload hx hb dX4_init_34 (lv_at hl 5 rfl) ?_
      refine lv_icmp_ge (tgt := 91) hx hb dX4_init_36 (by decide) (fun c1 => absurd c1 ?_) (fun c1 => ?_)
      · exact fun h => by have := (leI (by omega)).mp h; omega
      · refine lv_aload hx hb dX4_init_39 (lv_at hl 4 rfl) ?_
        refine lv_iload hx hb dX4_init_41 (lv_at hl 0 rfl) ?_
        refine va_ialdE (v := i32 (C.getD i 0)) hx hb hK hP 2 0 rfl rfl (vin (by omega) (by omega) (by omega)) dX4_init_43 hfi ?_
        refine lv_istore (lv' := (7, .int (i32 (C.getD i 0))) :: [(6, .int (i32 ((i : Nat) : Int))), (3, .int (i32 ((wkL (C.take i) : Int)))), (2, .int (i32 ((nmL (C.take i) : Int) - 1))), (0, .ref h0), (4, .ref a1), (5, .int (i32 (C.length : Int)))]) hx hb dX4_init_44 hl (by decide) rfl (fun ls hl => ?_)
        refine lv_iload hx hb dX4_init_46 (lv_at hl 0 rfl) ?_
        refine lv_if_lt (tgt := 82) hx hb dX4_init_48 (by decide) (fun c2 => absurd c2 ?_) (fun c2 => ?_)
        · exact fun h => by have := (ltI (b := 0) (by omega)).mp h; omega
        · refine lv_iload hx hb dX4_init_51 (lv_at hl 0 rfl) ?_
          refine lv_aload_n hx hb dX4_init_53 rfl (lv_at hl 4 rfl) ?_
          refine va_get (D := D) (ci := 5) (v := .ref q1) (C := RX4) (T := TX4) (N := 5) hx hb hts inU_X4 hown hK hP 1 rfl rfl 1 (by decide) (hts _ wd_555) (fun _ h9 => h9) rfl dX4_init_54 ?_
          refine va_alen (ty := .int) (v := (6 : Int32)) hx hb hK hP 0 0 rfl rfl rfl dX4_init_57 ?_
          refine lv_icmp_ge (tgt := 82) hx hb dX4_init_58 (by decide) (fun c3 => ?_) (fun c3 => ?_)
          · have h5 : ¬ C.getD i 0 ≤ 5 := by have := (leI (a := 6) (by omega)).mp c3; omega
            refine lv_iinc (v := i32 (wkL (C.take i) : Int) + 1) (lv' := (3, .int (i32 (wkL (C.take i) : Int) + 1)) :: (7, .int (i32 (C.getD i 0))) :: [(6, .int (i32 ((i : Nat) : Int))), (2, .int (i32 ((nmL (C.take i) : Int) - 1))), (0, .ref h0), (4, .ref a1), (5, .int (i32 (C.length : Int)))]) hx hb dX4_init_82 hl (k := 2) rfl rfl (by decide) rfl (fun ls hl => ?_)
            refine lv_iinc (v := i32 (i : Int) + 1) (lv' := (6, .int (i32 (i : Int) + 1)) :: (3, .int (i32 (wkL (C.take i) : Int) + 1)) :: (7, .int (i32 (C.getD i 0))) :: [(2, .int (i32 ((nmL (C.take i) : Int) - 1))), (0, .ref h0), (4, .ref a1), (5, .int (i32 (C.length : Int)))]) hx hb dX4_init_85 hl (k := 2) rfl rfl (by decide) rfl (fun ls hl => ?_)
            refine lv_goto (tgt := 32) hx hb dX4_init_88 (by decide) ?_
            have es : stpF C (i + 1) = stpF C i := by rw [stpF, if_neg h5]
            have en : nmL (C.take (i + 1)) = nmL (C.take i) := by rw [htk, nmL_s, if_neg h5]
            have ew : wkL (C.take (i + 1)) = wkL (C.take i) + 1 := by rw [htk, wkL_s, if_pos (by omega)]
            refine ih (i + 1) (by omega) _ _ _ (by rw [es]; exact hP) (by rw [es]; exact hD) hS ?_
            rw [en, ew]
            have e1 : i32 (((i + 1 : Nat) : Int)) = i32 (i : Int) + 1 := by rw [show (1 : Int32) = i32 1 from rfl, i32_add]; rfl
            have e2 : i32 (((wkL (C.take i) + 1 : Nat) : Int)) = i32 (wkL (C.take i) : Int) + 1 := by rw [show (1 : Int32) = i32 1 from rfl, i32_add]; rfl
            rw [e1, e2]
            exact lv_sub hl [0, 1, 3, 4, 5, 6] rfl
          · have h5 : C.getD i 0 ≤ 5 := by have := mt (leI (a := 6) (by omega)).mpr c3; omega
            have hcl : (i32 (C.getD i 0)).toNatClampNeg = (C.getD i 0).toNat := i32_cl (by omega)
            refine lv_aload_n hx hb dX4_init_61 rfl (lv_at hl 4 rfl) ?_
            refine va_get (D := D) (ci := 5) (v := .ref q1) (C := RX4) (T := TX4) (N := 5) hx hb hts inU_X4 hown hK hP 1 rfl rfl 1 (by decide) (hts _ wd_555) (fun _ h9 => h9) rfl dX4_init_62 ?_
            refine lv_iload hx hb dX4_init_65 (lv_at hl 0 rfl) ?_
            refine lv_dup2_11 hx hb dX4_init_67 rfl rfl ?_
            refine va_ialdE (v := stpF C i (C.getD i 0).toNat) hx hb hK hP 0 0 rfl rfl (vin (by omega) (by omega) (by omega)) dX4_init_68 (by rw [hcl]) ?_
            refine lv_iconst (v := (1 : Int32)) hx hb dX4_init_69 (by decide) ?_
            refine lv_iadd hx hb dX4_init_70 ?_
            refine va_iast hx hb hK hP hD hS 0 0 rfl rfl (vin (by omega) (by omega) (by omega)) dX4_init_71 (fun H locs hP hD hS => ?_)
            refine lv_iload_n hx hb dX4_init_72 rfl (lv_at hl 3 rfl) ?_
            refine lv_iload hx hb dX4_init_73 (lv_at hl 0 rfl) ?_
            refine va_mmax hx hb (hml.trans hl.1.symm) hown (hts _ wd_552) (hts _ wd_328) (hts _ wd_12) (hts _ wd_329) (Nat.le_of_ble_eq_true rfl) (Nat.le_of_ble_eq_true rfl) (Nat.le_of_ble_eq_true rfl) (Nat.le_of_ble_eq_true rfl) dX4_init_75 ?_
            have es : stpF C (i + 1) = upd (stpF C i) (C.getD i 0).toNat (stpF C i (C.getD i 0).toNat + 1) := by rw [stpF, if_pos h5]
            have en : nmL (C.take (i + 1)) = max (nmL (C.take i)) (C.getD i 0 + 1).toNat := by rw [htk, nmL_s, if_pos h5]
            have ew : wkL (C.take (i + 1)) = wkL (C.take i) := by rw [htk, wkL_s, if_neg (by omega)]
            have em : (if i32 ((nmL (C.take i) : Int) - 1) < i32 (C.getD i 0) then i32 (C.getD i 0) else i32 ((nmL (C.take i) : Int) - 1)) = i32 ((nmL (C.take (i + 1)) : Int) - 1) := by
              rw [en]
              by_cases c4 : i32 ((nmL (C.take i) : Int) - 1) < i32 (C.getD i 0)
              · have := (ltI (by omega)).mp c4
                rw [if_pos c4]
                congr 1
                omega
              · have := mt (ltI (by omega)).mpr c4
                rw [if_neg c4]
                congr 1
                omega
            rw [em]
            refine lv_istore_n (lv' := (2, .int (i32 ((nmL (C.take (i + 1)) : Int) - 1))) :: (7, .int (i32 (C.getD i 0))) :: [(6, .int (i32 ((i : Nat) : Int))), (3, .int (i32 ((wkL (C.take i) : Int)))), (0, .ref h0), (4, .ref a1), (5, .int (i32 (C.length : Int)))]) hx hb dX4_init_78 rfl hl (by decide) rfl (fun ls hl => ?_)
            refine lv_goto (tgt := 85) hx hb dX4_init_79 (by decide) ?_
            refine lv_iinc (v := i32 (i : Int) + 1) (lv' := (6, .int (i32 (i : Int) + 1)) :: (2, .int (i32 ((nmL (C.take (i + 1)) : Int) - 1))) :: (7, .int (i32 (C.getD i 0))) :: [(3, .int (i32 ((wkL (C.take i) : Int)))), (0, .ref h0), (4, .ref a1), (5, .int (i32 (C.length : Int)))]) hx hb dX4_init_85 hl (k := 2) rfl rfl (by decide) rfl (fun ls hl => ?_)
            refine lv_goto (tgt := 32) hx hb dX4_init_88 (by decide) ?_
            rw [hcl] at hP hD
            refine ih (i + 1) (by omega) _ _ _ (by rw [es]; exact hP) (by rw [es]; exact hD) hS ?_
            rw [ew]
            have e1 : i32 (((i + 1 : Nat) : Int)) = i32 (i : Int) + 1 := by rw [show (1 : Int32) = i32 1 from rfl, i32_add]; rfl
            rw [e1]
            exact lv_sub hl [0, 3, 1, 4, 5, 6] rfl
  exact loop C.length 0 (by omega) H locs ls hP hD hS (lv_sub hl [0, 3, 4, 5, 2, 1] rfl)
