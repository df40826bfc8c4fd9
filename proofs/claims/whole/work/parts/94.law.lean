/-! the law's loop, and the law from its entry -/
theorem lw_tail {p : Program} {l : Launch} {e : Env} {s : State} {m : MethodId} {below : List Frame} {meth : Method} {c : Code} {b L : Nat} {xs : Nat → Int32} {D : va_G} {cG : Nat → ClassId} {tG : Nat → Nat} (CX : LCx p l s m meth c b L xs D cG tG) {h mm o i cells slots : Nat} (nx : NX p l e s m below meth c b D cG tG h mm o (i + 6) 23 cells slots) : NX p l e s m below meth c b D cG tG h mm o i 1812 cells slots := by
  intro g Z σ τ A f H locs ls e0 e2 hJ hXX hP hD hS hl
  obtain ⟨⟨hx, hb, hr, hml, hown, hts, hX, hbl, hlocks, hgv⟩, hl0, hL, hKE, hXE⟩ := id CX
  refine lv_iinc (v := nI (i + 6)) (lv' := [(4, .int (nI (i + 6))), (0, .ref b), (1, .ref h), (2, .ref mm), (3, .ref o)]) hx hb dL_law_1812 hl (k := 0) rfl (nI_k rfl) (by decide) rfl (fun ls hl => ?_)
  refine lv_goto (tgt := 23) hx hb dL_law_1815 (by decide) ?_
  exact nx g Z σ τ A f H locs ls e0 e2 hJ hXX hP hD hS hl
theorem lw_L6 {L i : Nat} (hL : L ≤ 3072) (hi : i ≤ 3072) : (Int32.ofNat L - 6 < nI i) = ((L : Int) - 6 < (i : Int)) := by
  have e : Int32.ofNat L - 6 = i32 ((L : Int) - 6) := by rw [i32_nat, show (6 : Int32) = i32 6 from rfl, i32_sub]
  rw [e, show nI i = i32 (i : Int) from i32_nat i, i32_lt (by omega)]
set_option maxRecDepth 100000 in
set_option maxHeartbeats 4000000 in
/-- one turn -/
theorem lw_turn {p : Program} {l : Launch} {e : Env} {s : State} {m : MethodId} {below : List Frame} {meth : Method} {c : Code} {b L : Nat} {xs : Nat → Int32} {D : va_G} {cG : Nat → ClassId} {tG : Nat → Nat} (CX : LCx p l s m meth c b L xs D cG tG) {h mm o i cells slots : Nat} (h6 : i + 6 ≤ L) (hcs : cells + 8 ≤ room_1.cells ∧ slots + 1000 ≤ room_1.slots) (nx : NX p l e s m below meth c b D cG tG h mm o i 1812 (cells + 8) (slots + 1000)) : NX p l e s m below meth c b D cG tG h mm o i 23 cells slots := by
  intro g Z σ τ A f H locs ls e0 e2 hJ hXX hP hD hS hl
  obtain ⟨⟨hx, hb, hr, hml, hown, hts, hX, hbl, hlocks, hgv⟩, hl0, hL, hKE, hXE⟩ := id CX
  have hbA : ¬ AA s b := Nat.not_le.mpr hbl
  refine lv_iload hx hb dL_law_23 (lv_at hl 0 rfl) ?_
  refine lv_aload_n hx hb dL_law_25 rfl (lv_at hl 1 rfl) ?_
  refine va_slen hx hb hX hbl hbA hS dL_law_26 ?_
  refine lv_bipush (v := (6 : Int32)) hx hb dL_law_27 (by decide) ?_
  refine lv_isub hx hb dL_law_29 ?_
  refine lv_icmp_gt (tgt := 1818) hx hb dL_law_30 (by decide) (fun c1 => absurd (lw_L6 (i := i) hL (by omega) ▸ c1) (by omega)) (fun _ => ?_)
  refine lv_aload_n hx hb dL_law_33 rfl (lv_at hl 1 rfl) ?_
  refine lv_iload hx hb dL_law_34 (lv_at hl 0 rfl) ?_
  refine va_sld hx hb hX hbl hbA hS (vp_in_nI (by omega) (by omega)) dL_law_36 ?_
  refine lv_bipush (v := (63 : Int32)) hx hb dL_law_37 (by decide) ?_
  refine lv_iand hx hb dL_law_39 ?_
  refine lv_topi (fun x hx9 => ?_)
  clear hx9
  by_cases c : x.toInt < 0 ∨ 38 < x.toInt
  · refine W.widen (k := cells + 8) (n := slots + 1000) (by omega) (by omega) ?_
    exact lv_tableOut (tgt := 1812) hx hb dL_law_40 c (by decide) (nx g Z σ τ A f H locs ls e0 e2 hJ hXX hP hD hS hl)
  · have hk : x.toInt = 0 ∨ x.toInt = 1 ∨ x.toInt = 2 ∨ x.toInt = 3 ∨ x.toInt = 4 ∨ x.toInt = 5 ∨ x.toInt = 6 ∨ x.toInt = 7 ∨ x.toInt = 8 ∨ x.toInt = 9 ∨ x.toInt = 10 ∨ x.toInt = 11 ∨ x.toInt = 12 ∨ x.toInt = 13 ∨ x.toInt = 14 ∨ x.toInt = 15 ∨ x.toInt = 16 ∨ x.toInt = 17 ∨ x.toInt = 18 ∨ x.toInt = 19 ∨ x.toInt = 20 ∨ x.toInt = 21 ∨ x.toInt = 22 ∨ x.toInt = 23 ∨ x.toInt = 24 ∨ x.toInt = 25 ∨ x.toInt = 26 ∨ x.toInt = 27 ∨ x.toInt = 28 ∨ x.toInt = 29 ∨ x.toInt = 30 ∨ x.toInt = 31 ∨ x.toInt = 32 ∨ x.toInt = 33 ∨ x.toInt = 34 ∨ x.toInt = 35 ∨ x.toInt = 36 ∨ x.toInt = 37 ∨ x.toInt = 38 := by omega
    rcases hk with hk | hk | hk | hk | hk | hk | hk | hk | hk | hk | hk | hk | hk | hk | hk | hk | hk | hk | hk | hk | hk | hk | hk | hk | hk | hk | hk | hk | hk | hk | hk | hk | hk | hk | hk | hk | hk | hk | hk
    · exact lv_tableIn (off := 172) (tgt := 212) hx hb dL_law_40 (by omega) (by omega) (by rw [hk]; rfl) (by decide) (lw_x_0 CX h6 hcs nx g Z σ τ A f H locs ls e0 e2 hJ hXX hP hD hS hl)
    · exact lv_tableIn (off := 245) (tgt := 285) hx hb dL_law_40 (by omega) (by omega) (by rw [hk]; rfl) (by decide) (lw_x_1 CX h6 hcs nx g Z σ τ A f H locs ls e0 e2 hJ hXX hP hD hS hl)
    · exact lv_tableIn (off := 270) (tgt := 310) hx hb dL_law_40 (by omega) (by omega) (by rw [hk]; rfl) (by decide) (lw_x_2 CX h6 hcs nx g Z σ τ A f H locs ls e0 e2 hJ hXX hP hD hS hl)
    · exact lv_tableIn (off := 295) (tgt := 335) hx hb dL_law_40 (by omega) (by omega) (by rw [hk]; rfl) (by decide) (lw_x_3 CX h6 hcs nx g Z σ τ A f H locs ls e0 e2 hJ hXX hP hD hS hl)
    · exact lv_tableIn (off := 308) (tgt := 348) hx hb dL_law_40 (by omega) (by omega) (by rw [hk]; rfl) (by decide) (lw_x_4 CX h6 hcs nx g Z σ τ A f H locs ls e0 e2 hJ hXX hP hD hS hl)
    · exact lv_tableIn (off := 345) (tgt := 385) hx hb dL_law_40 (by omega) (by omega) (by rw [hk]; rfl) (by decide) (lw_x_5 CX h6 hcs nx g Z σ τ A f H locs ls e0 e2 hJ hXX hP hD hS hl)
    · exact lv_tableIn (off := 382) (tgt := 422) hx hb dL_law_40 (by omega) (by omega) (by rw [hk]; rfl) (by decide) (lw_x_6 CX h6 hcs nx g Z σ τ A f H locs ls e0 e2 hJ hXX hP hD hS hl)
    · exact lv_tableIn (off := 407) (tgt := 447) hx hb dL_law_40 (by omega) (by omega) (by rw [hk]; rfl) (by decide) (lw_x_7 CX h6 hcs nx g Z σ τ A f H locs ls e0 e2 hJ hXX hP hD hS hl)
    · exact lv_tableIn (off := 420) (tgt := 460) hx hb dL_law_40 (by omega) (by omega) (by rw [hk]; rfl) (by decide) (lw_x_8 CX h6 hcs nx g Z σ τ A f H locs ls e0 e2 hJ hXX hP hD hS hl)
    · exact lv_tableIn (off := 457) (tgt := 497) hx hb dL_law_40 (by omega) (by omega) (by rw [hk]; rfl) (by decide) (lw_x_9 CX h6 hcs nx g Z σ τ A f H locs ls e0 e2 hJ hXX hP hD hS hl)
    · exact lv_tableIn (off := 494) (tgt := 534) hx hb dL_law_40 (by omega) (by omega) (by rw [hk]; rfl) (by decide) (lw_x_10 CX h6 hcs nx g Z σ τ A f H locs ls e0 e2 hJ hXX hP hD hS hl)
    · exact lv_tableIn (off := 519) (tgt := 559) hx hb dL_law_40 (by omega) (by omega) (by rw [hk]; rfl) (by decide) (lw_x_11 CX h6 hcs nx g Z σ τ A f H locs ls e0 e2 hJ hXX hP hD hS hl)
    · exact lv_tableIn (off := 556) (tgt := 596) hx hb dL_law_40 (by omega) (by omega) (by rw [hk]; rfl) (by decide) (lw_x_12 CX h6 hcs nx g Z σ τ A f H locs ls e0 e2 hJ hXX hP hD hS hl)
    · exact lv_tableIn (off := 569) (tgt := 609) hx hb dL_law_40 (by omega) (by omega) (by rw [hk]; rfl) (by decide) (lw_x_13 CX h6 hcs nx g Z σ τ A f H locs ls e0 e2 hJ hXX hP hD hS hl)
    · exact lv_tableIn (off := 582) (tgt := 622) hx hb dL_law_40 (by omega) (by omega) (by rw [hk]; rfl) (by decide) (lw_x_14 CX h6 hcs nx g Z σ τ A f H locs ls e0 e2 hJ hXX hP hD hS hl)
    · exact lv_tableIn (off := 643) (tgt := 683) hx hb dL_law_40 (by omega) (by omega) (by rw [hk]; rfl) (by decide) (lw_x_15 CX h6 hcs nx g Z σ τ A f H locs ls e0 e2 hJ hXX hP hD hS hl)
    · exact lv_tableIn (off := 724) (tgt := 764) hx hb dL_law_40 (by omega) (by omega) (by rw [hk]; rfl) (by decide) (lw_x_16 CX h6 hcs nx g Z σ τ A f H locs ls e0 e2 hJ hXX hP hD hS hl)
    · exact lv_tableIn (off := 761) (tgt := 801) hx hb dL_law_40 (by omega) (by omega) (by rw [hk]; rfl) (by decide) (lw_x_17 CX h6 hcs nx g Z σ τ A f H locs ls e0 e2 hJ hXX hP hD hS hl)
    · exact lv_tableIn (off := 786) (tgt := 826) hx hb dL_law_40 (by omega) (by omega) (by rw [hk]; rfl) (by decide) (lw_x_18 CX h6 hcs nx g Z σ τ A f H locs ls e0 e2 hJ hXX hP hD hS hl)
    · exact lv_tableIn (off := 854) (tgt := 894) hx hb dL_law_40 (by omega) (by omega) (by rw [hk]; rfl) (by decide) (lw_x_19 CX h6 hcs nx g Z σ τ A f H locs ls e0 e2 hJ hXX hP hD hS hl)
    · exact lv_tableIn (off := 879) (tgt := 919) hx hb dL_law_40 (by omega) (by omega) (by rw [hk]; rfl) (by decide) (lw_x_20 CX h6 hcs nx g Z σ τ A f H locs ls e0 e2 hJ hXX hP hD hS hl)
    · exact lv_tableIn (off := 916) (tgt := 956) hx hb dL_law_40 (by omega) (by omega) (by rw [hk]; rfl) (by decide) (lw_x_21 CX h6 hcs nx g Z σ τ A f H locs ls e0 e2 hJ hXX hP hD hS hl)
    · exact lv_tableIn (off := 953) (tgt := 993) hx hb dL_law_40 (by omega) (by omega) (by rw [hk]; rfl) (by decide) (lw_x_22 CX h6 hcs nx g Z σ τ A f H locs ls e0 e2 hJ hXX hP hD hS hl)
    · exact lv_tableIn (off := 1002) (tgt := 1042) hx hb dL_law_40 (by omega) (by omega) (by rw [hk]; rfl) (by decide) (lw_x_23 CX h6 hcs nx g Z σ τ A f H locs ls e0 e2 hJ hXX hP hD hS hl)
    · exact lv_tableIn (off := 1040) (tgt := 1080) hx hb dL_law_40 (by omega) (by omega) (by rw [hk]; rfl) (by decide) (lw_x_24 CX h6 hcs nx g Z σ τ A f H locs ls e0 e2 hJ hXX hP hD hS hl)
    · exact lv_tableIn (off := 1078) (tgt := 1118) hx hb dL_law_40 (by omega) (by omega) (by rw [hk]; rfl) (by decide) (lw_x_25 CX h6 hcs nx g Z σ τ A f H locs ls e0 e2 hJ hXX hP hD hS hl)
    · exact lv_tableIn (off := 1115) (tgt := 1155) hx hb dL_law_40 (by omega) (by omega) (by rw [hk]; rfl) (by decide) (lw_x_26 CX h6 hcs nx g Z σ τ A f H locs ls e0 e2 hJ hXX hP hD hS hl)
    · exact lv_tableIn (off := 1164) (tgt := 1204) hx hb dL_law_40 (by omega) (by omega) (by rw [hk]; rfl) (by decide) (lw_x_27 CX h6 hcs nx g Z σ τ A f H locs ls e0 e2 hJ hXX hP hD hS hl)
    · exact lv_tableIn (off := 1201) (tgt := 1241) hx hb dL_law_40 (by omega) (by omega) (by rw [hk]; rfl) (by decide) (lw_x_28 CX h6 hcs nx g Z σ τ A f H locs ls e0 e2 hJ hXX hP hD hS hl)
    · exact lv_tableIn (off := 1250) (tgt := 1290) hx hb dL_law_40 (by omega) (by omega) (by rw [hk]; rfl) (by decide) (lw_x_29 CX h6 hcs nx g Z σ τ A f H locs ls e0 e2 hJ hXX hP hD hS hl)
    · exact lv_tableIn (off := 1327) (tgt := 1367) hx hb dL_law_40 (by omega) (by omega) (by rw [hk]; rfl) (by decide) (lw_x_30 CX h6 hcs nx g Z σ τ A f H locs ls e0 e2 hJ hXX hP hD hS hl)
    · exact lv_tableIn (off := 1364) (tgt := 1404) hx hb dL_law_40 (by omega) (by omega) (by rw [hk]; rfl) (by decide) (lw_x_31 CX h6 hcs nx g Z σ τ A f H locs ls e0 e2 hJ hXX hP hD hS hl)
    · exact lv_tableIn (off := 1401) (tgt := 1441) hx hb dL_law_40 (by omega) (by omega) (by rw [hk]; rfl) (by decide) (lw_x_32 CX h6 hcs nx g Z σ τ A f H locs ls e0 e2 hJ hXX hP hD hS hl)
    · exact lv_tableIn (off := 1450) (tgt := 1490) hx hb dL_law_40 (by omega) (by omega) (by rw [hk]; rfl) (by decide) (lw_x_33 CX h6 hcs nx g Z σ τ A f H locs ls e0 e2 hJ hXX hP hD hS hl)
    · exact lv_tableIn (off := 1543) (tgt := 1583) hx hb dL_law_40 (by omega) (by omega) (by rw [hk]; rfl) (by decide) (lw_x_34 CX h6 hcs nx g Z σ τ A f H locs ls e0 e2 hJ hXX hP hD hS hl)
    · exact lv_tableIn (off := 1612) (tgt := 1652) hx hb dL_law_40 (by omega) (by omega) (by rw [hk]; rfl) (by decide) (lw_x_35 CX h6 hcs nx g Z σ τ A f H locs ls e0 e2 hJ hXX hP hD hS hl)
    · exact lv_tableIn (off := 1661) (tgt := 1701) hx hb dL_law_40 (by omega) (by omega) (by rw [hk]; rfl) (by decide) (lw_x_36 CX h6 hcs nx g Z σ τ A f H locs ls e0 e2 hJ hXX hP hD hS hl)
    · exact lv_tableIn (off := 1710) (tgt := 1750) hx hb dL_law_40 (by omega) (by omega) (by rw [hk]; rfl) (by decide) (lw_x_37 CX h6 hcs nx g Z σ τ A f H locs ls e0 e2 hJ hXX hP hD hS hl)
    · exact lv_tableIn (off := 1747) (tgt := 1787) hx hb dL_law_40 (by omega) (by omega) (by rw [hk]; rfl) (by decide) (lw_x_38 CX h6 hcs nx g Z σ τ A f H locs ls e0 e2 hJ hXX hP hD hS hl)
set_option maxRecDepth 100000 in
/-- behind the loop -/
theorem lw_exit {p : Program} {l : Launch} {e : Env} {s : State} {m : MethodId} {below : List Frame} {meth : Method} {c : Code} {b L : Nat} {xs : Nat → Int32} {D : va_G} {cG : Nat → ClassId} {tG : Nat → Nat} (CX : LCx p l s m meth c b L xs D cG tG) {h mm o i cells slots : Nat} (h6 : ¬ i + 6 ≤ L) (hi : i ≤ 3072) (hcs : cells ≤ 601024 ∧ slots ≤ 7293034) : NX p l e s m below meth c b D cG tG h mm o i 23 cells slots := by
  intro g Z σ τ A f H locs ls e0 e2 hJ hXX hP hD hS hl
  obtain ⟨⟨hx, hb, hr, hml, hown, hts, hX, hbl, hlocks, hgv⟩, hl0, hL, hKE, hXE⟩ := id CX
  have hbA : ¬ AA s b := Nat.not_le.mpr hbl
  refine lv_iload hx hb dL_law_23 (lv_at hl 0 rfl) ?_
  refine lv_aload_n hx hb dL_law_25 rfl (lv_at hl 1 rfl) ?_
  refine va_slen hx hb hX hbl hbA hS dL_law_26 ?_
  refine lv_bipush (v := (6 : Int32)) hx hb dL_law_27 (by decide) ?_
  refine lv_isub hx hb dL_law_29 ?_
  refine lv_icmp_gt (tgt := 1818) hx hb dL_law_30 (by decide) (fun _ => ?_) (fun c1 => absurd (lw_L6 (i := i) hL hi ▸ (show (L : Int) - 6 < (i : Int) by omega)) c1)
  refine lv_iconst (v := (1 : Int32)) hx hb dL_law_1818 (by decide) ?_
  refine va_forget (fun q hq => hS.2.2 q hq) ?_
  refine W.widen (k := 601024) (n := 7293034) hcs.1 hcs.2 ?_
  exact lw_ret hx hb hr hlocks dL_law_1819
theorem rm_c : room_1.cells = 601024 := rfl
theorem rm_s : room_1.slots = 7293034 := rfl
set_option maxRecDepth 100000 in
/-- the loop -/
theorem lw_loop {p : Program} {l : Launch} {e : Env} {s : State} {m : MethodId} {below : List Frame} {meth : Method} {c : Code} {b L : Nat} {xs : Nat → Int32} {D : va_G} {cG : Nat → ClassId} {tG : Nat → Nat} (CX : LCx p l s m meth c b L xs D cG tG) {h mm o : Nat} (n : Nat) : ∀ (i cells slots : Nat), L ≤ i + 6 * n → i ≤ 3072 → cells + 8 * n ≤ 601024 → slots + 1000 * n ≤ 7293034 → NX p l e s m below meth c b D cG tG h mm o i 23 cells slots := by
  have hL : L ≤ 3072 := CX.2.2.1
  induction n with
  | zero =>
    intro i cells slots h1 h2 h3 h4
    exact lw_exit CX (by omega) h2 ⟨by omega, by omega⟩
  | succ n ih =>
    intro i cells slots h1 h2 h3 h4
    by_cases h6 : i + 6 ≤ L
    · have k1 : cells + 8 ≤ room_1.cells ∧ slots + 1000 ≤ room_1.slots := ⟨Nat.le_trans (by omega) (Nat.le_of_eq rm_c.symm), Nat.le_trans (by omega) (Nat.le_of_eq rm_s.symm)⟩
      have k2 := ih (i + 6) (cells + 8) (slots + 1000) (by omega) (by omega) (by omega) (by omega)
      have k3 := lw_tail CX k2
      exact lw_turn CX h6 k1 k3
    · exact lw_exit CX h6 h2 ⟨by omega, by omega⟩
set_option maxRecDepth 100000 in
theorem lw_dsub {A : Nat → Prop} {G : hG} {h m o : Nat} {q k : Nat → Nat} {w : va_W} (hD : va_D A (wI G h q m k o)) (e : iI.filterMap (fun i => (wI G h q m k o)[i]?) = w) : va_D A w := by
  refine hD.sub iI (by decide) ?_
  rw [← e]
  rfl
set_option maxRecDepth 100000 in
set_option maxHeartbeats 8000000 in
theorem whole_start {p : Program} {e : Env} {s : State} {m : MethodId} {below : List Frame} {meth : Method} {c : Code} (l : Launch) (hflags : l.flags = flags0) {b L : Nat} {xs : Nat → Int32} (hL : L ≤ 3072) (C0 : lw_At p s m meth c b L xs) : W p l e room_1 s m #[Value.ref b] below meth c s.heap [] 0 0 (lw_Z below #[Value.ref b] s) (entryFrame m ([Value.ref b] : List Value).toArray 7) := by
  obtain ⟨hx, hb, hr, hml, hown, hts0, hX, hbl, hlocks, hgv⟩ := id C0
  have hts : ∀ w ∈ hU, w.before #[Value.ref b] s = true := fun w hw => hts0 w (hU_tbl hw)
  have hown : s.vm.findClass RL = some m.cls := hown
  have hA : ∀ q : Nat, s.heap.size ≤ q → AA s q := fun _ h => h
  obtain ⟨D, cG, tG, hKE, hXE⟩ := en_all (A := AA s) hts0 hgv (fun a h q => absurd h (Nat.not_lt.mpr q))
  have CX : LCx p l s m meth c b L xs D cG tG := ⟨C0, en_fl hflags, hL, hKE, hXE⟩
  have hK := (hKE (fun _ => 0)).1
  have hE := (hKE (fun _ => 0)).2
  have hS : va_S (AA s) s.heap s.heap [] := va_S.rf
  have hP : va_P D vwCl [] s.heap := fun k q h => by simp at h
  have hD : va_D (AA s) [] := ⟨fun i j p q h => by simp at h, fun k q h => by simp at h⟩
  have hl := lv_entry ([.ref b]) (n := 7) (Nat.le_of_ble_eq_true rfl)
  rw [lg_entry_eq]
  generalize (lg_sl ([.ref b]) ++ List.replicate (7 - (lg_sl ([.ref b])).length) Slot.unset).toArray = ls at hl ⊢
  have hl : lv_has ls 7 [(0, .ref b)] := hl
  refine va_new (ci := 11) (fs := [.null, .null, .null, .null, .null, .null, .null, .null, .null, .null, .null, .null, .null, .null, .null, .int (0 : Int32)]) (C := RX11) (T := TX11) (N := 16) hx hb hts inU_X11 tyX11 tyX11_ok hown (hts _ wd_32) (hts _ wd_33) (hts _ wd_1) hK hP hD hS hA rfl (fun j hj => by rcases (show j = 0 ∨ j = 1 ∨ j = 2 ∨ j = 3 ∨ j = 4 ∨ j = 5 ∨ j = 6 ∨ j = 7 ∨ j = 8 ∨ j = 9 ∨ j = 10 ∨ j = 11 ∨ j = 12 ∨ j = 13 ∨ j = 14 ∨ j = 15 by omega) with rfl | rfl | rfl | rfl | rfl | rfl | rfl | rfl | rfl | rfl | rfl | rfl | rfl | rfl | rfl | rfl <;> rfl) (Nat.le_of_ble_eq_true rfl) (Nat.le_of_ble_eq_true rfl) dL_law_0 (fun h0 H hP hD hS => ?_)
  have hP := pfront hP
  have hD := dfront hD
  refine lv_dup hx hb dL_law_3 rfl ?_
  refine cl_IE (G := (cG, (fun _ => 0), tG)) (rv := fun _ => none) (As := []) (rest := [.ref h0]) (stk := fun _ => [.ref h0]) ⟨hx, hb, hml, hown, hts⟩ hK hE hA hP hD hS (e_X11_init l D (cG, (fun _ => 0), tG) [] h0) (mkI hts wd_34 wd_35 wd_1 wd_36 rfl rfl rfl hd_X11_init ⟨Nat.le_of_ble_eq_true rfl, Nat.le_of_ble_eq_true rfl⟩) rfl hl.1 rfl (Nat.le_of_ble_eq_true rfl) dL_law_4 ⟨Nat.le_of_ble_eq_true rfl, Nat.le_of_ble_eq_true rfl⟩ (fun _ => rfl) (fun q H locs hP hD hS => ?_)
  refine lv_astore_n (lv' := [(1, .ref h0), (0, .ref b)]) hx hb dL_law_7 rfl hl (by decide) rfl (fun ls hl => ?_)
  refine va_new (ci := 12) (fs := (.int (0 : Int32) :: .null :: .null :: .int (0 : Int32) :: .int (0 : Int32) :: .int (0 : Int32) :: .int (0 : Int32) :: .int (0 : Int32) :: .int (0 : Int32) :: .int (0 : Int32) :: .null :: .null :: .null :: .null :: .null :: .int (0 : Int32) :: .int (0 : Int32) :: .null :: .null :: .null :: .int (0 : Int32) :: .null :: .null :: .null :: .null :: .int (0 : Int32) :: .int (0 : Int32) :: .int (0 : Int32) :: .null :: .null :: .int (0 : Int32) :: .long (0 : Int64) :: .null :: .null :: .null :: .null :: .int (0 : Int32) :: .null :: .null :: .int (0 : Int32) :: .int (0 : Int32) :: .int (0 : Int32) :: .int (0 : Int32) :: .long (0 : Int64) :: .long (0 : Int64) :: .long (0 : Int64) :: .null :: .null :: .int (0 : Int32) :: .int (0 : Int32) :: .int (0 : Int32) :: .int (0 : Int32) :: .long (0 : Int64) :: .long (0 : Int64) :: .null :: .null :: .null :: .null :: .int (0 : Int32) :: ([] : List Value))) (C := RX12) (T := TX12) (N := 59) hx hb hts inU_X12 tyX12 tyX12_ok hown (hts _ wd_1240) (hts _ wd_1241) (hts _ wd_11) hK hP hD hS hA rfl (fun j hj => by rcases (show j = 0 ∨ j = 1 ∨ j = 2 ∨ j = 3 ∨ j = 4 ∨ j = 5 ∨ j = 6 ∨ j = 7 ∨ j = 8 ∨ j = 9 ∨ j = 10 ∨ j = 11 ∨ j = 12 ∨ j = 13 ∨ j = 14 ∨ j = 15 ∨ j = 16 ∨ j = 17 ∨ j = 18 ∨ j = 19 ∨ j = 20 ∨ j = 21 ∨ j = 22 ∨ j = 23 ∨ j = 24 ∨ j = 25 ∨ j = 26 ∨ j = 27 ∨ j = 28 ∨ j = 29 ∨ j = 30 ∨ j = 31 ∨ j = 32 ∨ j = 33 ∨ j = 34 ∨ j = 35 ∨ j = 36 ∨ j = 37 ∨ j = 38 ∨ j = 39 ∨ j = 40 ∨ j = 41 ∨ j = 42 ∨ j = 43 ∨ j = 44 ∨ j = 45 ∨ j = 46 ∨ j = 47 ∨ j = 48 ∨ j = 49 ∨ j = 50 ∨ j = 51 ∨ j = 52 ∨ j = 53 ∨ j = 54 ∨ j = 55 ∨ j = 56 ∨ j = 57 ∨ j = 58 by omega) with rfl | rfl | rfl | rfl | rfl | rfl | rfl | rfl | rfl | rfl | rfl | rfl | rfl | rfl | rfl | rfl | rfl | rfl | rfl | rfl | rfl | rfl | rfl | rfl | rfl | rfl | rfl | rfl | rfl | rfl | rfl | rfl | rfl | rfl | rfl | rfl | rfl | rfl | rfl | rfl | rfl | rfl | rfl | rfl | rfl | rfl | rfl | rfl | rfl | rfl | rfl | rfl | rfl | rfl | rfl | rfl | rfl | rfl | rfl <;> rfl) (Nat.le_of_ble_eq_true rfl) (Nat.le_of_ble_eq_true rfl) dL_law_8 (fun m0 H hP hD hS => ?_)
  have hP := pfront hP
  have hD := dfront hD
  refine lv_dup hx hb dL_law_11 rfl ?_
  refine cl_IE (G := (cG, (fun _ => 0), tG)) (rv := fun _ => none) (As := []) (rest := [.ref m0]) (stk := fun _ => [.ref m0]) ⟨hx, hb, hml, hown, hts⟩ hK hE hA hP hD hS (e_X12_init l D (cG, (fun _ => 0), tG) _ m0) (mkI hts wd_1242 wd_1243 wd_11 wd_1244 rfl rfl rfl hd_X12_init ⟨Nat.le_of_ble_eq_true rfl, Nat.le_of_ble_eq_true rfl⟩) rfl hl.1 rfl (Nat.le_of_ble_eq_true rfl) dL_law_12 ⟨Nat.le_of_ble_eq_true rfl, Nat.le_of_ble_eq_true rfl⟩ (fun _ => rfl) (fun k H locs hP hD hS => ?_)
  refine lv_astore_n (lv' := [(2, .ref m0), (1, .ref h0), (0, .ref b)]) hx hb dL_law_15 rfl hl (by decide) rfl (fun ls hl => ?_)
  refine lv_iconst (v := (1 : Int32)) hx hb dL_law_16 (by decide) ?_
  refine q_newa (atype := .long) (ty := .long) (a0 := (1, .inr (.inl (fun _ => 0)))) hx hb wd_121 hts rfl hK 1 rfl hP hD hS hA (fun _ => rfl) (by decide) (by decide) (Nat.le_of_ble_eq_true rfl) (Nat.le_of_ble_eq_true rfl) (Nat.le_of_ble_eq_true rfl) dL_law_17 (fun o H hP hD hS => ?_)
  refine lv_astore_n (lv' := [(3, .ref o), (2, .ref m0), (1, .ref h0), (0, .ref b)]) hx hb dL_law_19 rfl hl (by decide) rfl (fun ls hl => ?_)
  refine lv_iconst (v := (0 : Int32)) hx hb dL_law_20 (by decide) ?_
  refine lv_istore (lv' := [(4, .int (0 : Int32)), (3, .ref o), (2, .ref m0), (1, .ref h0), (0, .ref b)]) hx hb dL_law_21 hl (by decide) rfl (fun ls hl => ?_)
  have hP : va_P D vwCl (wI (cG, (fun _ => 0), tG) h0 q m0 k o) H := hP
  have hD : va_D (AA s) (wI (cG, (fun _ => 0), tG) h0 q m0 k o) := hD
  have hP := hP.sub iI (wI_e (cG, (fun _ => 0), tG) h0 q m0 k o)
  have hD := lw_dsub hD (wI_e (cG, (fun _ => 0), tG) h0 q m0 k o)
  refine W.widen (k := 100) (n := 20000) (Nat.le_of_ble_eq_true rfl) (Nat.le_of_ble_eq_true rfl) ?_
  exact lw_loop CX (h := h0) (mm := m0) (o := o) 512 0 100 20000 (by omega) (by decide) (by decide) (by decide) (gI (cG, (fun _ => 0), tG) h0 q m0 k) Z0 σI τI AI (fun _ => 0) H locs ls rfl rfl J_I (JX_I (G := (cG, (fun _ => 0), tG)) (fun r hr => by unfold gI; rw [if_neg (by omega), if_neg (by omega)])) hP hD hS (lv_sub hl [0, 4, 3, 2, 1] rfl)
