/-! what the law's entry gives: the arrays' classes, the texts, the statics, the links: all that lies outside both worlds -/
theorem en_ra {args : Array Value} {s : State} {ty : FieldType} (hp : ty = .int ∨ ty = .long ∨ ty = .byte) (h : (Cond.arrayClass ty).before args s = true) : ∃ cA : ClassId, ArrOfT s cA ty ∧ va_RA s cA ty := by
  obtain ⟨c, k, comp, h1, h2, h3⟩ := Cond.arrayClass_spec (args := args) (first := s) (o := none) (idx := []) h
  refine ⟨c, fun n z => ⟨fun k h => (by cases h), k, h2, comp, h3⟩, ?_⟩
  rcases hp with rfl | rfl | rfl <;> exact h1
theorem en_ro {args : Array Value} {s : State} (h : (Cond.arrayOver (.object "java/lang/Object")).before args s = true) : ∃ cA : ClassId, ArrOfT s cA (.object "java/lang/Object") ∧ va_RA s cA (.object "java/lang/Object") := by
  obtain ⟨comp, c, k, h1, -, h3, h4, h5⟩ := Cond.arrayOver_spec (args := args) (first := s) (o := none) (idx := []) h
  exact ⟨c, fun n z => ⟨fun k h => (by cases h), k, h3, comp, h4⟩, k, comp, h3, h4, h1, h5⟩
theorem en_rl {args : Array Value} {s : State} (h : (Cond.arrayOver (.array .long)).before args s = true) : ∃ cA : ClassId, ArrOfT s cA (.array .long) ∧ va_RA s cA (.array .long) := by
  obtain ⟨comp, c, k, h1, h3, h4, h5⟩ := Cond.arrayOver_specA (args := args) (first := s) (o := none) (idx := []) h
  exact ⟨c, fun n z => ⟨fun k h => (by cases h), k, h3, comp, h4⟩, h5⟩
theorem vkS_c {N : Nat} {len : List Nat} {byt : List (List Int32)} {adK adV bdK bdV : Nat → Nat} {A : Nat → Prop} {U : State} {H : Heap} (h : vk_S N len byt adK adV A U H) (e1 : ∀ i, i < N → bdK i = adK i) (e2 : ∀ i, i < N → bdV i = adV i) : vk_S N len byt bdK bdV A U H := by
  refine ⟨fun i hi => ?_, fun i j hi hj e => ?_⟩
  · rw [e1 i hi, e2 i hi]; exact h.1 i hi
  · rw [e1 i hi, e1 j hj] at e; exact h.2 i j hi hj e
set_option maxRecDepth 100000 in
theorem en_nF : ∀ q ∈ nestF, Cond.fieldLinkNest q.1 q.2.1 q.2.2.1 q.2.2.2.1 q.2.2.2.2 "LiarHall" ∈ lw_tbl := by decide +kernel
set_option maxRecDepth 100000 in
theorem en_nM : ∀ q ∈ nestM, Cond.methodLinkNest q.1 q.2.1 q.2.2 "LiarHall" ∈ lw_tbl := by decide +kernel
set_option maxRecDepth 100000 in
theorem en_nC : ∀ q ∈ castL, Cond.castable q.1 q.2 ∈ lw_tbl := by decide +kernel
set_option maxRecDepth 100000 in
theorem en_nS : ∀ q ∈ strL, Cond.stringRef q.1 q.2.1 q.2.2.1 ∈ lw_tbl := by decide +kernel
set_option maxRecDepth 100000 in
theorem en_nB : ∀ w ∈ vB, w ∈ lw_tbl := by decide +kernel
set_option maxRecDepth 100000 in
set_option maxHeartbeats 4000000 in
theorem en_E {b : Nat} {s : State} {A : Nat → Prop} (hts : ∀ w ∈ lw_tbl, w.before #[Value.ref b] s = true) (hgv : (Jvm.Cond.and given_1 narrow_1).before #[Value.ref b] s = true) (hA : ∀ a : Nat, a < s.heap.size → ¬ A a) : ∃ t : Nat → Nat, ∀ (c : Nat → ClassId) (g : Nat → Nat), sE (c, g, t) A s s.heap := by
  have hs := flat_of_before _ hgv
  obtain ⟨adK, adV, hS, hK⟩ := en_S hgv hA
  obtain ⟨a5, _, _, _, h5, -⟩ := Cond.exactly_spec (args := #[Value.ref b]) (first := s) (o := none) (s := s) (idx := []) (t := .string "LiarHall" 243) (cls := "java/lang/String") (hs _ (by decide +kernel))
  obtain ⟨t0, ht0, hT⟩ := va_Tof (tm := .static "java/util/ArrayList" "DEFAULTCAPACITY_EMPTY_ELEMENTDATA" "[Ljava/lang/Object;") (ty := .object "java/lang/Object") (N := 0) (f := fun _ => .null) (by decide) (hs _ (by decide +kernel)) (va_eqt (hs _ (by decide +kernel))) (fun j hj => absurd hj (Nat.not_lt_zero j)) hA
  obtain ⟨mi, hmi⟩ := va_Mi.of (C := "[Ljava/lang/Object;") (hs _ (by decide +kernel))
  obtain ⟨t, e1, e2, e5, e200, e201⟩ : ∃ t : Nat → Nat, (∀ i, i < 5 → t i = adK i) ∧ (∀ i, i < 5 → t (100 + i) = adV i) ∧ t 5 = a5 ∧ t 200 = t0 ∧ t 201 = mi := by
    refine ⟨fun i => if i < 5 then adK i else if i = 5 then a5 else if i = 200 then t0 else if i = 201 then mi else adV (i - 100), fun i hi => if_pos hi, fun i hi => ?_, rfl, rfl, rfl⟩
    show (if 100 + i < 5 then _ else if 100 + i = 5 then _ else if 100 + i = 200 then _ else if 100 + i = 201 then _ else adV (100 + i - 100)) = _
    rw [if_neg (by omega), if_neg (by omega), if_neg (by omega), if_neg (by omega), Nat.add_sub_cancel_left]
  have k0 := hK 0 (by decide)
  have k1 := hK 1 (by decide)
  have k2 := hK 2 (by decide)
  have k3 := hK 3 (by decide)
  have k4 := hK 4 (by decide)
  rw [← e1 0 (by decide)] at k0
  rw [← e1 1 (by decide)] at k1
  rw [← e1 2 (by decide)] at k2
  rw [← e1 3 (by decide)] at k3
  rw [← e1 4 (by decide)] at k4
  rw [← e5] at h5
  refine ⟨t, fun c g => ⟨vkS_c hS e1 e2, ?_, ?_, ?_, ?_⟩⟩
  · exact va_Zof (hts _ (by decide +kernel)) (hts _ (by decide +kernel)) (va_eqi (hs _ (by decide +kernel))) hA
  · show va_Z _ _ _ (.ref (t 200)) A s s.heap
    rw [e200]
    exact va_Zof (hts _ (by decide +kernel)) (hts _ (by decide +kernel)) ht0 hA
  · show va_T _ (t 200) 0 _ A s s.heap
    rw [e200]
    exact hT
  · refine ⟨fun q hq => va_Nw.of rfl (hts _ (en_nF q hq)), fun q hq => va_Nw.of rfl (hts _ (en_nM q hq)), fun q hq => ?_, hts (.arrayOver (.array .long)) (by decide +kernel), hts (.arrayOver (.object "java/lang/Object")) (by decide +kernel), fun q hq => va_Nw.of rfl (hts _ (en_nC q hq)), va_Nw.of rfl (hts (.declares ⟨"java/lang/Object", "getClass", "()Ljava/lang/Class;"⟩) (by decide +kernel)), ?_⟩
    · have hw := en_nS q hq
      simp only [strL, List.mem_cons, List.not_mem_nil, or_false] at hq
      rcases hq with rfl | rfl | rfl | rfl | rfl | rfl | rfl | rfl | rfl | rfl
      · exact vk_R.of (hts _ hw) k0
      · exact vk_R.of (hts _ hw) k1
      · exact vk_R.of (hts _ hw) k2
      · exact vk_R.of (hts _ hw) k3
      · exact vk_R.of (hts _ hw) k4
      · exact vk_R.of (hts _ hw) (va_eqR (u := .string RX12 54) (hs (.eq (.string "LiarHall" 27) (.string "LiarHallModel" 54)) (by decide +kernel)) k0)
      · exact vk_R.of (hts _ hw) (va_eqR (u := .string RX12 60) (hs (.eq (.string "LiarHall" 29) (.string "LiarHallModel" 60)) (by decide +kernel)) k1)
      · exact vk_R.of (hts _ hw) (va_eqR (u := .string RX12 298) (hs (.eq (.string "LiarHall" 38) (.string "LiarHallModel" 298)) (by decide +kernel)) k2)
      · exact vk_R.of (hts _ hw) (va_eqR (u := .string RX12 300) (hs (.eq (.string "LiarHall" 40) (.string "LiarHallModel" 300)) (by decide +kernel)) k3)
      · exact vk_R.of (hts _ hw) h5
    · show va_Mi _ (t 201) s
      rw [e201]
      exact hmi
set_option maxRecDepth 100000 in
theorem en_X {b : Nat} {s : State} {A : Nat → Prop} (hts : ∀ w ∈ lw_tbl, w.before #[Value.ref b] s = true) (hgv : (Jvm.Cond.and given_1 narrow_1).before #[Value.ref b] s = true) (hA : ∀ a : Nat, a < s.heap.size → ¬ A a) : xE A s s.heap := by
  have hs := flat_of_before _ hgv
  refine ⟨vx_Zqof (hts _ (by decide +kernel)) (hts _ (by decide +kernel)) (hs _ (by decide +kernel)) hA, vx_Zqof (hts _ (by decide +kernel)) (hts _ (by decide +kernel)) (hs _ (by decide +kernel)) hA, fun w hw => va_Nw.of (vB_tbl w hw) (hts w (en_nB w hw))⟩
set_option maxRecDepth 100000 in
/-- all that the entry gives -/
theorem en_all {b : Nat} {s : State} {A : Nat → Prop} (hts : ∀ w ∈ lw_tbl, w.before #[Value.ref b] s = true) (hgv : (Jvm.Cond.and given_1 narrow_1).before #[Value.ref b] s = true) (hA : ∀ a : Nat, a < s.heap.size → ¬ A a) : ∃ (D : va_G) (c : Nat → ClassId) (t : Nat → Nat), (∀ g, va_K D vwCl (tysG (c, g, t)) s ∧ sE (c, g, t) A s s.heap) ∧ xE A s s.heap := by
  have hU : ∀ w ∈ hU, w.before #[Value.ref b] s = true := fun w hw => hts w (hU_tbl hw)
  obtain ⟨D, hD⟩ := en_C hU
  obtain ⟨t, hE⟩ := en_E hts hgv hA
  obtain ⟨c0, a0, b0⟩ := en_ra (s := s) (ty := .int) (Or.inl rfl) (hts (.arrayClass .int) (by decide +kernel))
  obtain ⟨c1, a1, b1⟩ := en_ra (s := s) (ty := .long) (Or.inr (Or.inl rfl)) (hts (.arrayClass .long) (by decide +kernel))
  obtain ⟨c2, a2, b2⟩ := en_ra (s := s) (ty := .byte) (Or.inr (Or.inr rfl)) (hts (.arrayClass .byte) (by decide +kernel))
  obtain ⟨c3, a3, b3⟩ := en_ro (s := s) (hts (.arrayOver (.object "java/lang/Object")) (by decide +kernel))
  obtain ⟨c4, a4, b4⟩ := en_rl (s := s) (hts (.arrayOver (.array .long)) (by decide +kernel))
  refine ⟨D, fun i => if i = 0 then c0 else if i = 1 then c1 else if i = 2 then c2 else if i = 3 then c3 else c4, t, fun g => ⟨⟨hD, fun k q hk => ?_⟩, hE _ g⟩, en_X hts hgv hA⟩
  match k, hk with
  | 0, hk => cases hk; exact ⟨a0, b0⟩
  | 1, hk => cases hk; exact ⟨a1, b1⟩
  | 2, hk => cases hk; exact ⟨a2, b2⟩
  | 3, hk => cases hk; exact ⟨a3, b3⟩
  | 4, hk => cases hk; exact ⟨a4, b4⟩
  | k + 5, hk => cases hk
