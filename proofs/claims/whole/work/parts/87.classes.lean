/-! what the law's entry gives: the classes -/
theorem en_c {args : Array Value} {s : State} (hts : ∀ w ∈ hU, w.before args s = true) : ∀ q ∈ vwCl, ∃ (cC : ClassId) (iS : Nat → Nat), u_Kn s q.1 q.2.1 q.2.2 cC iS := by
  intro q hq
  simp only [vwCl, List.mem_cons, List.not_mem_nil, or_false] at hq
  rcases hq with rfl | rfl | rfl | rfl | rfl | rfl | rfl | rfl | rfl | rfl | rfl | rfl | rfl
  · exact u_known hts inU_Jx4a65c (hts _ wd_210)
  · exact u_known hts inU_X0 (hts _ wd_123)
  · exact u_known hts inU_X1 (hts _ wd_151)
  · exact u_known hts inU_X2 (hts _ wd_1053)
  · exact u_known hts inU_X3 (hts _ wd_102)
  · exact u_known hts inU_X4 (hts _ wd_528)
  · exact u_known hts inU_X5 (hts _ wd_71)
  · exact u_known hts inU_X7 (hts _ wd_774)
  · exact u_known hts inU_X8 (hts _ wd_41)
  · exact u_known hts inU_X9 (hts _ wd_748)
  · exact u_known hts inU_X10 (hts _ wd_81)
  · exact u_known hts inU_X11 (hts _ wd_33)
  · exact u_known hts inU_X12 (hts _ wd_1241)
theorem en_C {args : Array Value} {s : State} (hts : ∀ w ∈ hU, w.before args s = true) : ∃ D : va_G, ∀ (ci : Nat) (q : vw_C), vwCl[ci]? = some q → u_Kn s q.1 q.2.1 q.2.2 (D.1 ci) (D.2 ci) := by
  have h : ∀ ci : Nat, ∃ x : ClassId × (Nat → Nat), ∀ q : vw_C, vwCl[ci]? = some q → u_Kn s q.1 q.2.1 q.2.2 x.1 x.2 := by
    intro ci
    cases e : vwCl[ci]? with
    | none => exact ⟨(default, fun _ => 0), fun q hq => by cases hq⟩
    | some q =>
      obtain ⟨c, iS, hk⟩ := en_c hts q (List.mem_of_getElem? e)
      exact ⟨(c, iS), fun q' hq' => by cases hq'; exact hk⟩
  exact ⟨(fun ci => (Classical.choose (h ci)).1, fun ci => (Classical.choose (h ci)).2), fun ci q hq => Classical.choose_spec (h ci) q hq⟩
