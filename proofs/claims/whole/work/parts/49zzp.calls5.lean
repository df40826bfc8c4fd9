/-! calls: NETS -/
theorem netM_of {A : HA} {τ : hSt} {i : Nat} (hA : okA A) (hM : JM A τ) (hi : i < nN_ A) : netM τ i (fN A i).1 (fN A i).2 := by
  have h9 := hA.2.2.2.2.2.2.2.2
  have h1 := h9.2.1 i hi
  have h2 := hM.2.2.2.2.2.1.2 i hi
  exact ⟨by omega, h1.1, h1.2.1, h1.2.2, h2.1, h2.2⟩
theorem q_alike {A : HA} {Z : hZ} {σ τ : hSt} {F : Nat} (hF : 50000 ≤ F) (h : J A Z σ τ) (x1 x2 : Int32) : ∃ v σ' τ', f_X11_alike F Z σ x1 x2 = some (v, σ') ∧ f_X12_alike F Z τ x1 x2 = some (v, τ') ∧ J A Z σ' τ' := by
  obtain ⟨z1, hz1, rfl⟩ := ofx x1
  obtain ⟨z2, hz2, rfl⟩ := ofx x2
  obtain ⟨l1, l2⟩ := h.2.1.2.2.2.2
  have hn := h.1.2.2.2.2.2.2.2.2.1
  have t0 := J_0 h 0
  have m2' := t0.2.2.2.1.2.2.2.2.2.1
  unfold f_X11_alike f_X12_alike
  rw [p_misN m2'.1 (by omega) hz1, obs, p_misN m2'.1 (by omega) hz2, obs]
  rcases ixc z1 (nN_ A) with ⟨s, hs, rfl⟩ | c
  · have hz := l2 s hs
    rw [p_netAt l1 (by omega) hs hz.1, obs, oc_1, if_pos hz.1, decide_eq_true (show 0 ≤ (s : Int) ∧ (s : Int) < (nN_ A : Int) by omega), b01t, if_neg n10]
    rcases ixc z2 (nN_ A) with ⟨o, ho, rfl⟩ | d
    · have hw := l2 o ho
      rw [p_netAt l1 (by omega) ho hw.1, obs, oc_1, if_pos hw.1, decide_eq_true (show 0 ≤ (o : Int) ∧ (o : Int) < (nN_ A : Int) by omega), b01t, if_neg n10]
      obtain ⟨σ1, a1, a2, -⟩ := p_isAlike (F := F) (by omega) hz.2 hw.2 σ
      obtain ⟨τ1, b1, b2, -⟩ := p_areAlike (F := F) (Z := Z) (by omega) (sI τ 200 0 0) (netM_of h.1 t0.2.2.2.1 hs) (netM_of h.1 t0.2.2.2.1 ho)
      rw [a1, obs, b1, obs]
      dsimp only
      refine ⟨b01 (alk (fN A s).1 (fN A s).2 (fN A o).1 (fN A o).2).isSome, σ1, τ1, ?_, ?_, J_W t0 a2 b2 (by decide) (by decide) (by decide) (by decide) (by decide)⟩
      · cases (alk (fN A s).1 (fN A s).2 (fN A o).1 (fN A o).2).isSome <;> rfl
      · cases (alk (fN A s).1 (fN A s).2 (fN A o).1 (fN A o).2).isSome <;> rfl
    · rw [p_netNo l1 (by omega) hz2 d, obs, decide_eq_false d, b01f, if_pos rfl]
      exact ⟨_, _, _, rfl, rfl, t0⟩
  · rw [p_netNo l1 (by omega) hz1 c, obs, decide_eq_false c, b01f, if_pos rfl]
    rcases ixc z2 (nN_ A) with ⟨o, ho, rfl⟩ | d
    · have hw := l2 o ho
      have e : f_X11_netAt Z σ (i32 (o : Int)) = some (some (9000 + o)) := p_netAt l1 (by omega) ho hw.1
      refine ⟨_, σ, _, ?_, rfl, t0⟩
      show (f_X11_netAt Z σ (i32 (o : Int))).bind _ = _
      rw [e, obs, oc_1, if_pos hw.1]
    · refine ⟨_, σ, _, ?_, rfl, t0⟩
      show (f_X11_netAt Z σ (i32 z2)).bind _ = _
      rw [p_netNo l1 (by omega) hz2 d, obs]
      rfl
theorem q_shuffle {A : HA} {Z : hZ} {σ τ : hSt} {F : Nat} (hF : 50000 ≤ F) (h : J A Z σ τ) (x1 x2 x3 : Int32) : ∃ v σ' τ', f_X11_shuffle F Z σ x1 x2 x3 = some (v, σ') ∧ f_X12_shuffle F Z τ x1 x2 x3 = some (v, τ') ∧ J A Z σ' τ' := by
  obtain ⟨z1, hz1, rfl⟩ := ofx x1
  obtain ⟨z2, hz2, rfl⟩ := ofx x2
  obtain ⟨z3, hz3, rfl⟩ := ofx x3
  obtain ⟨l1, l2⟩ := h.2.1.2.2.2.2
  have hn := h.1.2.2.2.2.2.2.2.2.1
  have t0 := J_0 h 0
  have m2' := t0.2.2.2.1.2.2.2.2.2.1
  have m2 := h.2.2.2.1.2.2.2.2.2.1
  unfold f_X11_shuffle f_X12_shuffle
  rw [p_misN m2'.1 (by omega) hz1, obs, p_misN m2'.1 (by omega) hz2, obs]
  rcases ixc z1 (nN_ A) with ⟨s, hs, rfl⟩ | c
  · have hz := l2 s hs
    have hk := netM_of h.1 t0.2.2.2.1 hs
    obtain ⟨k1, k2, k3, k4, k5, k6⟩ := hk
    have k5' := (m2.2 s hs).1
    rw [p_netAt l1 (by omega) hs hz.1, obs, oc_1, if_pos hz.1, decide_eq_true (show 0 ≤ (s : Int) ∧ (s : Int) < (nN_ A : Int) by omega), b01t, if_neg n10]
    rcases ixc z2 (nN_ A) with ⟨o, ho, rfl⟩ | d
    · have hw := l2 o ho
      rw [p_netAt l1 (by omega) ho hw.1, obs, oc_1, if_pos hw.1, decide_eq_true (show 0 ≤ (o : Int) ∧ (o : Int) < (nN_ A : Int) by omega), b01t, if_neg n10, i32_cn (show s ≤ 2147483647 by omega), if_neg (ix_ok (show s < 12 by omega) (by omega)), k5', hz.2.2.2.2.1]
      rw [show i32 ((fN A s).1 : Int) - (1 : Int32) = i32 (((fN A s).1 : Int) - 1) by rw [show (1 : Int32) = i32 1 from rfl, i32_sub], i32_l hz3, i32_l (by omega), show (0 : Int64) = i64 0 from rfl, p_isIn (by omega) (by omega) (by omega), obs]
      rcases ixc z3 (fN A s).1 with ⟨i, hi, rfl⟩ | e
      · rw [if_neg (i0 (by omega)), if_pos ((ltI (by omega)).mpr (show (i : Int) < ((fN A s).1 : Int) by omega)), if_neg (show ¬ (6 : Int32) ≤ i32 (i : Int) from mt (leI (a := 6) (by omega)).mp (by omega)), decide_eq_true (show 0 ≤ (i : Int) ∧ (i : Int) ≤ ((fN A s).1 : Int) - 1 by omega), b01t, if_neg n10]
        obtain ⟨σ1, a1, a2, a3⟩ := p_isAlike (F := F) (by omega) hz.2 hw.2 σ
        obtain ⟨τ1, b1, b2, b3⟩ := p_areAlike (F := F) (Z := Z) (by omega) (sI τ 200 0 0) ⟨k1, k2, k3, k4, k5, k6⟩ (netM_of h.1 t0.2.2.2.1 ho)
        have hx := ix_ok (show i < 6 by omega) (show i ≤ 100000 by omega)
        rw [a1, obs, b1, obs]
        dsimp only
        have hJ := J_W t0 a2 b2 (by decide) (by decide) (by decide) (by decide) (by decide)
        cases g : alk (fN A s).1 (fN A s).2 (fN A o).1 (fN A o).2 with
        | none =>
          exact ⟨_, σ1, τ1, rfl, rfl, hJ⟩
        | some r =>
          have c1 := (a3 r g).1 i hi
          have c2 := (b3 r g).1 i hi
          refine ⟨i32 (r i : Int), σ1, τ1, ?_, ?_, hJ⟩
          · show (if (1 : Int32) = 0 then _ else _) = _
            rw [if_neg n10, i32_cn (by omega), if_neg hx, c1]
          · show (if (1 : Int32) = 0 then _ else _) = _
            rw [if_neg n10, i32_cn (by omega), if_neg hx, c2]
      · rw [decide_eq_false (show ¬ (0 ≤ z3 ∧ z3 ≤ ((fN A s).1 : Int) - 1) by omega), b01f, if_pos rfl]
        by_cases c4 : z3 < 0
        · rw [if_pos (show i32 z3 < (0 : Int32) from (ltI (b := 0) (by omega)).mpr c4)]
          exact ⟨_, _, _, rfl, rfl, t0⟩
        · rw [if_neg (show ¬ i32 z3 < (0 : Int32) from mt (ltI (b := 0) (by omega)).mp c4), if_neg (mt (ltI (by omega)).mp (show ¬ z3 < ((fN A s).1 : Int) by omega))]
          exact ⟨_, _, _, rfl, rfl, t0⟩
    · rw [p_netNo l1 (by omega) hz2 d, obs, decide_eq_false d, b01f, if_pos rfl]
      exact ⟨_, _, _, rfl, rfl, t0⟩
  · rw [p_netNo l1 (by omega) hz1 c, obs, decide_eq_false c, b01f, if_pos rfl]
    rcases ixc z2 (nN_ A) with ⟨o, ho, rfl⟩ | d
    · have hw := l2 o ho
      have e : f_X11_netAt Z σ (i32 (o : Int)) = some (some (9000 + o)) := p_netAt l1 (by omega) ho hw.1
      refine ⟨_, σ, _, ?_, rfl, t0⟩
      show (f_X11_netAt Z σ (i32 (o : Int))).bind _ = _
      rw [e, obs, oc_1, if_pos hw.1]
    · refine ⟨_, σ, _, ?_, rfl, t0⟩
      show (f_X11_netAt Z σ (i32 z2)).bind _ = _
      rw [p_netNo l1 (by omega) hz2 d, obs]
      rfl
theorem q_unlike {A : HA} {Z : hZ} {σ τ : hSt} {F : Nat} (hF : 50000 ≤ F) (h : J A Z σ τ) (x1 x2 : Int32) (x3 : Int64) (x5 : Int32) : ∃ v σ' τ', f_X11_unlike F Z σ x1 x2 x3 x5 = some (v, σ') ∧ f_X12_unlike F Z τ x1 x2 x3 x5 = some (v, τ') ∧ J A Z σ' τ' := by
  obtain ⟨z1, hz1, rfl⟩ := ofx x1
  obtain ⟨z2, hz2, rfl⟩ := ofx x2
  obtain ⟨z5, hz5, rfl⟩ := ofx x5
  obtain ⟨l1, l2⟩ := h.2.1.2.2.2.2
  have hn := h.1.2.2.2.2.2.2.2.2.1
  have t0 := J_0 h 0
  have m2' := t0.2.2.2.1.2.2.2.2.2.1
  have m2 := h.2.2.2.1.2.2.2.2.2.1
  unfold f_X11_unlike f_X12_unlike
  rw [p_misN m2'.1 (by omega) hz1, obs, p_misN m2'.1 (by omega) hz2, obs]
  rcases ixc z1 (nN_ A) with ⟨s, hs, rfl⟩ | c
  · have hz := l2 s hs
    have hk := netM_of h.1 t0.2.2.2.1 hs
    rw [p_netAt l1 (by omega) hs hz.1, obs, oc_1, if_pos hz.1, decide_eq_true (show 0 ≤ (s : Int) ∧ (s : Int) < (nN_ A : Int) by omega), b01t, if_neg n10]
    rcases ixc z2 (nN_ A) with ⟨o, ho, rfl⟩ | d
    · have hw := l2 o ho
      have hk2 := netM_of h.1 t0.2.2.2.1 ho
      have n1 := hk.2.2.1
      have n2 := hk2.2.2.1
      rw [p_netAt l1 (by omega) ho hw.1, obs, oc_1, if_pos hw.1, decide_eq_true (show 0 ≤ (o : Int) ∧ (o : Int) < (nN_ A : Int) by omega), b01t, if_neg n10, i32_cn (show s ≤ 2147483647 by omega), i32_cn (show o ≤ 2147483647 by omega), if_neg (ix_ok (show s < 12 by omega) (by omega)), if_neg (ix_ok (show o < 12 by omega) (by omega)), (m2.2 s hs).1, (m2.2 o ho).1, hz.2.2.2.2.1, hw.2.2.2.2.1]
      by_cases e1 : s = o
      · have e1' : i32 (s : Int) = i32 (o : Int) := by rw [e1]
        rw [if_pos e1', if_pos e1']
        exact ⟨_, _, _, rfl, rfl, t0⟩
      · have e1' : ¬ i32 (s : Int) = i32 (o : Int) := mt (eqI (by omega)).mp (by omega)
        rw [if_neg e1', if_neg e1']
        by_cases e2 : (fN A s).1 = (fN A o).1
        · have e2' : i32 ((fN A s).1 : Int) = i32 ((fN A o).1 : Int) := by rw [e2]
          rw [if_pos e2', if_pos e2', i32_l hz5, show (1 : Int64) = i64 1 from rfl, show (30 : Int64) = i64 30 from rfl, p_isIn (by omega) (by omega) (by omega), obs]
          by_cases e5 : 1 ≤ z5 ∧ z5 ≤ 30
          · obtain ⟨m, rfl⟩ : ∃ m : Nat, z5 = (m : Int) := ⟨z5.toNat, by omega⟩
            obtain ⟨σ1, a1, a2, -⟩ := p_isAlike (F := F) (by omega) hz.2 hw.2 σ
            obtain ⟨τ1, b1, b2, -⟩ := p_areAlike (F := F) (Z := Z) (by omega) (sI τ 200 0 0) hk hk2
            rw [if_neg (show ¬ i32 (m : Int) < (1 : Int32) from mt (ltI (b := 1) (by omega)).mp (by omega)), if_pos (show i32 (m : Int) ≤ (30 : Int32) from (leI (b := 30) (by omega)).mpr (by omega)), decide_eq_true e5, b01t, if_neg n10, a1, obs, b1, obs]
            dsimp only
            have d1 := p_munl (τ := τ1) (al := (alk (fN A s).1 (fN A s).2 (fN A o).1 (fN A o).2).isSome) (one := s) (other := o) (m := m) (by omega) (by omega) e1 (by omega) m 0 F x3 0 (by omega) (by omega) (by omega)
            have hJ := J_W t0 a2 b2 (by decide) (by decide) (by decide) (by decide) (by decide)
            by_cases e3 : s < o
            · have c1 := p_unl (σ := σ1) (al := (alk (fN A s).1 (fN A s).2 (fN A o).1 (fN A o).2).isSome) (told := 0) (m := m) (by omega) (by omega) m 0 F x3 0 (by omega) (by omega) (by omega)
              rw [if_pos e3] at d1
              rw [if_neg (mt (leI (by omega)).mp (show ¬ (o : Int) ≤ (s : Int) by omega))]
              exact ⟨_, _, _, c1, d1, hJ⟩
            · have c1 := p_unl (σ := σ1) (al := (alk (fN A s).1 (fN A s).2 (fN A o).1 (fN A o).2).isSome) (told := 1) (m := m) (by omega) (by omega) m 0 F x3 0 (by omega) (by omega) (by omega)
              rw [if_neg e3] at d1
              rw [if_pos ((leI (by omega)).mpr (show (o : Int) ≤ (s : Int) by omega))]
              exact ⟨_, _, _, c1, d1, hJ⟩
          · rw [decide_eq_false e5, b01f, if_pos rfl]
            by_cases c4 : z5 < 1
            · rw [if_pos (show i32 z5 < (1 : Int32) from (ltI (b := 1) (by omega)).mpr c4)]
              exact ⟨_, _, _, rfl, rfl, t0⟩
            · rw [if_neg (show ¬ i32 z5 < (1 : Int32) from mt (ltI (b := 1) (by omega)).mp c4), if_neg (show ¬ i32 z5 ≤ (30 : Int32) from mt (leI (b := 30) (by omega)).mp (by omega))]
              exact ⟨_, _, _, rfl, rfl, t0⟩
        · have e2' : ¬ i32 ((fN A s).1 : Int) = i32 ((fN A o).1 : Int) := mt (eqI (by omega)).mp (by omega)
          rw [if_neg e2', if_neg e2']
          exact ⟨_, _, _, rfl, rfl, t0⟩
    · rw [p_netNo l1 (by omega) hz2 d, obs, decide_eq_false d, b01f, if_pos rfl]
      exact ⟨_, _, _, rfl, rfl, t0⟩
  · rw [p_netNo l1 (by omega) hz1 c, obs, decide_eq_false c, b01f, if_pos rfl]
    rcases ixc z2 (nN_ A) with ⟨o, ho, rfl⟩ | d
    · have hw := l2 o ho
      have e : f_X11_netAt Z σ (i32 (o : Int)) = some (some (9000 + o)) := p_netAt l1 (by omega) ho hw.1
      refine ⟨_, σ, _, ?_, rfl, t0⟩
      show (f_X11_netAt Z σ (i32 (o : Int))).bind _ = _
      rw [e, obs, oc_1, if_pos hw.1]
    · refine ⟨_, σ, _, ?_, rfl, t0⟩
      show (f_X11_netAt Z σ (i32 z2)).bind _ = _
      rw [p_netNo l1 (by omega) hz2 d, obs]
      rfl
