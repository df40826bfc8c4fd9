/-! refusals: nothing is told, both answer -1 -/
theorem oF_ne {f : Nat} (h : f ≤ 4000) : ¬ i32 (oF (some f)) = (-1 : Int32) := fun q => by
  have q : i32 (f : Int) = i32 (-1) := q.trans (by decide)
  have := (eqI (by omega)).mp q
  omega
theorem r_saying {A : HA} {Z : hZ} {σ τ : hSt} {F : Nat} (hF : 50000 ≤ F) (h : J A Z σ τ) (c : nS_ A = 20 ∨ ¬ sayF (aT A).1 (aT A).2 = none) : ∃ σ' τ', f_X11_saying F Z σ = some (-1, σ') ∧ f_X12_saying F Z τ = some (-1, τ') ∧ J A Z σ' τ' := by
  obtain ⟨τ', m1, m2⟩ := (q_msay hF h).1 c
  have hl := h.2.1.1.1.1
  have hn := h.1.1
  have hsz : f_Jx4a65c_size_8abf5 Z σ 38 = some (i32 (nS_ A : Int)) := congrArg some hl
  obtain ⟨σ1, a1, a2, -⟩ := p_readS (Z := Z) (F := F) (by omega) h.2.2.1.1
  have s1 : JS A Z σ1 := JS_w h.2.2.1 h.1 h.2.2.2.2 a2 WT_C (by decide) (by decide) (by decide)
  unfold f_X11_saying
  rw [hsz, obs]
  by_cases d : nS_ A = 20
  · rw [if_pos (show (20 : Int32) ≤ i32 (nS_ A : Int) from (leI (a := 20) (by omega)).mpr (by omega))]
    exact ⟨_, _, rfl, m1, h.1, h.2.1, h.2.2.1, m2, h.2.2.2.2⟩
  · have c := c.resolve_left d
    rw [if_neg (show ¬ (20 : Int32) ≤ i32 (nS_ A : Int) from mt (leI (a := 20) (b := (nS_ A : Int)) (by omega)).mp (by omega)), a1, obs]
    dsimp only
    obtain ⟨f, hf⟩ : ∃ f, sayF (aT A).1 (aT A).2 = some f := by
      cases e : sayF (aT A).1 (aT A).2 with
      | none => exact absurd e c
      | some f => exact ⟨f, rfl⟩
    have hf9 : f ≤ 4000 := by have := sayF_le hf; have := h.2.2.1.1.1; omega
    rw [hf, if_neg (oF_ne hf9)]
    exact ⟨_, _, rfl, m1, h.1, h.2.1, s1, m2, h.2.2.2.2⟩
theorem r_law {A : HA} {Z : hZ} {σ τ : hSt} {F : Nat} (hF : 50000 ≤ F) (h : J A Z σ τ) (c : nL_ A = 12 ∨ ¬ txF (aT A).1 (aT A).2 0 = none) : ∃ σ' τ', f_X11_law F Z σ = some (-1, σ') ∧ f_X12_law F Z τ = some (-1, τ') ∧ J A Z σ' τ' := by
  obtain ⟨τ', m1, m2⟩ := (q_mlaw hF h).1 c
  have hl := h.2.1.2.1.1.1
  have hn := h.1.2.2.1
  have hsz : f_Jx4a65c_size_8abf5 Z σ 39 = some (i32 (nL_ A : Int)) := congrArg some hl
  obtain ⟨σ1, a1, a2, -⟩ := p_readT (Z := Z) (F := F) (g := 0) (by omega) (by omega) h.2.2.1.1
  have a1 : f_X10_read F Z σ 5 = some (i32 (oF (txF (aT A).1 (aT A).2 0)), σ1) := a1
  have s1 : JS A Z σ1 := JS_w h.2.2.1 h.1 h.2.2.2.2 a2 WT_C (by decide) (by decide) (by decide)
  unfold f_X11_law f_X11_keepText
  rw [hsz, obs]
  by_cases d : nL_ A = 12
  · rw [if_pos (show (12 : Int32) ≤ i32 (nL_ A : Int) from (leI (a := 12) (by omega)).mpr (by omega)), obs]
    exact ⟨_, _, rfl, m1, h.1, h.2.1, h.2.2.1, m2, h.2.2.2.2⟩
  · have c := c.resolve_left d
    rw [if_neg (show ¬ (12 : Int32) ≤ i32 (nL_ A : Int) from mt (leI (a := 12) (b := (nL_ A : Int)) (by omega)).mp (by omega)), a1, obs]
    dsimp only
    obtain ⟨f, hf⟩ : ∃ f, txF (aT A).1 (aT A).2 0 = some f := by
      cases e : txF (aT A).1 (aT A).2 0 with
      | none => exact absurd e c
      | some f => exact ⟨f, rfl⟩
    have hf9 : f ≤ 4000 := by have := txF_le (g := 0) (by omega) hf; have := h.2.2.1.1.1; omega
    rw [hf, if_neg (oF_ne hf9), obs]
    exact ⟨_, _, rfl, m1, h.1, h.2.1, s1, m2, h.2.2.2.2⟩
theorem r_giant {A : HA} {Z : hZ} {σ τ : hSt} {F : Nat} (hF : 50000 ≤ F) (h : J A Z σ τ) (c : nG_ A = 12 ∨ ¬ txF (aT A).1 (aT A).2 1 = none) : ∃ σ' τ', f_X11_giant F Z σ = some (-1, σ') ∧ f_X12_giant F Z τ = some (-1, τ') ∧ J A Z σ' τ' := by
  obtain ⟨τ', m1, m2⟩ := (q_mgiant hF h).1 c
  have hl := h.2.1.2.2.1.1.1
  have hn := h.1.2.2.2.2.1
  have hsz : f_Jx4a65c_size_8abf5 Z σ 40 = some (i32 (nG_ A : Int)) := congrArg some hl
  obtain ⟨σ1, a1, a2, -⟩ := p_readT (Z := Z) (F := F) (g := 1) (by omega) (by omega) h.2.2.1.1
  have a1 : f_X10_read F Z σ 6 = some (i32 (oF (txF (aT A).1 (aT A).2 1)), σ1) := a1
  have s1 : JS A Z σ1 := JS_w h.2.2.1 h.1 h.2.2.2.2 a2 WT_C (by decide) (by decide) (by decide)
  unfold f_X11_giant f_X11_keepText
  rw [hsz, obs]
  by_cases d : nG_ A = 12
  · rw [if_pos (show (12 : Int32) ≤ i32 (nG_ A : Int) from (leI (a := 12) (by omega)).mpr (by omega)), obs]
    exact ⟨_, _, rfl, m1, h.1, h.2.1, h.2.2.1, m2, h.2.2.2.2⟩
  · have c := c.resolve_left d
    rw [if_neg (show ¬ (12 : Int32) ≤ i32 (nG_ A : Int) from mt (leI (a := 12) (b := (nG_ A : Int)) (by omega)).mp (by omega)), a1, obs]
    dsimp only
    obtain ⟨f, hf⟩ : ∃ f, txF (aT A).1 (aT A).2 1 = some f := by
      cases e : txF (aT A).1 (aT A).2 1 with
      | none => exact absurd e c
      | some f => exact ⟨f, rfl⟩
    have hf9 : f ≤ 4000 := by have := txF_le (g := 1) (by omega) hf; have := h.2.2.1.1.1; omega
    rw [hf, if_neg (oF_ne hf9), obs]
    exact ⟨_, _, rfl, m1, h.1, h.2.1, s1, m2, h.2.2.2.2⟩
