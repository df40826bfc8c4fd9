/-! calls: small, spent, odds -/
theorem p_msm49 {τ : hSt} {s nm : Nat} {y2 y3 : Int32} {sp : Nat → Int} {K : Int32 → Option (Int32 × hSt)} (hs : s ≤ 20) (hn : nm ≤ 6) (h4 : τ.1 204 s = i32 (nm : Int)) (h5 : ∀ j, j < 6 → τ.1 205 (6 * s + j) = i32 (sp j) ∧ 0 ≤ sp j ∧ sp j ≤ 200) : ∀ (k o M : Nat) (z : Int), o + k = nm → k < M → 3 ≤ z ∧ z ≤ 1000 → ∃ z', f_X12_small_L49 τ (i32 (s : Int)) y2 y3 K M (i32 z) (i32 (o : Int)) = K (i32 z') ∧ 3 ≤ z' ∧ z' ≤ 1000 ∧ z ≤ z' ∧ (∀ j, o ≤ j → j < nm → sp j + 1 ≤ z') ∧ (z' = z ∨ ∃ j, o ≤ j ∧ j < nm ∧ z' = sp j + 1) := by
  intro k
  induction k with
  | zero =>
    intro o M z ho hM hz
    obtain ⟨M, rfl⟩ : ∃ q, M = q + 1 := ⟨M - 1, by omega⟩
    obtain rfl : o = nm := by omega
    refine ⟨z, ?_, hz.1, hz.2, Int.le_refl _, fun j h1 h2 => by omega, Or.inl rfl⟩
    rw [f_X12_small_L49, i32_cn (by omega), if_neg (ix_ok (show s < 21 by omega) (by omega)), h4, if_pos (Int32.le_refl _)]
  | succ k ih =>
    intro o M z ho hM hz
    obtain ⟨M, rfl⟩ : ∃ q, M = q + 1 := ⟨M - 1, by omega⟩
    have hq2 : (6 : Int32) * i32 (s : Int) + i32 (o : Int) = i32 ((6 * s + o : Nat) : Int) := by rw [show (6 : Int32) = i32 6 from rfl, i32_mul, i32_add]; rfl
    have h5o := h5 o (by omega)
    have hm : (if i32 z < i32 (sp o) + 1 then i32 (sp o) + 1 else i32 z) = i32 (if z < sp o + 1 then sp o + 1 else z) := by
      rw [show i32 (sp o) + (1 : Int32) = i32 (sp o + 1) by rw [show (1 : Int32) = i32 1 from rfl, i32_add]]
      by_cases c : z < sp o + 1
      · rw [if_pos ((ltI (by omega)).mpr c), if_pos c]
      · rw [if_neg (mt (ltI (by omega)).mp c), if_neg c]
    obtain ⟨z', e1, e2, e3, e4, e5, e6⟩ := ih (o + 1) M (if z < sp o + 1 then sp o + 1 else z) (by omega) (by omega) (by split <;> omega)
    refine ⟨z', ?_, e2, e3, ?_, fun j h1 h2 => ?_, ?_⟩
    · rw [f_X12_small_L49, i32_cn (by omega), if_neg (ix_ok (show s < 21 by omega) (by omega)), h4, if_neg (mt (leI (by omega)).mp (by omega)), hq2, i32_cn (by omega), if_neg (ix_ok (show 6 * s + o < 126 by omega) (by omega)), h5o.1, hm, ip1]
      exact e1
    · revert e4; split <;> omega
    · by_cases e : j = o
      · subst e
        revert e4; split <;> omega
      · exact e5 j (by omega) h2
    · rcases e6 with e6 | ⟨j, j1, j2, j3⟩
      · by_cases c : z < sp o + 1
        · rw [if_pos c] at e6
          exact Or.inr ⟨o, Nat.le_refl _, by omega, e6⟩
        · rw [if_neg c] at e6
          exact Or.inl e6
      · exact Or.inr ⟨j, by omega, j2, j3⟩
theorem mxI_all {sp : Nat → Int} : ∀ (k i : Nat) (z : Int), z ≤ mxI sp k i z ∧ (∀ j, i ≤ j → j < i + k → sp j ≤ mxI sp k i z) ∧ (mxI sp k i z = z ∨ ∃ j, i ≤ j ∧ j < i + k ∧ mxI sp k i z = sp j) := by
  intro k
  induction k with
  | zero => intro i z; exact ⟨Int.le_refl _, fun j h1 h2 => by omega, Or.inl rfl⟩
  | succ k ih =>
    intro i z
    rw [mxI]
    obtain ⟨a, b, c⟩ := ih (i + 1) (if z < sp i then sp i else z)
    refine ⟨by revert a; split <;> omega, fun j h1 h2 => ?_, ?_⟩
    · by_cases e : j = i
      · subst e
        revert a; split <;> omega
      · exact b j (by omega) (by omega)
    · rcases c with c | ⟨j, j1, j2, j3⟩
      · by_cases d : z < sp i
        · rw [if_pos d] at c ⊢
          exact Or.inr ⟨i, Nat.le_refl _, by omega, c⟩
        · rw [if_neg d] at c ⊢
          exact Or.inl c
      · exact Or.inr ⟨j, by omega, by omega, j3⟩
theorem cn_0 {C : List Int} {k : Nat} (hk : k < 6) : ∀ m, m ≤ C.length → nmL (C.take m) ≤ k → cnL k (C.take m) = 0 := by
  intro m
  induction m with
  | zero => intro _ _; simp [cnL]
  | succ m ih =>
    intro hm h
    have e : C.take (m + 1) = C.take m ++ [cf C m] := by
      rw [List.take_succ_eq_append_getElem (by omega)]
      congr 2
      unfold cf
      rw [List.getD_eq_getElem?_getD, List.getElem?_eq_getElem (by omega)]
      rfl
    rw [e, nmL_s] at h
    rw [e, cnL_s]
    by_cases c : cf C m ≤ 5
    · rw [if_pos c] at h
      rw [if_neg (show ¬ cf C m = (k : Int) by omega)]
      exact ih (by omega) (by omega)
    · rw [if_neg c] at h
      rw [if_neg (show ¬ cf C m = (k : Int) by omega)]
      exact ih (by omega) h
theorem cn_z {C : List Int} {k : Nat} (hk : k < 6) (h : nmL C ≤ k) : cnL k C = 0 := by
  have := cn_0 (C := C) hk C.length (Nat.le_refl _) (by rw [List.take_length]; exact h)
  rwa [List.take_length] at this
theorem q_small {A : HA} {Z : hZ} {σ τ : hSt} {F : Nat} (hF : 50000 ≤ F) (h : J A Z σ τ) (x1 x2 x3 : Int32) : ∃ v σ' τ', f_X11_small F Z σ x1 x2 x3 = some (v, σ') ∧ f_X12_small F Z τ x1 x2 x3 = some (v, τ') ∧ J A Z σ' τ' := by
  obtain ⟨z1, hz1, rfl⟩ := ofx x1
  obtain ⟨z2, hz2, rfl⟩ := ofx x2
  obtain ⟨z3, hz3, rfl⟩ := ofx x3
  obtain ⟨⟨l1, l2⟩, ⟨g1, g2⟩, -⟩ := h.2.1
  have hn := h.1.1
  have hnL := h.1.2.2.1
  have t0 := J_0 h 0
  have m2' := t0.2.2.2.1.2.1
  have m3 := h.2.2.2.1.2.2.1
  unfold f_X11_small f_X12_small
  rw [p_misS m2'.1 (by omega) hz1, obs, m3.1, i32_l hz2, i32_l hz3, show i32 (nL_ A : Int) - (1 : Int32) = i32 ((nL_ A : Int) - 1) by rw [show (1 : Int32) = i32 1 from rfl, i32_sub], i32_l (by omega), show f_X12_isIn (i64 z2) 0 (i64 ((nL_ A : Int) - 1)) = _ from p_isIn (a := 0) (by omega) (by omega) (by omega), obs, show f_X12_isIn (i64 z3) 1 1000000 = _ from p_isIn (a := 1) (b := 1000000) (by omega) (by omega) (by omega), obs]
  rcases ixc z1 (nS_ A) with ⟨s, hs, rfl⟩ | c
  · have hC := h.1.2.1 s hs
    have hz := l2 s hs
    have hm' := m2'.2 s hs
    have hnm := nmB_of hC.2
    have hn6 := hnm.1
    rw [p_sayAt l1 (by omega) hs hz.1, obs, oc_1, if_pos hz.1, decide_eq_true (show 0 ≤ (s : Int) ∧ (s : Int) < (nS_ A : Int) by omega), b01t, if_neg n10]
    rcases ixc z2 (nL_ A) with ⟨k, hk, rfl⟩ | d
    · have hX := h.1.2.2.2.1 k hk
      have hw := g2 k hk
      have hm3 := t0.2.2.2.1.2.2.1.2 k hk
      rw [p_textAt g1 (by omega) hk hw.1, obs, oc_1, if_pos hw.1, decide_eq_true (by omega), b01t, if_neg n10]
      by_cases e : 1 ≤ z3 ∧ z3 ≤ 1000000
      · rw [decide_eq_true e, b01t, if_neg n10, if_neg (show ¬ i32 z3 < (1 : Int32) from mt (ltI (b := 1) (by omega)).mp (by omega)), if_pos (show i32 z3 ≤ (1000000 : Int32) from (leI (b := 1000000) (by omega)).mpr (by omega))]
        have hsp : ∀ j, j < 6 → (0 : Int) ≤ (cnL j (fS A s) : Int) ∧ (cnL j (fS A s) : Int) ≤ 200 := fun j hj => by
          have := cn_100 hj hC.2
          omega
        obtain ⟨ms1, ms2, ms3⟩ := p_mostSteep (F := F) (Z := Z) (σ := σ) (s := 1000 + s) (sp := fun j => (cnL j (fS A s) : Int)) (by omega) hz.2.2.2.2.2.1 (fun j hj => ⟨hz.2.2.2.2.2.2 j hj, hsp j hj⟩)
        have mx := mxI_all (sp := fun j => (cnL j (fS A s) : Int)) 6 0 0
        have h205 : ∀ j, j < 6 → (sI τ 200 0 0).1 205 (6 * s + j) = i32 ((fun j => (cnL j (fS A s) : Int)) j) ∧ 0 ≤ (fun j => (cnL j (fS A s) : Int)) j ∧ (fun j => (cnL j (fS A s) : Int)) j ≤ 200 := fun j hj => ⟨hm'.2.2.2.2.2.1 j hj, hsp j hj⟩
        obtain ⟨z', b1, b2, b3, b4, b5, b6⟩ := p_msm49 (τ := sI τ 200 0 0) (s := s) (y2 := i32 (k : Int)) (y3 := i32 z3) (K := (fun z4 => f_X12_small_L91 F Z (i32 (s : Int)) (i32 (k : Int)) (i32 z3) F (sI τ 200 0 0) z4)) (by omega) hn6 hm'.2.2.2.2.1 h205 (nmL (fS A s)) 0 F 3 (by omega) (by omega) (by omega)
        have hz' : z' = (if 2 < mxI (fun j => (cnL j (fS A s) : Int)) 6 0 0 then mxI (fun j => (cnL j (fS A s) : Int)) 6 0 0 else 2) + 1 := by
          have hle : ∀ j, j < 6 → (cnL j (fS A s) : Int) + 1 ≤ z' ∨ (cnL j (fS A s) : Int) = 0 := fun j hj => by
            by_cases q : j < nmL (fS A s)
            · exact Or.inl (b5 j (Nat.zero_le _) q)
            · exact Or.inr (by rw [cn_z hj (by omega)]; rfl)
          have h1 : mxI (fun j => (cnL j (fS A s) : Int)) 6 0 0 + 1 ≤ z' ∨ mxI (fun j => (cnL j (fS A s) : Int)) 6 0 0 = 0 := by
            rcases mx.2.2 with q | ⟨j, j1, j2, j3⟩
            · exact Or.inr q
            · rw [j3]; exact hle j (by omega)
          have h2 : z' = 3 ∨ z' ≤ mxI (fun j => (cnL j (fS A s) : Int)) 6 0 0 + 1 := by
            rcases b6 with q | ⟨j, j1, j2, j3⟩
            · exact Or.inl q
            · have := mx.2.1 j (Nat.zero_le _) (by omega)
              exact Or.inr (by omega)
          split <;> omega
        obtain ⟨p, hp⟩ : ∃ p : Nat, z' = (p : Int) := ⟨z'.toNat, by omega⟩
        have hstart : (if (2 : Int32) < i32 (mxI (fun j => (cnL j (fS A s) : Int)) 6 0 0) then i32 (mxI (fun j => (cnL j (fS A s) : Int)) 6 0 0) else 2) + 1 = i32 (p : Int) := by
          rw [← hp, hz']
          by_cases q : 2 < mxI (fun j => (cnL j (fS A s) : Int)) 6 0 0
          · rw [if_pos (show (2 : Int32) < _ from (ltI (a := 2) (by omega)).mpr q), if_pos q, show (1 : Int32) = i32 1 from rfl, i32_add]
          · rw [if_neg (show ¬ (2 : Int32) < _ from mt (ltI (a := 2) (by omega)).mp q), if_neg q]
            rfl
        have sB : sitB Z σ (1000 + s) (4000 + k) (nmL (fS A s) : Int) (fun j => (cnL j (fS A s) : Int)) (tZc (fL A k).1 (fL A k).2 0) := by
          have tf := tZ_flat (g := 0) (by omega) hX.1 hX.2.1 hX.2.2
          exact ⟨hz.1, hw.1, hz.2.2.1, ⟨by omega, by omega⟩, hz.2.2.2.2.2.1, fun j hj => ⟨hz.2.2.2.2.2.2 j hj, hsp j hj⟩, hw.2, by have := tf.2.2.1; omega, tf.2.1, h.2.2.1.2.2.1⟩
        have sM : sitM (fL A k).1 (fL A k).2 k s (nmL (fS A s) : Int) 0 (fun j => (cnL j (fS A s) : Int)) (sI τ 200 0 0) := ⟨hm3, hX.2.2, by omega, ⟨by omega, by omega⟩, ⟨by omega, by omega⟩, hm'.2.2.2.2.1, h205⟩
        obtain ⟨σ1, c1, c2, c3⟩ := p_smallL (F := F) (y := z3) (by omega) hn6 e (1001 - p) p F σ (by omega) (by omega) (by omega) sB
        obtain ⟨υ, d1, d2, d3⟩ := p_msmallL (F := F) (Z := Z) (y := z3) (by omega) hn6 e (1001 - p) p F (sI τ 200 0 0) (by omega) (by omega) (by omega) sM
        rw [ms1, obs, hstart, c3]
        refine ⟨_, σ1, υ, rfl, Eq.trans b1 ?_, J_A t0 c1 d1 c2.2.2.2.2.2.2.2.2.2 (by decide) (by decide) (by decide) (by decide)⟩
        rw [hp]
        exact d3
      · rw [decide_eq_false e, b01f, if_pos rfl]
        by_cases q : z3 < 1
        · rw [if_pos (show i32 z3 < (1 : Int32) from (ltI (b := 1) (by omega)).mpr q)]
          exact ⟨_, _, _, rfl, rfl, t0⟩
        · rw [if_neg (show ¬ i32 z3 < (1 : Int32) from mt (ltI (b := 1) (by omega)).mp q), if_neg (show ¬ i32 z3 ≤ (1000000 : Int32) from mt (leI (b := 1000000) (by omega)).mp (by omega))]
          exact ⟨_, _, _, rfl, rfl, t0⟩
    · rw [p_textNo g1 (by omega) hz2 d, obs, decide_eq_false (by omega), b01f, if_pos rfl]
      exact ⟨_, _, _, rfl, rfl, t0⟩
  · rw [p_sayNo l1 (by omega) hz1 c, obs, decide_eq_false c, b01f, if_pos rfl]
    refine ⟨-1, σ, _, ?_, rfl, t0⟩
    rcases ixc z2 (nL_ A) with ⟨k, hk, rfl⟩ | d
    · have hw := g2 k hk
      have e : f_X11_textAt Z σ 39 (i32 (k : Int)) = some (some (4000 + k)) := p_textAt g1 (by omega) hk hw.1
      show (f_X11_textAt Z σ 39 (i32 (k : Int))).bind _ = _
      rw [e, obs, oc_1, if_pos hw.1]
    · show (f_X11_textAt Z σ 39 (i32 z2)).bind _ = _
      rw [p_textNo g1 (by omega) hz2 d, obs]
      rfl
