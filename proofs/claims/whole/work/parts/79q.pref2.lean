/-! refusals of talks and nets -/
theorem oc_n {β : Type} {n : β} {k : Nat → β} : oc none n k = n := rfl
theorem c_talkN {A : HA} {Z : hZ} {σ τ : hSt} {F : Nat} (hF : 50000 ≤ F) (h : J A Z σ τ) {z1 z2 z3 z4 : Int} (hz1 : -2147483648 ≤ z1 ∧ z1 ≤ 2147483647) (hz2 : -2147483648 ≤ z2 ∧ z2 ≤ 2147483647) (hz3 : -2147483648 ≤ z3 ∧ z3 ≤ 2147483647) (hz4 : -2147483648 ≤ z4 ∧ z4 ≤ 2147483647) (c : nK_ A = 12 ∨ ¬ okK A z1 z2 z3 z4) : f_X11_talk F Z σ (i32 z1) (i32 z2) (i32 z3) (i32 z4) = some (-1, σ) := by
  have c11 := h.1.1
  have c12 := h.1.2.2.1
  have c13 := h.1.2.2.2.2.1
  have c14 := h.1.2.2.2.2.2.2.1
  obtain ⟨⟨y1, y2⟩, ⟨y3, y4⟩, ⟨y5, y6⟩, ⟨y7, -⟩, -⟩ := h.2.1
  have hsz : f_Jx4a65c_size_8abf5 Z σ 41 = some (i32 (nK_ A : Int)) := congrArg some y7.1
  unfold f_X11_talk
  rcases ixc z1 (nS_ A) with ⟨s, hs, rfl⟩ | d1
  · have z1' := y2 s hs
    have hC := h.1.2.1 s hs
    rw [p_sayAt y1 (by omega) hs z1'.1, obs, oc_1, if_pos z1'.1]
    rcases ixc z3 (nL_ A) with ⟨k, hk, rfl⟩ | d3
    · have z3' := y4 k hk
      rw [p_textAt y3 (by omega) hk z3'.1, obs, oc_1, if_pos z3'.1]
      rcases ixc z4 (nG_ A) with ⟨gg, hg, rfl⟩ | d4
      · have z4' := y6 gg hg
        rw [p_textAt y5 (by omega) hg z4'.1, obs, oc_1, if_pos z4'.1, hsz, obs]
        by_cases d : nK_ A = 12
        · rw [if_neg (show ¬ i32 (nK_ A : Int) < (12 : Int32) from fun q => by have := (ltI (b := 12) (by omega)).mp q; omega)]
        · have c := c.resolve_left d
          rw [if_pos (show i32 (nK_ A : Int) < (12 : Int32) from (ltI (b := 12) (by omega)).mpr (by omega)), p_isMod (by omega) hz2, obs]
          rcases prM_c z2 with e | ⟨e, hp, hpr⟩
          · rw [e, if_pos rfl]
          · obtain ⟨hms, m0, m1⟩ := p_mostSteep (F := F) (σ := σ) (s := 1000 + s) (sp := fun j => (cnL j (fS A s) : Int)) (by omega) z1'.2.2.2.2.2.1 (fun j hj => ⟨z1'.2.2.2.2.2.2 j hj, by omega, by have := cn_100 hj hC.2; omega⟩)
            rw [e, if_neg n10, hms, obs]
            by_cases dm : i32 (mxI (fun j => (cnL j (fS A s) : Int)) 6 0 0) < i32 z2
            · have dm := (ltI (by omega)).mp dm
              refine absurd ⟨by omega, ⟨by omega, by omega, hpr⟩, by omega, by omega, fun j hj => ?_⟩ c
              have hj6 : j < 6 := by
                have hj : j < nmL (fS A s) := hj
                have := nmL_le (fS A s); omega
              have := (mxI_all (sp := fun j => (cnL j (fS A s) : Int)) 6 0 0).2.1 j (by omega) (by omega)
              show (cnL j (fS A ((s : Int).toNat)) : Int) < z2
              rw [show ((s : Int).toNat) = s from rfl]
              omega
            · rw [if_neg dm]
      · rw [p_textNo y5 (by omega) hz4 d4, obs, oc_n]
    · rw [p_textNo y3 (by omega) hz3 d3, obs, oc_n]
      rcases ixc z4 (nG_ A) with ⟨gg, hg, rfl⟩ | d4
      · have z4' := y6 gg hg
        rw [p_textAt y5 (by omega) hg z4'.1, obs, oc_1, if_pos z4'.1]
      · rw [p_textNo y5 (by omega) hz4 d4, obs, oc_n]
  · rw [p_sayNo y1 (by omega) hz1 d1, obs, oc_n]
    rcases ixc z3 (nL_ A) with ⟨k, hk, rfl⟩ | d3
    · have z3' := y4 k hk
      rw [p_textAt y3 (by omega) hk z3'.1, obs, oc_1, if_pos z3'.1]
      rcases ixc z4 (nG_ A) with ⟨gg, hg, rfl⟩ | d4
      · have z4' := y6 gg hg
        rw [p_textAt y5 (by omega) hg z4'.1, obs, oc_1, if_pos z4'.1]
      · rw [p_textNo y5 (by omega) hz4 d4, obs, oc_n]
    · rw [p_textNo y3 (by omega) hz3 d3, obs, oc_n]
      rcases ixc z4 (nG_ A) with ⟨gg, hg, rfl⟩ | d4
      · have z4' := y6 gg hg
        rw [p_textAt y5 (by omega) hg z4'.1, obs, oc_1, if_pos z4'.1]
      · rw [p_textNo y5 (by omega) hz4 d4, obs, oc_n]
theorem c_netN {A : HA} {Z : hZ} {σ τ : hSt} (h : J A Z σ τ) {z1 z2 : Int} (hz1 : -2147483648 ≤ z1 ∧ z1 ≤ 2147483647) (hz2 : -2147483648 ≤ z2 ∧ z2 ≤ 2147483647) (c : nN_ A = 12 ∨ ¬ okN z1 z2) : f_X11_net Z σ (i32 z1) (i32 z2) = some (-1, σ) := by
  have c15 := h.1.2.2.2.2.2.2.2.2.1
  obtain ⟨-, -, -, -, ⟨y9, -⟩⟩ := h.2.1
  have hsz : f_Jx4a65c_size_8abf5 Z σ 42 = some (i32 (nN_ A : Int)) := congrArg some y9.1
  unfold f_X11_net
  rw [hsz, obs]
  by_cases d : nN_ A = 12
  · rw [if_pos (show (12 : Int32) ≤ i32 (nN_ A : Int) from (leI (a := 12) (by omega)).mpr (by omega))]
  · have c := c.resolve_left d
    rw [if_neg (show ¬ (12 : Int32) ≤ i32 (nN_ A : Int) from fun q => by have := (leI (a := 12) (by omega)).mp q; omega)]
    by_cases e1 : z1 < 2
    · rw [if_pos (show i32 z1 < (2 : Int32) from (ltI (b := 2) (by omega)).mpr e1)]
    · rw [if_neg (show ¬ i32 z1 < (2 : Int32) from fun q => e1 ((ltI (b := 2) (by omega)).mp q))]
      by_cases e2 : z1 ≤ 6
      · rw [if_pos (show i32 z1 ≤ (6 : Int32) from (leI (b := 6) (by omega)).mpr e2)]
        by_cases e3 : z2 < 0
        · rw [if_pos (show i32 z2 < (0 : Int32) from (ltI (b := 0) (by omega)).mpr e3)]
        · rw [if_neg (show ¬ i32 z2 < (0 : Int32) from fun q => e3 ((ltI (b := 0) (by omega)).mp q))]
          obtain ⟨n, rfl⟩ : ∃ n : Nat, z1 = (n : Int) := ⟨z1.toNat, by omega⟩
          obtain ⟨npw, npb⟩ := nt_pw n (by omega) (by omega)
          rw [npw]
          by_cases e4 : z2 < ((2 ^ ((n : Int) * ((n : Int) - 1) / 2).toNat : Nat) : Int)
          · exact absurd ⟨⟨by omega, e2⟩, by omega, e4⟩ c
          · rw [if_neg (fun q => e4 ((ltI ⟨by omega, by omega, Int.le_trans (by decide) (Int.natCast_nonneg _), Int.le_trans (Int.ofNat_le.mpr npb) (by decide)⟩).mp q))]
      · rw [if_neg (show ¬ i32 z1 ≤ (6 : Int32) from fun q => e2 ((leI (b := 6) (by omega)).mp q))]
