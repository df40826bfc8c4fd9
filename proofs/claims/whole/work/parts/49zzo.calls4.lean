/-! calls: games -/
theorem p_turns {z : Int} (hz : -2147483648 ≤ z ∧ z ≤ 2147483647) : f_X11_areTurns (i32 z) = some (b01 (decide (0 ≤ z ∧ z ≤ 63))) := by
  unfold f_X11_areTurns
  rw [show (0 : Int32) = i32 0 from rfl, show (64 : Int32) = i32 64 from rfl]
  by_cases c : z < 0
  · rw [if_pos ((ltI (by omega)).mpr c), decide_eq_false (by omega)]; rfl
  · rw [if_neg (mt (ltI (by omega)).mp c)]
    by_cases d : 64 ≤ z
    · rw [if_pos ((leI (by omega)).mpr d), decide_eq_false (by omega)]; rfl
    · rw [if_neg (mt (leI (by omega)).mp d), decide_eq_true (by omega)]; rfl
theorem q_won {A : HA} {Z : hZ} {σ τ : hSt} {F : Nat} (hF : 50000 ≤ F) (h : J A Z σ τ) (x1 x2 : Int32) : ∃ v σ' τ', f_X11_won F Z σ x1 x2 = some (v, σ') ∧ f_X12_won F Z τ x1 x2 = some (v, τ') ∧ J A Z σ' τ' := by
  obtain ⟨z1, hz1, rfl⟩ := ofx x1
  obtain ⟨z2, hz2, rfl⟩ := ofx x2
  obtain ⟨⟨l1, l2⟩, -⟩ := h.2.1
  have hn := h.1.1
  have t0 := J_0 h 0
  have m2' := t0.2.2.2.1.2.1
  unfold f_X11_won f_X12_won
  rw [p_misS m2'.1 (by omega) hz1, obs, i32_l hz2, show (0 : Int64) = i64 0 from rfl, show (63 : Int64) = i64 63 from rfl, p_isIn (by omega) (by omega) (by omega), obs]
  rcases ixc z1 (nS_ A) with ⟨s, hs, rfl⟩ | c
  · have hC := h.1.2.1 s hs
    have hz := l2 s hs
    have hm' := m2'.2 s hs
    have hnm := nmB_of hC.2
    have hn6 := hnm.1
    rw [p_sayAt l1 (by omega) hs hz.1, obs, oc_1, if_pos hz.1, p_turns hz2, obs, decide_eq_true (show 0 ≤ (s : Int) ∧ (s : Int) < (nS_ A : Int) by omega), b01t, if_neg n10]
    by_cases e1 : 0 ≤ z2 ∧ z2 ≤ 63
    · obtain ⟨b, hb, rfl⟩ : ∃ b : Nat, b < 64 ∧ z2 = (b : Int) := ⟨z2.toNat, by omega, by omega⟩
      obtain ⟨υ, u1, u2⟩ := p_mwon (Z := Z) (F := F) (s := s) (tn := b) (by omega) hC.2 hnm hb (nmL (fS A s)) 0 0 8 (sI τ 200 0 0) (by omega) (by omega) (by decide) (mSg_of hm') hm'.2.2.2.2.1
      obtain ⟨σ2, b1, b2, -⟩ := pg_gw (Z := Z) (F := F) (tn := b) (p := 1000000007) (by omega) hz.2.1 hz.2.2.1 hC.2 hnm (by decide) hb (nmL (fS A s)) 0 8 σ (fun _ => 0) (by omega) (by omega) (fun q hq => absurd hq (Nat.not_lt_zero q)) (fun i _ => ⟨Int.le_refl _, by show (0 : Int) < 1000000007; decide⟩)
      have hw := gF_won (tn := b) (pt := fun _ => 0) hC.2 hnm (nmL (fS A s)) 0 0 (by omega) (by decide) (fun x hx => absurd hx (Nat.not_lt_zero x))
      have u1' : f_X12_isWon F Z (sI τ 200 0 0) (i32 (s : Int)) (i32 (b : Int)) 0 0 = some (if wonF (cf (fS A s)) (fS A s).length b (nmL (fS A s)) 0 0 then 1 else 0, υ) := u1
      have b1' : f_X3_gameWorth F Z σ (1000 + s) (i32 (b : Int)) 1000000007 0 = some (i64 (gF 1000000007 (cf (fS A s)) (fS A s).length b (nmL (fS A s)) 0 (fun _ => 0)), σ2) := b1
      rw [decide_eq_true e1, b01t, if_neg n10, if_neg n10, u1', obs, b1', obs, hw]
      refine ⟨_, σ2, υ, rfl, ?_, J_W t0 b2 u2 (by decide) (by decide) (by decide) (by decide) (by decide)⟩
      cases wonF (cf (fS A s)) (fS A s).length b (nmL (fS A s)) 0 0 <;> rfl
    · rw [decide_eq_false e1, b01f, if_pos rfl, if_pos rfl]
      exact ⟨_, _, _, rfl, rfl, t0⟩
  · rw [p_sayNo l1 (by omega) hz1 c, obs, decide_eq_false c, b01f, if_pos rfl]
    exact ⟨_, _, _, rfl, rfl, t0⟩
theorem q_game {A : HA} {Z : hZ} {σ τ : hSt} {F : Nat} (hF : 50000 ≤ F) (h : J A Z σ τ) (x1 x2 x3 : Int32) : ∃ v σ' τ', f_X11_game F Z σ x1 x2 x3 = some (v, σ') ∧ f_X12_game F Z τ x1 x2 x3 = some (v, τ') ∧ J A Z σ' τ' := by
  obtain ⟨z1, hz1, rfl⟩ := ofx x1
  obtain ⟨z2, hz2, rfl⟩ := ofx x2
  obtain ⟨z3, hz3, rfl⟩ := ofx x3
  obtain ⟨⟨l1, l2⟩, -⟩ := h.2.1
  have hn := h.1.1
  have hnP := h.1.2.2.2.2.2.2.2.2.2.2.1
  have t0 := J_0 h 0
  have m2' := t0.2.2.2.1.2.1
  have m7' : jpM A (sI τ 200 0 0) := t0.2.2.2.1.2.2.2.2.2.2.1
  have s2 := h.2.2.1.2.1
  unfold f_X11_game f_X12_game
  rw [p_misS m2'.1 (by omega) hz1, obs, i32_l hz2, show (0 : Int64) = i64 0 from rfl, show (63 : Int64) = i64 63 from rfl, p_isIn (by omega) (by omega) (by omega), obs, p_isRing (by omega) hz3, obs]
  rcases ixc z1 (nS_ A) with ⟨s, hs, rfl⟩ | c
  · have hC := h.1.2.1 s hs
    have hz := l2 s hs
    have hm' := m2'.2 s hs
    have hnm := nmB_of hC.2
    have hn6 := hnm.1
    rw [p_sayAt l1 (by omega) hs hz.1, obs, oc_1, if_pos hz.1, p_turns hz2, obs, p_isMod (by omega) hz3, obs, decide_eq_true (show 0 ≤ (s : Int) ∧ (s : Int) < (nS_ A : Int) by omega), b01t, if_neg n10]
    by_cases e1 : 0 ≤ z2 ∧ z2 ≤ 63
    · obtain ⟨b, hb, rfl⟩ : ∃ b : Nat, b < 64 ∧ z2 = (b : Int) := ⟨z2.toNat, by omega, by omega⟩
      rw [decide_eq_true e1, b01t, if_neg n10, if_neg n10]
      rcases prM_c z3 with e | ⟨e, hp, -⟩ <;> rw [e]
      · rw [if_pos rfl, if_pos rfl]
        exact ⟨_, _, _, rfl, rfl, t0⟩
      · rw [if_neg n10, if_neg n10]
        obtain ⟨σ1, a1, a2, a3⟩ := p_putPoint (Z := Z) (F := F) (by omega) h.1 (p := z3) (by omega) s2
        obtain ⟨τ1, b1, b2, b3⟩ := p_layPoint (Z := Z) (F := F) (by omega) h.1 (p := z3) (by omega) m7'
        have s2' := JP_W s2 a2 (by decide) (by decide)
        have m7'' := jpM_W m7' b2 (by decide) (by decide)
        have hmn : (if i32 (nmL (fS A s) : Int) < i32 (nP_ A : Int) then i32 (nmL (fS A s) : Int) else i32 (nP_ A : Int)) = i32 ((min (nmL (fS A s)) (nP_ A) : Nat) : Int) := by
          by_cases d : nmL (fS A s) < nP_ A
          · rw [if_pos ((ltI (by omega)).mpr (by omega)), Nat.min_eq_left (by omega)]
          · rw [if_neg (mt (ltI (by omega)).mp (by omega)), Nat.min_eq_right (by omega)]
        obtain ⟨σ2, c1, c2, -⟩ := pg_gw (Z := Z) (F := F) (tn := b) (by omega) hz.2.1 hz.2.2.1 hC.2 hnm (p := z3) (by omega) hb (nmL (fS A s) - nP_ A) (min (nmL (fS A s)) (nP_ A)) 8 σ1 (fun j => fP A j % z3) (by omega) (by omega) (fun q hq => a3 q (by omega)) (inP_pt (A := A) (by omega))
        obtain ⟨τ2, d1, d2, -⟩ := pg_mfold (Z := Z) (F := F) (s := s) (tn := b) (by omega) hC.2 hnm (p := z3) (by omega) hb (nmL (fS A s) - nP_ A) (nP_ A) 8 τ1 (fun j => fP A j % z3) (by omega) (by omega) (mSg_fr b2 (by decide) (by decide) (mSg_of hm')) (by rw [fr_I b2 204 rfl (by decide)]; exact hm'.2.2.2.2.1) b3 (inP_pt (A := A) (by omega))
        have hgf : gF z3 (cf (fS A s)) (fS A s).length b (nmL (fS A s) - nP_ A) (min (nmL (fS A s)) (nP_ A)) (fun j => fP A j % z3) = gF z3 (cf (fS A s)) (fS A s).length b (nmL (fS A s) - nP_ A) (nP_ A) (fun j => fP A j % z3) := by
          by_cases d : nP_ A ≤ nmL (fS A s)
          · rw [Nat.min_eq_right d]
          · rw [show nmL (fS A s) - nP_ A = 0 by omega]; rfl
        rw [hgf] at c1
        have d1' : f_X12_folded F Z τ1 (i32 (s : Int)) (i32 (b : Int)) (i32 (nP_ A : Int)) (i64 z3) = some (i64 (gF z3 (cf (fS A s)) (fS A s).length b (nmL (fS A s) - nP_ A) (nP_ A) (fun j => fP A j % z3)), τ2) := d1
        have c1' : f_X3_gameWorth F Z σ1 (1000 + s) (i32 (b : Int)) (i64 z3) (i32 ((min (nmL (fS A s)) (nP_ A) : Nat) : Int)) = some (i64 (gF z3 (cf (fS A s)) (fS A s).length b (nmL (fS A s) - nP_ A) (nP_ A) (fun j => fP A j % z3)), σ2) := c1
        rw [a1, obs, b1, obs]
        dsimp only
        rw [i32_l hz3, s2'.1, m7''.1, hz.2.2.1, hmn, c1', obs, d1', obs]
        exact ⟨_, _, _, rfl, rfl, J_W t0 (fr_tr (fr_mono a2 (by decide)) c2 : fr [8, 9] σ σ2) (fr_tr (fr_mono b2 (by decide)) d2 : fr [207, 208] _ τ2) (by decide) (by decide) (by decide) (by decide) (by decide)⟩
    · rw [decide_eq_false e1, b01f, if_pos rfl, if_pos rfl]
      exact ⟨_, _, _, rfl, rfl, t0⟩
  · rw [p_sayNo l1 (by omega) hz1 c, obs, decide_eq_false c, b01f, if_pos rfl]
    exact ⟨_, _, _, rfl, rfl, t0⟩
def stF (y : Int32) (m : Nat) (z : Int) : Int := if y = 0 then z * 2 ^ m else if m = 0 then z else if z = 0 then 0 else 2
theorem p_msteepL {τ : hSt} {s nm : Nat} {y : Int32} (hs : s ≤ 20) (hn : nm ≤ 6) (h4 : τ.1 204 s = i32 (nm : Int)) : ∀ (k o M : Nat) (z : Int), o + k = nm → k < M → f_X12_steep_L71 τ (i32 (s : Int)) y M (i32 z) (i32 (o : Int)) = some (i32 (stF y k z), τ) ∨ ¬ (0 ≤ z ∧ z * 2 ^ k ≤ 100000) := by
  intro k
  induction k with
  | zero =>
    intro o M z ho hM
    obtain ⟨M, rfl⟩ : ∃ q, M = q + 1 := ⟨M - 1, by omega⟩
    obtain rfl : o = nm := by omega
    refine Or.inl ?_
    rw [f_X12_steep_L71, i32_cn (by omega), if_neg (ix_ok (show s < 21 by omega) (by omega)), h4, if_pos (Int32.le_refl _)]
    unfold stF
    rw [Int.pow_zero, Int.mul_one, if_pos rfl, ite_self]
  | succ k ih =>
    intro o M z ho hM
    obtain ⟨M, rfl⟩ : ∃ q, M = q + 1 := ⟨M - 1, by omega⟩
    by_cases hz : 0 ≤ z ∧ z * 2 ^ (k + 1) ≤ 100000
    · refine Or.inl ?_
      have e2 : z * 2 ^ (k + 1) = 2 * z * 2 ^ k := by rw [Int.pow_succ]; grind
      have hpos : (1 : Int) ≤ 2 ^ k := by
        have : 0 < (2 : Int) ^ k := Int.pow_pos (by decide)
        omega
      have hz1 : z ≤ 100000 := by
        have : z * 1 ≤ z * 2 ^ (k + 1) := Int.mul_le_mul_of_nonneg_left (by rw [Int.pow_succ]; omega) hz.1
        omega
      rw [f_X12_steep_L71, i32_cn (by omega), if_neg (ix_ok (show s < 21 by omega) (by omega)), h4, if_neg (mt (leI (by omega)).mp (by omega)), ip1]
      by_cases c : y = 0
      · rw [if_pos c]
        have := ih (o + 1) M (2 * z) (by omega) (by omega)
        rw [show (2 : Int32) * i32 z = i32 (2 * z) by rw [show (2 : Int32) = i32 2 from rfl, i32_mul]]
        rcases this with q | q
        · rw [q]
          unfold stF
          rw [if_pos c, if_pos c, e2]
        · exact absurd ⟨by omega, by rw [← e2]; exact hz.2⟩ q
      · rw [if_neg c]
        by_cases d : z = 0
        · rw [if_pos (show i32 z = 0 by rw [d]; rfl)]
          have := ih (o + 1) M 0 (by omega) (by omega)
          rcases this with q | q
          · have q' : f_X12_steep_L71 τ (i32 (s : Int)) y M 0 (i32 ((o + 1 : Nat) : Int)) = some (i32 (stF y k 0), τ) := q
            rw [q']
            unfold stF
            rw [if_neg c, if_neg c, if_neg (show ¬ k + 1 = 0 by omega), if_pos d, if_pos rfl, ite_self]
          · exact absurd ⟨by omega, by rw [Int.zero_mul]; omega⟩ q
        · rw [if_neg (show ¬ i32 z = 0 from mt (eqI (b := 0) (by omega)).mp d)]
          have h3 : (2 : Int) * 2 ^ k ≤ 100000 := by
            have : (1 : Int) * 2 ^ (k + 1) ≤ z * 2 ^ (k + 1) := Int.mul_le_mul_of_nonneg_right (by omega) (by rw [Int.pow_succ]; omega)
            rw [Int.pow_succ] at this
            rw [Int.pow_succ] at hz
            omega
          have := ih (o + 1) M 2 (by omega) (by omega)
          rcases this with q | q
          · have q' : f_X12_steep_L71 τ (i32 (s : Int)) y M 2 (i32 ((o + 1 : Nat) : Int)) = some (i32 (stF y k 2), τ) := q
            rw [q']
            unfold stF
            rw [if_neg c, if_neg c, if_neg (show ¬ k + 1 = 0 by omega), if_neg d, if_neg (show ¬ (2 : Int) = 0 by decide), ite_self]
          · exact absurd ⟨by omega, h3⟩ q
    · exact Or.inr hz
theorem q_steep {A : HA} {Z : hZ} {σ τ : hSt} {F : Nat} (hF : 50000 ≤ F) (h : J A Z σ τ) (x1 x2 x3 x4 : Int32) : ∃ v τ', f_X11_steep Z σ x1 x2 x3 x4 = some v ∧ f_X12_steep F Z τ x1 x2 x3 x4 = some (v, τ') ∧ J A Z σ τ' := by
  obtain ⟨z1, hz1, rfl⟩ := ofx x1
  obtain ⟨z2, hz2, rfl⟩ := ofx x2
  obtain ⟨z3, hz3, rfl⟩ := ofx x3
  obtain ⟨⟨l1, l2⟩, -⟩ := h.2.1
  have hn := h.1.1
  have t0 := J_0 h 0
  have m2' := t0.2.2.2.1.2.1
  unfold f_X11_steep f_X12_steep
  rw [p_misS m2'.1 (by omega) hz1, obs]
  rcases ixc z1 (nS_ A) with ⟨s, hs, rfl⟩ | c
  · have hC := h.1.2.1 s hs
    have hz := l2 s hs
    have hm := h.2.2.2.1.2.1.2 s hs
    have hm' := m2'.2 s hs
    have hnm := nmB_of hC.2
    have hn6 := hnm.1
    have hx := ix_ok (show s < 21 by omega) (show s ≤ 100000 by omega)
    rw [p_sayAt l1 (by omega) hs hz.1, obs, oc_1, if_pos hz.1, decide_eq_true (show 0 ≤ (s : Int) ∧ (s : Int) < (nS_ A : Int) by omega), b01t, if_neg n10, i32_cn (show s ≤ 2147483647 by omega), if_neg hx, hm.2.2.2.2.1, hz.2.2.1]
    rw [show i32 (nmL (fS A s) : Int) - (1 : Int32) = i32 ((nmL (fS A s) : Int) - 1) by rw [show (1 : Int32) = i32 1 from rfl, i32_sub], i32_l hz2, i32_l (by omega), i32_l hz3, i32_l (by omega), show (0 : Int64) = i64 0 from rfl, p_isIn (by omega) (by omega) (by omega), obs, p_isIn (by omega) (by omega) (by omega), obs, if_neg hx, show (0 : Int32) = i32 0 from rfl]
    rcases ixc z2 (nmL (fS A s)) with ⟨i, hi, rfl⟩ | c2
    · rw [if_neg (mt (ltI (by omega)).mp (show ¬ (i : Int) < 0 by omega)), if_neg (mt (leI (by omega)).mp (show ¬ (nmL (fS A s) : Int) ≤ (i : Int) by omega)), decide_eq_true (show 0 ≤ (i : Int) ∧ (i : Int) ≤ (nmL (fS A s) : Int) - 1 by omega), b01t, if_neg (show ¬ (1 : Int32) = i32 0 from n10)]
      by_cases c3 : 0 ≤ z3 ∧ z3 ≤ (nmL (fS A s) : Int)
      · obtain ⟨k, rfl⟩ : ∃ k : Nat, z3 = (k : Int) := ⟨z3.toNat, by omega⟩
        have hk : k ≤ nmL (fS A s) := by omega
        have q2 : (6 : Int32) * i32 (s : Int) + i32 (i : Int) = i32 ((6 * s + i : Nat) : Int) := by rw [show (6 : Int32) = i32 6 from rfl, i32_mul, i32_add]; rfl
        have qm : (if i32 ((i + 1 : Nat) : Int) < i32 (k : Int) then i32 (k : Int) else i32 ((i + 1 : Nat) : Int)) = i32 ((max (i + 1) k : Nat) : Int) := by
          by_cases d : i + 1 < k
          · rw [if_pos ((ltI (by omega)).mpr (by omega)), Nat.max_eq_right (by omega)]
          · rw [if_neg (mt (ltI (by omega)).mp (by omega)), Nat.max_eq_left (by omega)]
        have hcn := cn_100 (C := fS A s) (k := i) (by omega) hC.2
        have hl := p_msteepL (τ := sI τ 200 0 0) (s := s) (y := x4) (by omega) hn6 hm'.2.2.2.2.1 (nmL (fS A s) - max (i + 1) k) (max (i + 1) k) F (cnL i (fS A s) : Int) (by omega) (by omega)
        have hpw : (2 : Int) ^ (nmL (fS A s) - max (i + 1) k) ≤ 64 := by
          have h6 : nmL (fS A s) - max (i + 1) k ≤ 6 := by omega
          have : ∀ j, j ≤ 6 → (2 : Int) ^ j ≤ 64 := by decide
          exact this _ h6
        have hl' : f_X12_steep_L71 (sI τ 200 0 0) (i32 (s : Int)) x4 F (i32 (cnL i (fS A s) : Int)) (i32 ((max (i + 1) k : Nat) : Int)) = some (i32 (stF x4 (nmL (fS A s) - max (i + 1) k) (cnL i (fS A s) : Int)), sI τ 200 0 0) := by
          rcases hl with q | q
          · exact q
          · refine absurd ⟨by omega, ?_⟩ q
            have : (cnL i (fS A s) : Int) * 2 ^ (nmL (fS A s) - max (i + 1) k) ≤ 100 * 64 := Int.mul_le_mul (by omega) hpw (by
              have : 0 < (2 : Int) ^ (nmL (fS A s) - max (i + 1) k) := Int.pow_pos (by decide)
              omega) (by decide)
            omega
        rw [if_neg (mt (ltI (by omega)).mp (show ¬ (k : Int) < 0 by omega)), if_pos ((leI (by omega)).mpr (show (k : Int) ≤ (nmL (fS A s) : Int) by omega)), decide_eq_true c3, b01t, if_neg (show ¬ (1 : Int32) = i32 0 from n10), p_stC hz (by omega), obs, q2, i32_cn (show 6 * s + i ≤ 2147483647 by omega), if_neg (show ¬ (i32 ((6 * s + i : Nat) : Int) < i32 0 ∨ 126 ≤ 6 * s + i) from ix_ok (show 6 * s + i < 126 by omega) (by omega)), hm.2.2.2.2.2.1 i (by omega), ip1, qm, i32_sub]
        refine ⟨i32 (stF x4 (nmL (fS A s) - max (i + 1) k) (cnL i (fS A s) : Int)), _, ?_, hl', t0⟩
        by_cases c4 : nmL (fS A s) ≤ max (i + 1) k
        · rw [if_pos ((leI (by omega)).mpr (by omega)), show nmL (fS A s) - max (i + 1) k = 0 by omega]
          unfold stF
          rw [Int.pow_zero, Int.mul_one, if_pos rfl, ite_self]
        · rw [if_neg (mt (leI (by omega)).mp (by omega))]
          unfold stF
          by_cases c5 : cnL i (fS A s) = 0
          · rw [if_pos ((eqI (by omega)).mpr (by omega)), c5, if_neg (show ¬ nmL (fS A s) - max (i + 1) k = 0 by omega), if_pos (show ((0 : Nat) : Int) = 0 from rfl), show ((0 : Nat) : Int) = 0 from rfl, Int.zero_mul, ite_self]
          · rw [if_neg (mt (eqI (by omega)).mp (by omega)), if_neg (show ¬ nmL (fS A s) - max (i + 1) k = 0 by omega), if_neg (show ¬ ((cnL i (fS A s) : Nat) : Int) = 0 by omega)]
            by_cases c6 : x4 = 0
            · have c6' : x4 = i32 0 := c6
              rw [if_pos c6', if_pos c6, show (nmL (fS A s) : Int) - ((max (i + 1) k : Nat) : Int) = ((nmL (fS A s) - max (i + 1) k : Nat) : Int) by omega, i32_shl _ (by omega)]
            · have c6' : ¬ x4 = i32 0 := c6
              rw [if_neg c6', if_neg c6]
              rfl
      · rw [decide_eq_false c3, b01f, if_pos (show (0 : Int32) = i32 0 from rfl)]
        by_cases c4 : z3 < 0
        · rw [if_pos ((ltI (by omega)).mpr c4)]
          exact ⟨_, _, rfl, rfl, t0⟩
        · rw [if_neg (mt (ltI (by omega)).mp c4), if_neg (mt (leI (by omega)).mp (show ¬ z3 ≤ (nmL (fS A s) : Int) by omega))]
          exact ⟨_, _, rfl, rfl, t0⟩
    · rw [decide_eq_false (show ¬ (0 ≤ z2 ∧ z2 ≤ (nmL (fS A s) : Int) - 1) by omega), b01f, if_pos (show (0 : Int32) = i32 0 from rfl)]
      by_cases c4 : z2 < 0
      · rw [if_pos ((ltI (by omega)).mpr c4)]
        exact ⟨_, _, rfl, rfl, t0⟩
      · rw [if_neg (mt (ltI (by omega)).mp c4), if_pos ((leI (by omega)).mpr (show (nmL (fS A s) : Int) ≤ z2 by omega))]
        exact ⟨_, _, rfl, rfl, t0⟩
  · rw [p_sayNo l1 (by omega) hz1 c, obs, decide_eq_false c, b01f, if_pos rfl]
    exact ⟨_, _, rfl, rfl, t0⟩
