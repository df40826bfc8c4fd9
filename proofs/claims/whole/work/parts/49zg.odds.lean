/-! the best liar's odds, class -/
theorem bl_le {N P : Int} {sp : Nat → Int} {cs : Cls} (hP : 1 ≤ P) (hs : ∀ j, j < 6 → 0 ≤ sp j) : ∀ (k i : Nat) (z1 z3 : Int), i + k ≤ 6 → 0 ≤ z1 → z1 ≤ z3 → 1 ≤ z3 → z3 ≤ 1000000000000000 → pdI N P sp cs k i z3 ≠ 0 → 0 ≤ blI N P sp cs k i z1 ∧ blI N P sp cs k i z1 ≤ pdI N P sp cs k i z3 ∧ 1 ≤ pdI N P sp cs k i z3 ∧ pdI N P sp cs k i z3 ≤ 1000000000000000 := by
  intro k
  induction k with
  | zero =>
    intro i z1 z3 hi h1 h2 h3 h4 hne
    rw [blI, pdI]
    omega
  | succ k ih =>
    intro i z1 z3 hi h1 h2 h3 h4 hne
    have hd := dcI_rg (N := N) (sp := sp) (cs := cs) (i := i) hP
    have hr := rtI_rg (N := N) (sp := sp) (cs := cs) (i := i) hP (hs i (by omega))
    rw [pdI] at hne
    rw [blI, pdI]
    by_cases c : 1000 < dcI N P sp cs i
    · rw [if_pos c] at hne; exact absurd rfl hne
    · rw [if_neg c] at hne
      rw [if_neg c]
      by_cases d : z3 * dcI N P sp cs i ≤ 1000000000000000
      · rw [if_pos d] at hne
        rw [if_pos d]
        have hb := mul_le_of (z := z1) (w := z3) (e := dcI N P sp cs i - rtI N P sp cs i) (d := dcI N P sp cs i) (by omega) (by omega)
        have hz1 : 1 ≤ z3 * dcI N P sp cs i := by
          have := Int.mul_le_mul (show (1 : Int) ≤ z3 from h3) hd.1 (by omega) (by omega)
          omega
        exact ih (i + 1) _ _ (by omega) hb.1 hb.2 hz1 d hne
      · rw [if_neg d] at hne; exact absurd rfl hne
