/-! the greatest common divisor, both sides -/
theorem gcd_st (a b : Nat) : Nat.gcd b (a % b) = Nat.gcd a b := by
  rw [Nat.gcd_comm b (a % b), ← Nat.gcd_rec, Nat.gcd_comm]
theorem half_st {b r : Nat} (hr : 0 < r ∧ r < b) : 2 * (b % r) < b := by
  have h1 := Nat.mod_lt b hr.1
  have h2 := Nat.div_add_mod b r
  have h3 : 1 ≤ b / r := (Nat.one_le_div_iff hr.1).2 (by omega)
  have h4 : r * 1 ≤ r * (b / r) := Nat.mul_le_mul_left r h3
  omega
theorem euC_st {y1 y3 : Int64} {K : Int64 → Option (Unit × hSt)} {a b l N : Nat} (ha : a ≤ 1000000000000000) (hb : 0 < b ∧ b ≤ 1000000000000000) (hl : 0 < l ∧ l ≤ 200) : f_X0_setFraction_L11 y1 y3 K (N + 1) (i64 (a : Int)) (i64 (b : Int)) (i32 (l : Int)) = f_X0_setFraction_L11 y1 y3 K N (i64 (b : Int)) (i64 ((a % b : Nat) : Int)) (i32 ((l - 1 : Nat) : Int)) := by
  have e1 : i64 (a : Int) - i64 (a : Int) / i64 (b : Int) * i64 (b : Int) = i64 ((a % b : Nat) : Int) := by
    rw [i64_rem (by omega)]; rfl
  have e2 : i32 (l : Int) + (-1 : Int32) = i32 ((l - 1 : Nat) : Int) := by
    rw [show (-1 : Int32) = i32 (-1) from rfl, i32_add]; congr 1; omega
  rw [f_X0_setFraction_L11, if_neg (show ¬ i32 (l : Int) ≤ (0 : Int32) by rw [show (0 : Int32) = i32 0 from rfl, i32_le (by omega)]; omega), if_neg (show ¬ i64 (b : Int) ≤ (0 : Int64) by rw [show (0 : Int64) = i64 0 from rfl, i64_le (by omega)]; omega), if_neg (show ¬ i64 (b : Int) = (0 : Int64) by rw [show (0 : Int64) = i64 0 from rfl, i64_eq (by omega)]; omega), e1, e2]
theorem euC_0 {y1 y3 : Int64} {K : Int64 → Option (Unit × hSt)} {a l N : Nat} : f_X0_setFraction_L11 y1 y3 K (N + 1) (i64 (a : Int)) (i64 ((0 : Nat) : Int)) (i32 (l : Int)) = K (i64 (a : Int)) := by
  rw [f_X0_setFraction_L11]
  by_cases c : i32 (l : Int) ≤ (0 : Int32)
  · rw [if_pos c]
  · rw [if_neg c, if_pos (show i64 ((0 : Nat) : Int) ≤ (0 : Int64) by decide)]
theorem p_euC {y1 y3 : Int64} {K : Int64 → Option (Unit × hSt)} : ∀ (k a b l N : Nat), a ≤ 1000000000000000 → b ≤ 1000000000000000 → b < 2 ^ k → 2 * k ≤ l → l ≤ 200 → l < N → f_X0_setFraction_L11 y1 y3 K N (i64 (a : Int)) (i64 (b : Int)) (i32 (l : Int)) = K (i64 ((Nat.gcd a b : Nat) : Int)) := by
  intro k
  induction k with
  | zero =>
    intro a b l N ha hb hk hl hl2 hN
    obtain ⟨N, rfl⟩ : ∃ q, N = q + 1 := ⟨N - 1, by omega⟩
    obtain rfl : b = 0 := by omega
    rw [euC_0, Nat.gcd_zero_right]
  | succ k ih =>
    intro a b l N ha hb hk hl hl2 hN
    obtain ⟨N, rfl⟩ : ∃ q, N = q + 2 := ⟨N - 2, by omega⟩
    by_cases c : b = 0
    · subst c
      rw [euC_0, Nat.gcd_zero_right]
    · have hr := Nat.mod_lt a (show 0 < b by omega)
      rw [euC_st ha (by omega) (by omega), ← gcd_st a b]
      by_cases d : a % b = 0
      · rw [d, euC_0, Nat.gcd_zero_right]
      · have hh := half_st (b := b) (r := a % b) (by omega)
        have hq := Nat.mod_lt b (show 0 < a % b by omega)
        have hp : 2 ^ (k + 1) = 2 ^ k * 2 := Nat.pow_succ 2 k
        rw [euC_st hb (by omega) (by omega), ← gcd_st b (a % b)]
        exact ih (a % b) (b % (a % b)) (l - 1 - 1) N (by omega) (by omega) (by omega) (by omega) (by omega) (by omega)
theorem euM_st {a b N : Nat} (ha : a ≤ 1000000000000000) (hb : 0 < b ∧ b ≤ 1000000000000000) : f_X12_common_L6 (N + 1) (i64 (a : Int)) (i64 (b : Int)) = f_X12_common_L6 N (i64 (b : Int)) (i64 ((a % b : Nat) : Int)) := by
  have e1 : i64 (a : Int) - i64 (a : Int) / i64 (b : Int) * i64 (b : Int) = i64 ((a % b : Nat) : Int) := by
    rw [i64_rem (by omega)]; rfl
  have h0 : ¬ i64 (b : Int) = (0 : Int64) := by rw [show (0 : Int64) = i64 0 from rfl, i64_eq (by omega)]; omega
  rw [f_X12_common_L6, if_neg h0, if_neg h0, e1]
theorem euM_0 {a N : Nat} : f_X12_common_L6 (N + 1) (i64 (a : Int)) (i64 ((0 : Nat) : Int)) = some (i64 (a : Int)) := by
  rw [f_X12_common_L6, if_pos (show i64 ((0 : Nat) : Int) = (0 : Int64) from rfl)]
theorem p_euM : ∀ (k a b N : Nat), a ≤ 1000000000000000 → b ≤ 1000000000000000 → b < 2 ^ k → 2 * k < N → f_X12_common_L6 N (i64 (a : Int)) (i64 (b : Int)) = some (i64 ((Nat.gcd a b : Nat) : Int)) := by
  intro k
  induction k with
  | zero =>
    intro a b N ha hb hk hN
    obtain ⟨N, rfl⟩ : ∃ q, N = q + 1 := ⟨N - 1, by omega⟩
    obtain rfl : b = 0 := by omega
    rw [euM_0, Nat.gcd_zero_right]
  | succ k ih =>
    intro a b N ha hb hk hN
    obtain ⟨N, rfl⟩ : ∃ q, N = q + 2 := ⟨N - 2, by omega⟩
    by_cases c : b = 0
    · subst c
      rw [euM_0, Nat.gcd_zero_right]
    · have hr := Nat.mod_lt a (show 0 < b by omega)
      rw [euM_st ha (by omega), ← gcd_st a b]
      by_cases d : a % b = 0
      · rw [d, euM_0, Nat.gcd_zero_right]
      · have hh := half_st (b := b) (r := a % b) (by omega)
        have hq := Nat.mod_lt b (show 0 < a % b by omega)
        have hp : 2 ^ (k + 1) = 2 ^ k * 2 := Nat.pow_succ 2 k
        rw [euM_st hb (by omega), ← gcd_st b (a % b)]
        exact ih (a % b) (b % (a % b)) N (by omega) (by omega) (by omega) (by omega)
