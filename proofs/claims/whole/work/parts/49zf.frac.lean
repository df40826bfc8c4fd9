/-! fractions in lowest terms, both sides -/
theorem p_setFr {F a b : Nat} {Z : hZ} {σ : hSt} (hF : 300 ≤ F) (ha : a ≤ 1000000000000000) (hb : 1 ≤ b ∧ b ≤ 1000000000000000) : f_X0_setFraction F Z σ (i64 (a : Int)) (i64 (b : Int)) = some ((), sJ (sJ σ 12 5 (i64 ((a / Nat.gcd b a : Nat) : Int))) 12 6 (i64 ((b / Nat.gcd b a : Nat) : Int))) := by
  have hg : 1 ≤ Nat.gcd b a := Nat.gcd_pos_of_pos_left a (by omega)
  have hg2 : Nat.gcd b a ≤ b := Nat.gcd_le_left a (by omega)
  have hz : ¬ i64 ((Nat.gcd b a : Nat) : Int) = (0 : Int64) := by rw [show (0 : Int64) = i64 0 from rfl, i64_eq (by omega)]; omega
  have h1 : (1 : Int64) ≤ i64 ((Nat.gcd b a : Nat) : Int) := by rw [show (1 : Int64) = i64 1 from rfl, i64_le (by omega)]; omega
  unfold f_X0_setFraction
  rw [show (200 : Int32) = i32 ((200 : Nat) : Int) from rfl, p_euC 60 b a 200 F hb.2 ha (Nat.lt_of_le_of_lt ha (by decide)) (by omega) (by omega) (by omega), if_pos h1, if_neg hz, if_pos h1, if_neg hz, i64_div (by omega), i64_div (by omega)]
  rfl
theorem p_frac {F a b : Nat} (hF : 300 ≤ F) (ha : a ≤ 1000000000000000) (hb : 1 ≤ b ∧ b ≤ 1000000000000000) (x : Int32) : f_X12_fraction F (i64 (a : Int)) (i64 (b : Int)) x = some (if x = (0 : Int32) then i64 ((a / Nat.gcd b a : Nat) : Int) else i64 ((b / Nat.gcd b a : Nat) : Int)) := by
  have hg : 1 ≤ Nat.gcd b a := Nat.gcd_pos_of_pos_left a (by omega)
  have hg2 : Nat.gcd b a ≤ b := Nat.gcd_le_left a (by omega)
  have hz : ¬ i64 ((Nat.gcd b a : Nat) : Int) = (0 : Int64) := by rw [show (0 : Int64) = i64 0 from rfl, i64_eq (by omega)]; omega
  unfold f_X12_fraction f_X12_common
  rw [p_euM 60 b a F hb.2 ha (Nat.lt_of_le_of_lt ha (by decide)) (by omega), obs]
  by_cases c : x = 0
  · rw [if_pos c, if_neg hz, if_pos c, i64_div (by omega)]
    rfl
  · rw [if_neg c, if_neg hz, if_neg c, i64_div (by omega)]
    rfl
