/-! rests of any number -/
theorem i64_tdp {a b : Int} (h : -9223372036854775808 ≤ a ∧ a ≤ 9223372036854775807 ∧ 0 < b ∧ b ≤ 9223372036854775807) : i64 a / i64 b = i64 (a.tdiv b) := by
  apply Int64.toInt_inj.mp
  rw [Int64.toInt_div, i64_toInt (by omega), i64_toInt (by omega)]
  unfold i64
  rw [Int64.toInt_ofInt]
theorem px_floorMod {a p : Int} (hp : 0 < p ∧ p ≤ 9223372036854775807) (ha : -9223372036854775808 ≤ a ∧ a ≤ 9223372036854775807) : f_J9_floorMod_f86c9 (i64 a) (i64 p) = some (i64 (a % p)) := by
  unfold f_J9_floorMod_f86c9
  have e1 : i64 a - i64 a / i64 p * i64 p = i64 (a.tmod p) := by
    rw [i64_tdp (by omega), i64_mul, i64_sub]
    have := Int.tmod_def a p
    rw [this, Int.mul_comm p]
  simp only [i64_xs hp (show -9223372036854775808 ≤ a ∧ a ≤ 9223372036854775807 by omega), e1]
  by_cases h : 0 ≤ a
  · simp (disch := omega) only [↓reduceIte, iT_lt, iF_lt, iT_le, iF_le, iT_eq, iF_eq, nT_lt, nF_lt, nT_le, nF_le, nT_eq, nF_eq, and_self, and_true, true_and, and_false, false_and, not_true_eq_false, not_false_eq_true, ne_eq, or_self, or_false, false_or, or_true, true_or, Option.bind_some, i32_lit, i64_lit, i32_add, i32_sub, i32_mul, i32_neg, i64_add, i64_sub, i64_neg, i32_lt, i32_le, i32_eq, i64_lt, i64_le, i64_eq, i32_cn, i32_cl, i32_l, i64_i, i32_nat, Int.toNat_natCast, sI_2, sJ_1, sJ_22, sR_1, sR_21, sI_t, sI_r, sI_j, sJ_t, sJ_r, sJ_j, sR_t, sR_r, sR_j]
    rw [Int.tmod_eq_emod_of_nonneg h]
  · have h3 : a.tmod p = -((-a) % p) := by
      rw [← Int.tmod_eq_emod_of_nonneg (by omega : 0 ≤ -a), Int.neg_tmod, Int.neg_neg]
    have h4 : 0 ≤ (-a) % p := Int.emod_nonneg _ (by omega)
    have h5 : (-a) % p < p := Int.emod_lt_of_pos _ (by omega)
    have h8 : a % p = (a.tmod p) % p := by
      have := Int.tmod_def a p
      rw [show a.tmod p = a + p * (-(a.tdiv p)) by rw [Int.mul_neg]; omega, Int.add_mul_emod_self_left]
    by_cases h6 : (-a) % p = 0
    · have h7 : a % p = 0 := by rw [h8, h3, h6]; simp
      simp (disch := omega) only [↓reduceIte, iT_lt, iF_lt, iT_le, iF_le, iT_eq, iF_eq, nT_lt, nF_lt, nT_le, nF_le, nT_eq, nF_eq, and_self, and_true, true_and, and_false, false_and, not_true_eq_false, not_false_eq_true, ne_eq, or_self, or_false, false_or, or_true, true_or, Option.bind_some, i32_lit, i64_lit, i32_add, i32_sub, i32_mul, i32_neg, i64_add, i64_sub, i64_neg, i32_lt, i32_le, i32_eq, i64_lt, i64_le, i64_eq, i32_cn, i32_cl, i32_l, i64_i, i32_nat, Int.toNat_natCast, sI_2, sJ_1, sJ_22, sR_1, sR_21, sI_t, sI_r, sI_j, sJ_t, sJ_r, sJ_j, sR_t, sR_r, sR_j, h3, h6, h7]
      simp
    · have h7 : a % p = p - (-a) % p := by
        rw [h8, h3, ← Int.add_emod_right, Int.emod_eq_of_lt (by omega) (by omega)]
        omega
      simp (disch := omega) only [↓reduceIte, iT_lt, iF_lt, iT_le, iF_le, iT_eq, iF_eq, nT_lt, nF_lt, nT_le, nF_le, nT_eq, nF_eq, and_self, and_true, true_and, and_false, false_and, not_true_eq_false, not_false_eq_true, ne_eq, or_self, or_false, false_or, or_true, true_or, Option.bind_some, i32_lit, i64_lit, i32_add, i32_sub, i32_mul, i32_neg, i64_add, i64_sub, i64_neg, i32_lt, i32_le, i32_eq, i64_lt, i64_le, i64_eq, i32_cn, i32_cl, i32_l, i64_i, i32_nat, Int.toNat_natCast, sI_2, sJ_1, sJ_22, sR_1, sR_21, sI_t, sI_r, sI_j, sJ_t, sJ_r, sJ_j, sR_t, sR_r, sR_j, h3, h7]
      congr 2; omega
theorem px_mrest {a p : Int} (hp : 0 < p ∧ p ≤ 9223372036854775807) (ha : -9223372036854775808 ≤ a ∧ a ≤ 9223372036854775807) : f_X12_rest (i64 a) (i64 p) = some (i64 (a % p)) := by
  unfold f_X12_rest
  have e1 : i64 a - i64 a / i64 p * i64 p = i64 (a.tmod p) := by
    rw [i64_tdp (by omega), i64_mul, i64_sub]
    have := Int.tmod_def a p
    rw [this, Int.mul_comm p]
  have h8 : a % p = (a.tmod p) % p := by
    have := Int.tmod_def a p
    rw [show a.tmod p = a + p * (-(a.tdiv p)) by rw [Int.mul_neg]; omega, Int.add_mul_emod_self_left]
  simp only [e1]
  by_cases h : 0 ≤ a
  · have := mod_rg a hp.1
    rw [Int.tmod_eq_emod_of_nonneg h]
    simp (disch := omega) only [↓reduceIte, iT_lt, iF_lt, iT_le, iF_le, iT_eq, iF_eq, nT_lt, nF_lt, nT_le, nF_le, nT_eq, nF_eq, and_self, and_true, true_and, and_false, false_and, not_true_eq_false, not_false_eq_true, ne_eq, or_self, or_false, false_or, or_true, true_or, Option.bind_some, i32_lit, i64_lit, i32_add, i32_sub, i32_mul, i32_neg, i64_add, i64_sub, i64_neg, i32_lt, i32_le, i32_eq, i64_lt, i64_le, i64_eq, i32_cn, i32_cl, i32_l, i64_i, i32_nat, Int.toNat_natCast, sI_2, sJ_1, sJ_22, sR_1, sR_21, sI_t, sI_r, sI_j, sJ_t, sJ_r, sJ_j, sR_t, sR_r, sR_j]
  · have h3 : a.tmod p = -((-a) % p) := by
      rw [← Int.tmod_eq_emod_of_nonneg (by omega : 0 ≤ -a), Int.neg_tmod, Int.neg_neg]
    have h4 := mod_rg (-a) hp.1
    by_cases h6 : 0 ≤ a.tmod p
    · simp (disch := omega) only [↓reduceIte, iT_lt, iF_lt, iT_le, iF_le, iT_eq, iF_eq, nT_lt, nF_lt, nT_le, nF_le, nT_eq, nF_eq, and_self, and_true, true_and, and_false, false_and, not_true_eq_false, not_false_eq_true, ne_eq, or_self, or_false, false_or, or_true, true_or, Option.bind_some, i32_lit, i64_lit, i32_add, i32_sub, i32_mul, i32_neg, i64_add, i64_sub, i64_neg, i32_lt, i32_le, i32_eq, i64_lt, i64_le, i64_eq, i32_cn, i32_cl, i32_l, i64_i, i32_nat, Int.toNat_natCast, sI_2, sJ_1, sJ_22, sR_1, sR_21, sI_t, sI_r, sI_j, sJ_t, sJ_r, sJ_j, sR_t, sR_r, sR_j]
      rw [h8, Int.emod_eq_of_lt h6 (by omega)]
    · simp (disch := omega) only [↓reduceIte, iT_lt, iF_lt, iT_le, iF_le, iT_eq, iF_eq, nT_lt, nF_lt, nT_le, nF_le, nT_eq, nF_eq, and_self, and_true, true_and, and_false, false_and, not_true_eq_false, not_false_eq_true, ne_eq, or_self, or_false, false_or, or_true, true_or, Option.bind_some, i32_lit, i64_lit, i32_add, i32_sub, i32_mul, i32_neg, i64_add, i64_sub, i64_neg, i32_lt, i32_le, i32_eq, i64_lt, i64_le, i64_eq, i32_cn, i32_cl, i32_l, i64_i, i32_nat, Int.toNat_natCast, sI_2, sJ_1, sJ_22, sR_1, sR_21, sI_t, sI_r, sI_j, sJ_t, sJ_r, sJ_j, sR_t, sR_r, sR_j]
      rw [h8, ← Int.add_emod_right, Int.emod_eq_of_lt (by omega) (by omega)]
theorem i64_all (x : Int64) : x = i64 x.toInt ∧ -9223372036854775808 ≤ x.toInt ∧ x.toInt ≤ 9223372036854775807 := ⟨(Int64.ofInt_toInt _).symm, Int64.le_toInt _, Int64.toInt_le _⟩
theorem pr_rest {p : Int} (x : Int64) (hp : 0 < p ∧ p ≤ 9223372036854775807) : f_X3_rest x (i64 p) = some (i64 (x.toInt % p)) := by
  obtain ⟨e, h1, h2⟩ := i64_all x
  unfold f_X3_rest
  rw [if_pos (show (1 : Int64) ≤ i64 p by rw [show (1 : Int64) = i64 1 from rfl, i64_le (by omega)]; omega)]
  conv => lhs; rw [e]
  rw [px_floorMod hp ⟨h1, h2⟩, obs]
theorem pr_mrest {p : Int} (x : Int64) (hp : 0 < p ∧ p ≤ 9223372036854775807) : f_X12_rest x (i64 p) = some (i64 (x.toInt % p)) := by
  obtain ⟨e, h1, h2⟩ := i64_all x
  conv => lhs; rw [e]
  rw [px_mrest hp ⟨h1, h2⟩]
