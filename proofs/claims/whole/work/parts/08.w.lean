/-! frames: what a call may change -/
def ob (r : Nat) : Bool := r == 0 || r == 1 || r == 12 || r == 14 || r == 15 || r == 200
def cd (r j : Nat) : Nat := if ob r then 10000 + 100 * r + j else r
/-- the model's letters (213) stay within bounds -/
def bd (v : Int64) : Prop := -2000000000 ≤ v.toInt ∧ v.toInt ≤ 2000000000
def bdR (σ : hSt) : Prop := ∀ c, bd (σ.2.1 213 c)
def fr (W : List Nat) (σ σ' : hSt) : Prop := (∀ r j, cd r j ∉ W → σ'.1 r j = σ.1 r j) ∧ (∀ r j, cd r j ∉ W → σ'.2.1 r j = σ.2.1 r j) ∧ (∀ r j, cd r j ∉ W → σ'.2.2 r j = σ.2.2 r j) ∧ (bdR σ → bdR σ')
theorem fr_rf (W : List Nat) (σ : hSt) : fr W σ σ := ⟨fun _ _ _ => rfl, fun _ _ _ => rfl, fun _ _ _ => rfl, fun h => h⟩
theorem fr_mono {W V : List Nat} {σ τ : hSt} (h : fr W σ τ) (hs : ∀ x ∈ W, x ∈ V) : fr V σ τ := ⟨fun r j q => h.1 r j (fun z => q (hs _ z)), fun r j q => h.2.1 r j (fun z => q (hs _ z)), fun r j q => h.2.2.1 r j (fun z => q (hs _ z)), h.2.2.2⟩
theorem fr_tr {W : List Nat} {σ τ υ : hSt} (h : fr W σ τ) (k : fr W τ υ) : fr W σ υ := ⟨fun r j q => (k.1 r j q).trans (h.1 r j q), fun r j q => (k.2.1 r j q).trans (h.2.1 r j q), fun r j q => (k.2.2.1 r j q).trans (h.2.2.1 r j q), fun q => k.2.2.2 (h.2.2.2 q)⟩
theorem fr_sI {W : List Nat} (σ : hSt) {r j : Nat} (v : Int32) (h : cd r j ∈ W) : fr W σ (sI σ r j v) := by
  refine ⟨fun r2 j2 q => ?_, fun _ _ _ => rfl, fun _ _ _ => rfl, fun h => h⟩
  by_cases e1 : r2 = r
  · by_cases e2 : j2 = j
    · subst e1; subst e2; exact absurd h q
    · exact sI_j σ v (by omega)
  · exact congrFun (sI_r σ v (by omega)) j2
theorem fr_sJ {W : List Nat} (σ : hSt) {r j : Nat} (v : Int64) (h : cd r j ∈ W) (hb : r = 213 → bd v := by omega) : fr W σ (sJ σ r j v) := by
  refine ⟨fun _ _ _ => rfl, fun r2 j2 q => ?_, fun _ _ _ => rfl, fun h9 c => ?_⟩
  · by_cases e1 : r2 = r
    · by_cases e2 : j2 = j
      · subst e1; subst e2; exact absurd h q
      · exact sJ_j σ v (by omega)
    · exact congrFun (sJ_r σ v (by omega)) j2
  · by_cases e1 : r = 213
    · by_cases e2 : c = j
      · rw [sJ_t σ v ⟨e1.symm, e2⟩]; exact hb e1
      · rw [sJ_j σ v (by omega)]; exact h9 c
    · rw [congrFun (sJ_r σ v (show 213 < r ∨ r < 213 by omega)) c]; exact h9 c
theorem fr_sR {W : List Nat} (σ : hSt) {r j : Nat} (v : Option Nat) (h : cd r j ∈ W) : fr W σ (sR σ r j v) := by
  refine ⟨fun _ _ _ => rfl, fun _ _ _ => rfl, fun r2 j2 q => ?_, fun h => h⟩
  by_cases e1 : r2 = r
  · by_cases e2 : j2 = j
    · subst e1; subst e2; exact absurd h q
    · exact sR_j σ v (by omega)
  · exact congrFun (sR_r σ v (by omega)) j2
theorem cd_a {r : Nat} (h : ob r = false) (j : Nat) : cd r j = r := by simp [cd, h]
theorem cd_o {r : Nat} (h : ob r = true) (j : Nat) : cd r j = 10000 + 100 * r + j := by simp [cd, h]
theorem fr_I {W : List Nat} {σ τ : hSt} (h : fr W σ τ) (r : Nat) (h1 : ob r = false) (h2 : r ∉ W) : τ.1 r = σ.1 r := funext fun j => h.1 r j (by rw [cd_a h1]; exact h2)
theorem fr_J {W : List Nat} {σ τ : hSt} (h : fr W σ τ) (r : Nat) (h1 : ob r = false) (h2 : r ∉ W) : τ.2.1 r = σ.2.1 r := funext fun j => h.2.1 r j (by rw [cd_a h1]; exact h2)
/-! arithmetic of rests -/
theorem mul_bd {a b p : Int} (ha : 0 ≤ a ∧ a < p) (hb : 0 ≤ b ∧ b < p) (hp : p ≤ 1000000007) : 0 ≤ a * b ∧ a * b ≤ 1000000012000000036 := by
  refine ⟨Int.mul_nonneg ha.1 hb.1, ?_⟩
  have h1 : a ≤ 1000000006 := by omega
  have h2 : b ≤ 1000000006 := by omega
  exact Int.mul_le_mul h1 h2 hb.1 (by decide)
theorem p_plus {a b p : Int} (ha : 0 ≤ a ∧ a < p) (hb : 0 ≤ b ∧ b < p) (hp : p ≤ 1000000007) : f_X3_plus (i64 a) (i64 b) (i64 p) = some (i64 ((a + b) % p)) := by
  unfold f_X3_plus
  by_cases h : a + b < p
  · simp (disch := omega) only [↓reduceIte, iT_lt, iF_lt, iT_le, iF_le, iT_eq, iF_eq, nT_lt, nF_lt, nT_le, nF_le, nT_eq, nF_eq, and_self, and_true, true_and, and_false, false_and, not_true_eq_false, not_false_eq_true, ne_eq, or_self, or_false, false_or, or_true, true_or, Option.bind_some, i32_lit, i64_lit, i32_add, i32_sub, i32_mul, i32_neg, i64_add, i64_sub, i64_neg, i32_lt, i32_le, i32_eq, i64_lt, i64_le, i64_eq, i32_cn, i32_cl, i32_l, i64_i, i32_nat, Int.toNat_natCast, sI_2, sJ_1, sJ_22, sR_1, sR_21, sI_t, sI_r, sI_j, sJ_t, sJ_r, sJ_j, sR_t, sR_r, sR_j]
    rw [Int.emod_eq_of_lt (by omega) h]
  · simp (disch := omega) only [↓reduceIte, iT_lt, iF_lt, iT_le, iF_le, iT_eq, iF_eq, nT_lt, nF_lt, nT_le, nF_le, nT_eq, nF_eq, and_self, and_true, true_and, and_false, false_and, not_true_eq_false, not_false_eq_true, ne_eq, or_self, or_false, false_or, or_true, true_or, Option.bind_some, i32_lit, i64_lit, i32_add, i32_sub, i32_mul, i32_neg, i64_add, i64_sub, i64_neg, i32_lt, i32_le, i32_eq, i64_lt, i64_le, i64_eq, i32_cn, i32_cl, i32_l, i64_i, i32_nat, Int.toNat_natCast, sI_2, sJ_1, sJ_22, sR_1, sR_21, sI_t, sI_r, sI_j, sJ_t, sJ_r, sJ_j, sR_t, sR_r, sR_j]
    have : (a + b) % p = a + b - p := by
      rw [← Int.sub_emod_right, Int.emod_eq_of_lt (by omega) (by omega)]
    rw [this]
theorem p_minus {a b p : Int} (ha : 0 ≤ a ∧ a < p) (hb : 0 ≤ b ∧ b < p) (hp : p ≤ 1000000007) : f_X3_minus (i64 a) (i64 b) (i64 p) = some (i64 ((a - b) % p)) := by
  unfold f_X3_minus
  by_cases h : a < b
  · simp (disch := omega) only [↓reduceIte, iT_lt, iF_lt, iT_le, iF_le, iT_eq, iF_eq, nT_lt, nF_lt, nT_le, nF_le, nT_eq, nF_eq, and_self, and_true, true_and, and_false, false_and, not_true_eq_false, not_false_eq_true, ne_eq, or_self, or_false, false_or, or_true, true_or, Option.bind_some, i32_lit, i64_lit, i32_add, i32_sub, i32_mul, i32_neg, i64_add, i64_sub, i64_neg, i32_lt, i32_le, i32_eq, i64_lt, i64_le, i64_eq, i32_cn, i32_cl, i32_l, i64_i, i32_nat, Int.toNat_natCast, sI_2, sJ_1, sJ_22, sR_1, sR_21, sI_t, sI_r, sI_j, sJ_t, sJ_r, sJ_j, sR_t, sR_r, sR_j]
    have : (a - b) % p = a - b + p := by
      rw [← Int.add_emod_right, Int.emod_eq_of_lt (by omega) (by omega)]
    rw [this]
  · simp (disch := omega) only [↓reduceIte, iT_lt, iF_lt, iT_le, iF_le, iT_eq, iF_eq, nT_lt, nF_lt, nT_le, nF_le, nT_eq, nF_eq, and_self, and_true, true_and, and_false, false_and, not_true_eq_false, not_false_eq_true, ne_eq, or_self, or_false, false_or, or_true, true_or, Option.bind_some, i32_lit, i64_lit, i32_add, i32_sub, i32_mul, i32_neg, i64_add, i64_sub, i64_neg, i32_lt, i32_le, i32_eq, i64_lt, i64_le, i64_eq, i32_cn, i32_cl, i32_l, i64_i, i32_nat, Int.toNat_natCast, sI_2, sJ_1, sJ_22, sR_1, sR_21, sI_t, sI_r, sI_j, sJ_t, sJ_r, sJ_j, sR_t, sR_r, sR_j]
    rw [Int.emod_eq_of_lt (by omega) (by omega)]
theorem p_times {a b p : Int} (ha : 0 ≤ a ∧ a < p) (hb : 0 ≤ b ∧ b < p) (hp : p ≤ 1000000007) : f_X3_times (i64 a) (i64 b) (i64 p) = some (i64 (a * b % p)) := by
  unfold f_X3_times
  obtain ⟨h1, h2⟩ := mul_bd ha hb hp
  by_cases hA : a < 2
  · simp (disch := omega) only [↓reduceIte, iT_lt, iF_lt, iT_le, iF_le, iT_eq, iF_eq, nT_lt, nF_lt, nT_le, nF_le, nT_eq, nF_eq, and_self, and_true, true_and, and_false, false_and, not_true_eq_false, not_false_eq_true, ne_eq, or_self, or_false, false_or, or_true, true_or, Option.bind_some, i32_lit, i64_lit, i32_add, i32_sub, i32_mul, i32_neg, i64_add, i64_sub, i64_neg, i32_lt, i32_le, i32_eq, i64_lt, i64_le, i64_eq, i32_cn, i32_cl, i32_l, i64_i, i32_nat, Int.toNat_natCast, sI_2, sJ_1, sJ_22, sR_1, sR_21, sI_t, sI_r, sI_j, sJ_t, sJ_r, sJ_j, sR_t, sR_r, sR_j, i64_mul]
    have : a = 0 ∨ a = 1 := by omega
    rcases this with rfl | rfl
    · simp
    · rw [Int.one_mul, Int.emod_eq_of_lt hb.1 hb.2]
  · by_cases hB : b < 2
    · simp (disch := omega) only [↓reduceIte, iT_lt, iF_lt, iT_le, iF_le, iT_eq, iF_eq, nT_lt, nF_lt, nT_le, nF_le, nT_eq, nF_eq, and_self, and_true, true_and, and_false, false_and, not_true_eq_false, not_false_eq_true, ne_eq, or_self, or_false, false_or, or_true, true_or, Option.bind_some, i32_lit, i64_lit, i32_add, i32_sub, i32_mul, i32_neg, i64_add, i64_sub, i64_neg, i32_lt, i32_le, i32_eq, i64_lt, i64_le, i64_eq, i32_cn, i32_cl, i32_l, i64_i, i32_nat, Int.toNat_natCast, sI_2, sJ_1, sJ_22, sR_1, sR_21, sI_t, sI_r, sI_j, sJ_t, sJ_r, sJ_j, sR_t, sR_r, sR_j, i64_mul]
      have : b = 0 ∨ b = 1 := by omega
      rcases this with rfl | rfl
      · simp
      · rw [Int.mul_one, Int.emod_eq_of_lt ha.1 ha.2]
    · simp (disch := omega) only [↓reduceIte, iT_lt, iF_lt, iT_le, iF_le, iT_eq, iF_eq, nT_lt, nF_lt, nT_le, nF_le, nT_eq, nF_eq, and_self, and_true, true_and, and_false, false_and, not_true_eq_false, not_false_eq_true, ne_eq, or_self, or_false, false_or, or_true, true_or, Option.bind_some, i32_lit, i64_lit, i32_add, i32_sub, i32_mul, i32_neg, i64_add, i64_sub, i64_neg, i32_lt, i32_le, i32_eq, i64_lt, i64_le, i64_eq, i32_cn, i32_cl, i32_l, i64_i, i32_nat, Int.toNat_natCast, sI_2, sJ_1, sJ_22, sR_1, sR_21, sI_t, sI_r, sI_j, sJ_t, sJ_r, sJ_j, sR_t, sR_r, sR_j, i64_mul, i64_div]
      rw [Int.emod_def, Int.mul_comm p]
theorem i64_xs {a b : Int} (hb : 0 < b ∧ b ≤ 9223372036854775807) (ha : -9223372036854775808 ≤ a ∧ a ≤ 9223372036854775807) : ((0 : Int64) ≤ i64 a ^^^ i64 b) = (0 ≤ a) := by
  have h0 : (0 : Int64) = i64 0 := rfl
  have hx : ((0 : Int64) ≤ i64 a ^^^ i64 b) ↔ (i64 a ^^^ i64 b).toBitVec.msb = false := by
    rw [Int64.le_iff_toInt_le]
    show (0 : Int) ≤ (i64 a ^^^ i64 b).toBitVec.toInt ↔ _
    rw [BitVec.msb_eq_toInt]
    simp
  have h1 : (i64 b).toBitVec.msb = false := by
    rw [BitVec.msb_eq_toInt]
    show decide ((i64 b).toInt < 0) = false
    rw [i64_toInt (by omega)]; simp; omega
  have h2 : (i64 a).toBitVec.msb = decide (a < 0) := by
    rw [BitVec.msb_eq_toInt]
    show decide ((i64 a).toInt < 0) = _
    rw [i64_toInt ha]
  rw [hx, Int64.toBitVec_xor, BitVec.msb_xor, h1, h2]
  simp
theorem p_floorMod {a p : Int} (hp : 0 < p ∧ p ≤ 9223372036854775807) (ha : -4611686018427387904 ≤ a ∧ a ≤ 4611686018427387904) : f_J9_floorMod_f86c9 (i64 a) (i64 p) = some (i64 (a % p)) := by
  unfold f_J9_floorMod_f86c9
  have e1 : i64 a - i64 a / i64 p * i64 p = i64 (a.tmod p) := by
    rw [i64_tdiv (by omega), i64_mul, i64_sub]
    have := Int.tmod_def a p
    rw [this, Int.mul_comm p]
  simp only [i64_xs hp (show -9223372036854775808 ≤ a ∧ a ≤ 9223372036854775807 by omega), e1]
  by_cases h : 0 ≤ a
  · simp (disch := omega) only [↓reduceIte, iT_lt, iF_lt, iT_le, iF_le, iT_eq, iF_eq, nT_lt, nF_lt, nT_le, nF_le, nT_eq, nF_eq, and_self, and_true, true_and, and_false, false_and, not_true_eq_false, not_false_eq_true, ne_eq, or_self, or_false, false_or, or_true, true_or, Option.bind_some, i32_lit, i64_lit, i32_add, i32_sub, i32_mul, i32_neg, i64_add, i64_sub, i64_neg, i32_lt, i32_le, i32_eq, i64_lt, i64_le, i64_eq, i32_cn, i32_cl, i32_l, i64_i, i32_nat, Int.toNat_natCast, sI_2, sJ_1, sJ_22, sR_1, sR_21, sI_t, sI_r, sI_j, sJ_t, sJ_r, sJ_j, sR_t, sR_r, sR_j]
    rw [Int.tmod_eq_emod_of_nonneg h]
  · have h3 : a.tmod p = -((-a) % p) := by
      rw [← Int.tmod_eq_emod_of_nonneg (by omega : 0 ≤ -a), Int.neg_tmod, Int.neg_neg]
    have h4 : 0 ≤ (-a) % p := Int.emod_nonneg _ (by omega)
    have h5 : (-a) % p < p := Int.emod_lt_of_pos _ (by omega)
    have h8 : a % p = (a.tmod p) % p := by
      have := Int.tmod_def a p
      rw [show a.tmod p = a + p * (-(a.tdiv p)) by rw [Int.mul_neg]; omega, Int.add_mul_emod_self_left]
    by_cases h6 : (-a) % p = 0
    · have h7 : a % p = 0 := by rw [h8, h3, h6]; simp
      simp (disch := omega) only [↓reduceIte, iT_lt, iF_lt, iT_le, iF_le, iT_eq, iF_eq, nT_lt, nF_lt, nT_le, nF_le, nT_eq, nF_eq, and_self, and_true, true_and, and_false, false_and, not_true_eq_false, not_false_eq_true, ne_eq, or_self, or_false, false_or, or_true, true_or, Option.bind_some, i32_lit, i64_lit, i32_add, i32_sub, i32_mul, i32_neg, i64_add, i64_sub, i64_neg, i32_lt, i32_le, i32_eq, i64_lt, i64_le, i64_eq, i32_cn, i32_cl, i32_l, i64_i, i32_nat, Int.toNat_natCast, sI_2, sJ_1, sJ_22, sR_1, sR_21, sI_t, sI_r, sI_j, sJ_t, sJ_r, sJ_j, sR_t, sR_r, sR_j, h3, h6, h7]
      simp
    · have h7 : a % p = p - (-a) % p := by
        rw [h8, h3, ← Int.add_emod_right, Int.emod_eq_of_lt (by omega) (by omega)]
        omega
      simp (disch := omega) only [↓reduceIte, iT_lt, iF_lt, iT_le, iF_le, iT_eq, iF_eq, nT_lt, nF_lt, nT_le, nF_le, nT_eq, nF_eq, and_self, and_true, true_and, and_false, false_and, not_true_eq_false, not_false_eq_true, ne_eq, or_self, or_false, false_or, or_true, true_or, Option.bind_some, i32_lit, i64_lit, i32_add, i32_sub, i32_mul, i32_neg, i64_add, i64_sub, i64_neg, i32_lt, i32_le, i32_eq, i64_lt, i64_le, i64_eq, i32_cn, i32_cl, i32_l, i64_i, i32_nat, Int.toNat_natCast, sI_2, sJ_1, sJ_22, sR_1, sR_21, sI_t, sI_r, sI_j, sJ_t, sJ_r, sJ_j, sR_t, sR_r, sR_j, h3, h7]
      congr 2; omega
theorem p_rest {a p : Int} (hp : 0 < p ∧ p ≤ 9223372036854775807) (ha : -4611686018427387904 ≤ a ∧ a ≤ 4611686018427387904) : f_X3_rest (i64 a) (i64 p) = some (i64 (a % p)) := by
  unfold f_X3_rest
  simp (disch := omega) only [↓reduceIte, iT_lt, iF_lt, iT_le, iF_le, iT_eq, iF_eq, nT_lt, nF_lt, nT_le, nF_le, nT_eq, nF_eq, and_self, and_true, true_and, and_false, false_and, not_true_eq_false, not_false_eq_true, ne_eq, or_self, or_false, false_or, or_true, true_or, Option.bind_some, i32_lit, i64_lit, i32_add, i32_sub, i32_mul, i32_neg, i64_add, i64_sub, i64_neg, i32_lt, i32_le, i32_eq, i64_lt, i64_le, i64_eq, i32_cn, i32_cl, i32_l, i64_i, i32_nat, Int.toNat_natCast, sI_2, sJ_1, sJ_22, sR_1, sR_21, sI_t, sI_r, sI_j, sJ_t, sJ_r, sJ_j, sR_t, sR_r, sR_j, p_floorMod hp ha]
