/-! machine numbers as whole numbers -/
def i32 (z : Int) : Int32 := Int32.ofInt z
def i64 (z : Int) : Int64 := Int64.ofInt z
theorem i32_add (a b : Int) : i32 a + i32 b = i32 (a + b) := (Int32.ofInt_add a b).symm
theorem i32_sub (a b : Int) : i32 a - i32 b = i32 (a - b) := (Int32.ofInt_sub a b).symm
theorem i32_mul (a b : Int) : i32 a * i32 b = i32 (a * b) := (Int32.ofInt_mul a b).symm
theorem i32_neg (a : Int) : -(i32 a) = i32 (-a) := Int32.neg_ofInt
theorem i64_add (a b : Int) : i64 a + i64 b = i64 (a + b) := (Int64.ofInt_add a b).symm
theorem i64_sub (a b : Int) : i64 a - i64 b = i64 (a - b) := (Int64.ofInt_sub a b).symm
theorem i64_mul (a b : Int) : i64 a * i64 b = i64 (a * b) := (Int64.ofInt_mul a b).symm
theorem i64_neg (a : Int) : -(i64 a) = i64 (-a) := Int64.neg_ofInt
theorem i32_toInt {a : Int} (h : -2147483648 ≤ a ∧ a ≤ 2147483647) : (i32 a).toInt = a := Int32.toInt_ofInt_of_le (by omega) (by omega)
theorem i64_toInt {a : Int} (h : -9223372036854775808 ≤ a ∧ a ≤ 9223372036854775807) : (i64 a).toInt = a := Int64.toInt_ofInt_of_le (by omega) (by omega)
theorem i32_of (x : Int32) : x = i32 x.toInt := (Int32.ofInt_toInt x).symm
theorem i64_of (x : Int64) : x = i64 x.toInt := (Int64.ofInt_toInt x).symm
theorem i32_lt {a b : Int} (h : -2147483648 ≤ a ∧ a ≤ 2147483647 ∧ -2147483648 ≤ b ∧ b ≤ 2147483647) : (i32 a < i32 b) = (a < b) := by
  rw [Int32.lt_iff_toInt_lt, i32_toInt ⟨h.1, h.2.1⟩, i32_toInt h.2.2]
theorem i32_le {a b : Int} (h : -2147483648 ≤ a ∧ a ≤ 2147483647 ∧ -2147483648 ≤ b ∧ b ≤ 2147483647) : (i32 a ≤ i32 b) = (a ≤ b) := by
  rw [Int32.le_iff_toInt_le, i32_toInt ⟨h.1, h.2.1⟩, i32_toInt h.2.2]
theorem i32_eq {a b : Int} (h : -2147483648 ≤ a ∧ a ≤ 2147483647 ∧ -2147483648 ≤ b ∧ b ≤ 2147483647) : (i32 a = i32 b) = (a = b) := by
  rw [← Int32.toInt_inj, i32_toInt ⟨h.1, h.2.1⟩, i32_toInt h.2.2]
theorem i64_lt {a b : Int} (h : -9223372036854775808 ≤ a ∧ a ≤ 9223372036854775807 ∧ -9223372036854775808 ≤ b ∧ b ≤ 9223372036854775807) : (i64 a < i64 b) = (a < b) := by
  rw [Int64.lt_iff_toInt_lt, i64_toInt ⟨h.1, h.2.1⟩, i64_toInt h.2.2]
theorem i64_le {a b : Int} (h : -9223372036854775808 ≤ a ∧ a ≤ 9223372036854775807 ∧ -9223372036854775808 ≤ b ∧ b ≤ 9223372036854775807) : (i64 a ≤ i64 b) = (a ≤ b) := by
  rw [Int64.le_iff_toInt_le, i64_toInt ⟨h.1, h.2.1⟩, i64_toInt h.2.2]
theorem i64_eq {a b : Int} (h : -9223372036854775808 ≤ a ∧ a ≤ 9223372036854775807 ∧ -9223372036854775808 ≤ b ∧ b ≤ 9223372036854775807) : (i64 a = i64 b) = (a = b) := by
  rw [← Int64.toInt_inj, i64_toInt ⟨h.1, h.2.1⟩, i64_toInt h.2.2]
theorem i32_cl {a : Int} (h : -2147483648 ≤ a ∧ a ≤ 2147483647) : (i32 a).toNatClampNeg = a.toNat := Int32.toNatClampNeg_ofInt_of_le (by omega) (by omega)
theorem i32_cn {a : Nat} (h : a ≤ 2147483647) : (i32 (a : Int)).toNatClampNeg = a := by rw [i32_cl (by omega)]; rfl
theorem i32_l {a : Int} (h : -2147483648 ≤ a ∧ a ≤ 2147483647) : (i32 a).toInt64 = i64 a := by
  unfold i32 i64; exact Int32.toInt64_ofInt (by have : Int32.minValue.toInt = -2147483648 := by decide
                                                omega) (by have : Int32.maxValue.toInt = 2147483647 := by decide
                                                           omega)
theorem i64_i (a : Int) : (i64 a).toInt32 = i32 a := Int64.toInt32_ofInt
theorem i32_nat (n : Nat) : Int32.ofNat n = i32 (n : Int) := (Int32.ofInt_eq_ofNat).symm
theorem i64_nat (n : Nat) : Int64.ofNat n = i64 (n : Int) := (Int64.ofInt_eq_ofNat).symm
theorem i32_tdiv {a b : Int} (h : -2147483648 < a ∧ a ≤ 2147483647 ∧ -2147483648 ≤ b ∧ b ≤ 2147483647) : i32 a / i32 b = i32 (a.tdiv b) := by
  have h1 : Int32.minValue.toInt = -2147483648 := by decide
  have h2 : Int32.maxValue.toInt = 2147483647 := by decide
  exact (Int32.ofInt_tdiv (by omega) (by omega) (by omega) (by omega)).symm
theorem i64_tdiv {a b : Int} (h : -9223372036854775808 < a ∧ a ≤ 9223372036854775807 ∧ -9223372036854775808 ≤ b ∧ b ≤ 9223372036854775807) : i64 a / i64 b = i64 (a.tdiv b) := by
  have h1 : Int64.minValue.toInt = -9223372036854775808 := by decide
  have h2 : Int64.maxValue.toInt = 9223372036854775807 := by decide
  exact (Int64.ofInt_tdiv (by omega) (by omega) (by omega) (by omega)).symm
theorem i32_div {a b : Int} (h : 0 ≤ a ∧ a ≤ 2147483647 ∧ 0 ≤ b ∧ b ≤ 2147483647) : i32 a / i32 b = i32 (a / b) := by
  rw [i32_tdiv (by omega), Int.tdiv_eq_ediv_of_nonneg h.1]
theorem i64_div {a b : Int} (h : 0 ≤ a ∧ a ≤ 9223372036854775807 ∧ 0 ≤ b ∧ b ≤ 9223372036854775807) : i64 a / i64 b = i64 (a / b) := by
  rw [i64_tdiv (by omega), Int.tdiv_eq_ediv_of_nonneg h.1]
theorem i32_rem {a b : Int} (h : 0 ≤ a ∧ a ≤ 2147483647 ∧ 0 ≤ b ∧ b ≤ 2147483647) : i32 a - i32 a / i32 b * i32 b = i32 (a % b) := by
  rw [i32_div h, i32_mul, i32_sub]
  have := Int.emod_def a b
  rw [this, Int.mul_comm b]
theorem i64_rem {a b : Int} (h : 0 ≤ a ∧ a ≤ 9223372036854775807 ∧ 0 ≤ b ∧ b ≤ 9223372036854775807) : i64 a - i64 a / i64 b * i64 b = i64 (a % b) := by
  rw [i64_div h, i64_mul, i64_sub]
  have := Int.emod_def a b
  rw [this, Int.mul_comm b]
theorem i32_and1 (a : Int) : i32 a &&& 1 = i32 (a % 2) := by
  apply Int32.toBitVec_inj.1
  apply BitVec.eq_of_toNat_eq
  have h1 : (1 : Int32).toBitVec = 1#32 := rfl
  simp only [i32, Int32.toBitVec_and, Int32.toBitVec_ofInt, BitVec.toNat_and, BitVec.toNat_ofInt, h1, BitVec.toNat_ofNat]
  rw [show (1 % 2 ^ 32 : Nat) = 1 from rfl, Nat.and_one_is_mod]
  omega
theorem i64_and1 (a : Int) : i64 a &&& 1 = i64 (a % 2) := by
  apply Int64.toBitVec_inj.1
  apply BitVec.eq_of_toNat_eq
  have h1 : (1 : Int64).toBitVec = 1#64 := rfl
  simp only [i64, Int64.toBitVec_and, Int64.toBitVec_ofInt, BitVec.toNat_and, BitVec.toNat_ofInt, h1, BitVec.toNat_ofNat]
  rw [show (1 % 2 ^ 64 : Nat) = 1 from rfl, Nat.and_one_is_mod]
  omega
theorem sh32c : ∀ n : Nat, n < 32 → ((i32 (n : Int) &&& 31).toBitVec.smod 32).toNat = n := by decide
theorem sh64c : ∀ n : Nat, n < 64 → (((i32 (n : Int)).toInt64 &&& 63).toBitVec.smod 64).toNat = n := by decide
theorem i32_shr {a : Int} {k : Nat} (h : k < 32) (ha : -2147483648 ≤ a ∧ a ≤ 2147483647) : i32 a >>> (i32 (k : Int) &&& 31) = i32 (a / 2 ^ k) := by
  have h2 : (i32 a >>> (i32 (k : Int) &&& 31)).toInt = a / 2 ^ k := by
    show (i32 a >>> (i32 (k : Int) &&& 31)).toBitVec.toInt = _
    rw [Int32.toBitVec_shiftRight, BitVec.sshiftRight', sh32c k h, BitVec.toInt_sshiftRight]
    show (i32 a).toInt >>> k = _
    rw [i32_toInt ha, Int.shiftRight_eq_div_pow]
    rfl
  rw [i32_of (i32 a >>> (i32 (k : Int) &&& 31)), h2]
theorem i64_shr {a : Int} {k : Nat} (h : k < 64) (ha : -9223372036854775808 ≤ a ∧ a ≤ 9223372036854775807) : i64 a >>> ((i32 (k : Int)).toInt64 &&& 63) = i64 (a / 2 ^ k) := by
  have h2 : (i64 a >>> ((i32 (k : Int)).toInt64 &&& 63)).toInt = a / 2 ^ k := by
    show (i64 a >>> ((i32 (k : Int)).toInt64 &&& 63)).toBitVec.toInt = _
    rw [Int64.toBitVec_shiftRight, BitVec.sshiftRight', sh64c k h, BitVec.toInt_sshiftRight]
    show (i64 a).toInt >>> k = _
    rw [i64_toInt ha, Int.shiftRight_eq_div_pow]
    rfl
  rw [i64_of (i64 a >>> ((i32 (k : Int)).toInt64 &&& 63)), h2]
theorem i32_shl (a : Int) {k : Nat} (h : k < 32) : i32 a <<< (i32 (k : Int) &&& 31) = i32 (a * 2 ^ k) := by
  apply Int32.toBitVec_inj.1
  rw [Int32.toBitVec_shiftLeft, BitVec.shiftLeft_eq', sh32c k h]
  apply BitVec.eq_of_toNat_eq
  simp only [i32, Int32.toBitVec_ofInt, BitVec.toNat_shiftLeft, BitVec.toNat_ofInt, Nat.shiftLeft_eq]
  have h9 : ((2 ^ 32 : Nat) : Int) = 4294967296 := rfl
  rw [h9]
  have h3 : (((a % 4294967296).toNat * 2 ^ k % 2 ^ 32 : Nat) : Int) = (((a * 2 ^ k) % 4294967296).toNat : Int) := by
    rw [Int.toNat_of_nonneg (Int.emod_nonneg _ (by decide)), Int.natCast_emod, Int.natCast_mul, Int.toNat_of_nonneg (Int.emod_nonneg _ (by decide)), h9, Int.natCast_pow]
    show a % 4294967296 * 2 ^ k % 4294967296 = _
    rw [Int.mul_emod, Int.emod_emod_of_dvd _ (Int.dvd_refl _), ← Int.mul_emod]
  exact Int.ofNat.inj h3
theorem iT_lt {a b : Int} (h : a < b) : (a < b) = True := eq_true h
theorem iF_lt {a b : Int} (h : b ≤ a) : (a < b) = False := eq_false (by omega)
theorem iT_le {a b : Int} (h : a ≤ b) : (a ≤ b) = True := eq_true h
theorem iF_le {a b : Int} (h : b < a) : (a ≤ b) = False := eq_false (by omega)
theorem iT_eq {a b : Int} (h : a = b) : (a = b) = True := eq_true h
theorem iF_eq {a b : Int} (h : a < b ∨ b < a) : (a = b) = False := eq_false (by omega)
theorem nT_lt {a b : Nat} (h : a < b) : (a < b) = True := eq_true h
theorem nF_lt {a b : Nat} (h : b ≤ a) : (a < b) = False := eq_false (by omega)
theorem nT_le {a b : Nat} (h : a ≤ b) : (a ≤ b) = True := eq_true h
theorem nF_le {a b : Nat} (h : b < a) : (a ≤ b) = False := eq_false (by omega)
theorem nT_eq {a b : Nat} (h : a = b) : (a = b) = True := eq_true h
theorem nF_eq {a b : Nat} (h : a < b ∨ b < a) : (a = b) = False := eq_false (by omega)
/-! the state -/
theorem sI_2 (σ : hSt) (r j : Nat) (v : Int32) : (sI σ r j v).2 = σ.2 := rfl
theorem sJ_1 (σ : hSt) (r j : Nat) (v : Int64) : (sJ σ r j v).1 = σ.1 := rfl
theorem sJ_22 (σ : hSt) (r j : Nat) (v : Int64) : (sJ σ r j v).2.2 = σ.2.2 := rfl
theorem sR_1 (σ : hSt) (r j : Nat) (v : Option Nat) : (sR σ r j v).1 = σ.1 := rfl
theorem sR_21 (σ : hSt) (r j : Nat) (v : Option Nat) : (sR σ r j v).2.1 = σ.2.1 := rfl
theorem sI_t (σ : hSt) {r j r2 j2 : Nat} (v : Int32) (h : r2 = r ∧ j2 = j) : (sI σ r j v).1 r2 j2 = v := by
  obtain ⟨rfl, rfl⟩ := h
  simp [sI, va_up, upd]
theorem sI_r (σ : hSt) {r j r2 : Nat} (v : Int32) (h : r2 < r ∨ r < r2) : (sI σ r j v).1 r2 = σ.1 r2 := by
  have : r2 ≠ r := by omega
  simp [sI, va_up, this]
theorem sI_j (σ : hSt) {r j r2 j2 : Nat} (v : Int32) (h : j2 < j ∨ j < j2) : (sI σ r j v).1 r2 j2 = σ.1 r2 j2 := by
  have : j2 ≠ j := by omega
  by_cases hr : r2 = r
  · subst hr
    simp [sI, va_up, upd, this]
  · simp [sI, va_up, upd, hr]
theorem sJ_t (σ : hSt) {r j r2 j2 : Nat} (v : Int64) (h : r2 = r ∧ j2 = j) : (sJ σ r j v).2.1 r2 j2 = v := by
  obtain ⟨rfl, rfl⟩ := h
  simp [sJ, va_up, vp_updL]
theorem sJ_r (σ : hSt) {r j r2 : Nat} (v : Int64) (h : r2 < r ∨ r < r2) : (sJ σ r j v).2.1 r2 = σ.2.1 r2 := by
  have : r2 ≠ r := by omega
  simp [sJ, va_up, this]
theorem sJ_j (σ : hSt) {r j r2 j2 : Nat} (v : Int64) (h : j2 < j ∨ j < j2) : (sJ σ r j v).2.1 r2 j2 = σ.2.1 r2 j2 := by
  have : j2 ≠ j := by omega
  by_cases hr : r2 = r
  · subst hr
    simp [sJ, va_up, vp_updL, this]
  · simp [sJ, va_up, vp_updL, hr]
theorem sR_t (σ : hSt) {r j r2 j2 : Nat} (v : Option Nat) (h : r2 = r ∧ j2 = j) : (sR σ r j v).2.2 r2 j2 = v := by
  obtain ⟨rfl, rfl⟩ := h
  simp [sR, va_up]
theorem sR_r (σ : hSt) {r j r2 : Nat} (v : Option Nat) (h : r2 < r ∨ r < r2) : (sR σ r j v).2.2 r2 = σ.2.2 r2 := by
  have : r2 ≠ r := by omega
  simp [sR, va_up, this]
theorem sR_j (σ : hSt) {r j r2 j2 : Nat} (v : Option Nat) (h : j2 < j ∨ j < j2) : (sR σ r j v).2.2 r2 j2 = σ.2.2 r2 j2 := by
  have : j2 ≠ j := by omega
  by_cases hr : r2 = r
  · subst hr
    simp [sR, va_up, this]
  · simp [sR, va_up, hr]
theorem i32_lit0 : (0 : Int32) = i32 0 := rfl
theorem i64_lit0 : (0 : Int64) = i64 0 := rfl
theorem i32_lit (n : Nat) : (no_index (OfNat.ofNat n : Int32)) = i32 (no_index (OfNat.ofNat n : Int)) := (Int32.ofInt_eq_ofNat (n := n)).symm
theorem i64_lit (n : Nat) : (no_index (OfNat.ofNat n : Int64)) = i64 (no_index (OfNat.ofNat n : Int)) := (Int64.ofInt_eq_ofNat (n := n)).symm
example (x : Int) (h : 3 ≤ x ∧ x < 200) : (if i32 x + 5 < (4 : Int32) then (1 : Int32) else -7) = i32 (-7) := by
  simp (disch := omega) only [↓reduceIte, i32_lit, i32_add, i32_neg, i32_lt, iT_lt, iF_lt]
