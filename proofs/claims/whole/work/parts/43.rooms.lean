/-! MENDED, LEAST CAUGHT -/
def mdB (b z m : Nat) : Nat := nS (fun v => (b / 2 ^ (z ^^^ v) + b / 2 ^ v) % 2) m
theorem mdB_le (b z m : Nat) : mdB b z m ≤ m := by
  have := nS_le (f := fun v => (b / 2 ^ (z ^^^ v) + b / 2 ^ v) % 2) (c := 1) (fun v => by omega) m
  unfold mdB; omega
theorem p_md {b k z : Nat} (hb : b < 65536) (hk : k ≤ 4) (hz : z < 2 ^ k) (K : Int32 → Option Int32) : ∀ (n v N : Nat), v + n = 2 ^ k → n < N → f_X6_mendedCell_L5 (i32 (k : Int)) (i32 (b : Int)) (i32 (z : Int)) K N (i32 (mdB b z v : Int)) (i32 (v : Int)) = K (i32 (mdB b z (2 ^ k) : Int)) := by
  intro n
  induction n with
  | zero =>
    intro v N hv hN
    obtain ⟨N, rfl⟩ : ∃ q, N = q + 1 := ⟨N - 1, by omega⟩
    obtain rfl : v = 2 ^ k := by omega
    rw [f_X6_mendedCell_L5, sh1k hk, if_pos (Int32.le_refl _)]
  | succ n ihn =>
    intro v N hv hN
    obtain ⟨N, rfl⟩ : ∃ q, N = q + 1 := ⟨N - 1, by omega⟩
    have h16 := pw4 hk
    have hx := xor16 (show z < 16 by omega) (show v < 16 by omega)
    have ih := ihn (v + 1) N (by omega) (by omega)
    have e2 : (i32 (v : Int) + 1) = i32 ((v + 1 : Nat) : Int) := by rw [i32_lit, i32_add]; rfl
    rw [← ih, f_X6_mendedCell_L5, sh1k hk, i32_xor, shN hb (by omega), shN hb (by omega), i32_xor, and1N, xor2, if_neg (by rw [i32_le (by omega)]; omega), e2, i32_add]
    rfl
theorem p_mmd {b k z : Nat} (hb : b < 65536) (hk : k ≤ 4) (hz : z < 2 ^ k) (K : Int32 → Option (Int32 × hSt)) : ∀ (n v N : Nat), v + n = 2 ^ k → n < N → f_X12_mended_L36 (i32 (k : Int)) (i32 (b : Int)) (i32 (z : Int)) K N (i32 (mdB b z v : Int)) (i32 (v : Int)) = K (i32 (mdB b z (2 ^ k) : Int)) := by
  intro n
  induction n with
  | zero =>
    intro v N hv hN
    obtain ⟨N, rfl⟩ : ∃ q, N = q + 1 := ⟨N - 1, by omega⟩
    obtain rfl : v = 2 ^ k := by omega
    rw [f_X12_mended_L36, sh1k hk, if_pos (Int32.le_refl _)]
  | succ n ihn =>
    intro v N hv hN
    obtain ⟨N, rfl⟩ : ∃ q, N = q + 1 := ⟨N - 1, by omega⟩
    have h16 := pw4 hk
    have hx := xor16 (show z < 16 by omega) (show v < 16 by omega)
    have ih := ihn (v + 1) N (by omega) (by omega)
    have e2 : (i32 (v : Int) + 1) = i32 ((v + 1 : Nat) : Int) := by rw [i32_lit, i32_add]; rfl
    have e3 : (b / 2 ^ (z ^^^ v) % 2 + b / 2 ^ v % 2) % 2 = (b / 2 ^ (z ^^^ v) + b / 2 ^ v) % 2 := by omega
    rw [← ih, f_X12_mended_L36, sh1k hk, i32_xor, p_cell hb (by omega), obs, p_cell hb (by omega), obs, x01 (by omega) (by omega), e3, if_neg (by rw [i32_le (by omega)]; omega), e2, i32_add]
    rfl
theorem sh1kk {k : Nat} (hk : k ≤ 4) : (1 : Int32) <<< (((1 : Int32) <<< (i32 (k : Int) &&& 31)) &&& 31) = i32 ((2 ^ (2 ^ k) : Nat) : Int) := by
  have h := pw4 hk
  rw [sh1k hk, show (1 : Int32) = i32 1 from rfl, i32_shl _ (by omega)]
  congr 1
  rw [Int.one_mul, Int.natCast_pow]
  rfl
/-- the first of the books that are caught by the fewest pairs, and by how many; none: -1 -/
def lcF (k : Nat) : Nat → Option Nat
  | 0 => none
  | b + 1 => if CB b k = 0 then lcF k b else match lcF k b with
    | none => some b
    | some a => if CB b k < CB a k then some b else some a
def oI (o : Option Nat) : Int := match o with
  | none => -1
  | some a => (a : Int)
theorem lcF_lt (k : Nat) : ∀ b a, lcF k b = some a → a < b ∧ CB a k ≠ 0
  | 0, a, h => by simp [lcF] at h
  | b + 1, a, h => by
    rw [lcF] at h
    by_cases c : CB b k = 0
    · rw [if_pos c] at h
      have := lcF_lt k b a h
      omega
    · rw [if_neg c] at h
      cases ho : lcF k b with
      | none =>
        rw [ho] at h
        cases h
        omega
      | some x =>
        rw [ho] at h
        have := lcF_lt k b x ho
        by_cases c2 : CB b k < CB x k
        · simp only [c2, if_true] at h
          cases h; omega
        · simp only [c2, if_false] at h
          cases h; omega
def lcV (k : Nat) (o : Option Nat) : Int := match o with
  | none => 2 ^ k * 2 ^ k + 1
  | some a => (CB a k : Int)
theorem pw8 {k : Nat} (hk : k ≤ 3) : 2 ^ k ≤ 8 ∧ 2 ^ 2 ^ k ≤ 256 := by
  have : 2 ^ k ≤ 2 ^ 3 := Nat.pow_le_pow_right (by decide) hk
  have h8 : 2 ^ k ≤ 8 := by simpa using this
  have : 2 ^ 2 ^ k ≤ 2 ^ 8 := Nat.pow_le_pow_right (by decide) h8
  exact ⟨h8, by simpa using this⟩
theorem CB_64 {k : Nat} (hk : k ≤ 3) (b : Nat) : CB b k ≤ 64 := by
  have h := CB_le b k
  have h8 := (pw8 hk).1
  have : 2 ^ k * 2 ^ k ≤ 8 * 8 := Nat.mul_le_mul h8 h8
  omega
theorem p_lc_L {F k : Nat} (hF : 300 ≤ F) (hk : k ≤ 3) : ∀ (n b N : Nat), b + n = 2 ^ 2 ^ k → n < N → f_X6_leastCaughtBook_L14 F (i32 (k : Int)) N (i32 (oI (lcF k b))) (i32 (lcV k (lcF k b))) (i32 (b : Int)) = some (i32 (oI (lcF k (2 ^ 2 ^ k)))) := by
  intro n
  induction n with
  | zero =>
    intro b N hb hN
    obtain ⟨N, rfl⟩ : ∃ q, N = q + 1 := ⟨N - 1, by omega⟩
    obtain rfl : b = 2 ^ 2 ^ k := by omega
    rw [f_X6_leastCaughtBook_L14, sh1kk (by omega), if_pos (Int32.le_refl _)]
  | succ n ihn =>
    intro b N hb hN
    obtain ⟨N, rfl⟩ : ∃ q, N = q + 1 := ⟨N - 1, by omega⟩
    obtain ⟨h8, h256⟩ := pw8 hk
    have ih := ihn (b + 1) N (by omega) (by omega)
    have e2 : (i32 (b : Int) + 1) = i32 ((b + 1 : Nat) : Int) := by rw [i32_lit, i32_add]; rfl
    have hc := CB_64 hk b
    have hcl := CB_le b k
    rw [← ih, f_X6_leastCaughtBook_L14, sh1kk (by omega), if_neg (by rw [i32_le (by omega)]; omega), p_pc hF (show b < 65536 by omega) (by omega), obs, e2]
    have h0 : (2 ^ k * 2 ^ k : Int) = ((2 ^ k * 2 ^ k : Nat) : Int) := by rw [Int.natCast_mul, Int.natCast_pow]; rfl
    have h64 : 2 ^ k * 2 ^ k ≤ 8 * 8 := Nat.mul_le_mul h8 h8
    rw [lcF]
    by_cases c : CB b k = 0
    · rw [if_pos c]
      simp (disch := omega) only [↓reduceIte, iT_lt, iF_lt, iT_le, iF_le, iT_eq, iF_eq, nT_lt, nF_lt, nT_le, nF_le, nT_eq, nF_eq, and_self, and_true, true_and, and_false, false_and, not_true_eq_false, not_false_eq_true, ne_eq, or_self, or_false, false_or, or_true, true_or, Option.bind_some, i32_lit, i64_lit, i32_add, i32_sub, i32_mul, i32_neg, i64_add, i64_sub, i64_neg, i32_lt, i32_le, i32_eq, i64_lt, i64_le, i64_eq, i32_cn, i32_cl, i32_l, i64_i, i32_nat, Int.toNat_natCast, sI_2, sJ_1, sJ_22, sR_1, sR_21, sI_t, sI_r, sI_j, sJ_t, sJ_r, sJ_j, sR_t, sR_r, sR_j]
    · rw [if_neg c]
      cases ho : lcF k b with
      | none =>
        simp only [lcV, oI, h0]
        simp (disch := omega) only [↓reduceIte, iT_lt, iF_lt, iT_le, iF_le, iT_eq, iF_eq, nT_lt, nF_lt, nT_le, nF_le, nT_eq, nF_eq, and_self, and_true, true_and, and_false, false_and, not_true_eq_false, not_false_eq_true, ne_eq, or_self, or_false, false_or, or_true, true_or, Option.bind_some, i32_lit, i64_lit, i32_add, i32_sub, i32_mul, i32_neg, i64_add, i64_sub, i64_neg, i32_lt, i32_le, i32_eq, i64_lt, i64_le, i64_eq, i32_cn, i32_cl, i32_l, i64_i, i32_nat, Int.toNat_natCast, sI_2, sJ_1, sJ_22, sR_1, sR_21, sI_t, sI_r, sI_j, sJ_t, sJ_r, sJ_j, sR_t, sR_r, sR_j]
      | some a =>
        have ha := lcF_lt k b a ho
        have hca := CB_64 hk a
        by_cases c2 : CB b k < CB a k
        · simp only [lcV, oI, c2, if_true]
          simp (disch := omega) only [↓reduceIte, iT_lt, iF_lt, iT_le, iF_le, iT_eq, iF_eq, nT_lt, nF_lt, nT_le, nF_le, nT_eq, nF_eq, and_self, and_true, true_and, and_false, false_and, not_true_eq_false, not_false_eq_true, ne_eq, or_self, or_false, false_or, or_true, true_or, Option.bind_some, i32_lit, i64_lit, i32_add, i32_sub, i32_mul, i32_neg, i64_add, i64_sub, i64_neg, i32_lt, i32_le, i32_eq, i64_lt, i64_le, i64_eq, i32_cn, i32_cl, i32_l, i64_i, i32_nat, Int.toNat_natCast, sI_2, sJ_1, sJ_22, sR_1, sR_21, sI_t, sI_r, sI_j, sJ_t, sJ_r, sJ_j, sR_t, sR_r, sR_j]
        · simp only [lcV, oI, c2, if_false]
          simp (disch := omega) only [↓reduceIte, iT_lt, iF_lt, iT_le, iF_le, iT_eq, iF_eq, nT_lt, nF_lt, nT_le, nF_le, nT_eq, nF_eq, and_self, and_true, true_and, and_false, false_and, not_true_eq_false, not_false_eq_true, ne_eq, or_self, or_false, false_or, or_true, true_or, Option.bind_some, i32_lit, i64_lit, i32_add, i32_sub, i32_mul, i32_neg, i64_add, i64_sub, i64_neg, i32_lt, i32_le, i32_eq, i64_lt, i64_le, i64_eq, i32_cn, i32_cl, i32_l, i64_i, i32_nat, Int.toNat_natCast, sI_2, sJ_1, sJ_22, sR_1, sR_21, sI_t, sI_r, sI_j, sJ_t, sJ_r, sJ_j, sR_t, sR_r, sR_j]
theorem p_lc {F k : Nat} (hF : 300 ≤ F) (hk : k ≤ 3) : f_X6_leastCaughtBook F (i32 (k : Int)) = some (i32 (oI (lcF k (2 ^ 2 ^ k)))) := by
  have h := p_lc_L hF hk (2 ^ 2 ^ k) 0 F (by omega) (by have := (pw8 hk).2; omega)
  unfold f_X6_leastCaughtBook
  rw [sh1k (by omega), i32_mul, i32_lit, i32_add, i32_neg]
  have h0 : (((2 ^ k : Nat) : Int) * ((2 ^ k : Nat) : Int) + 1) = lcV k none := by
    unfold lcV; rw [Int.natCast_pow]; rfl
  rw [h0]
  exact h
theorem p_mlc {F k w : Nat} (hF : 300 ≤ F) (hk : k ≤ 3) (K : Int32 → Option (Int32 × hSt)) : ∀ (n b N : Nat), b + n = 2 ^ 2 ^ k → n < N → f_X12_least_L34 F (i32 (k : Int)) (i32 (w : Int)) K N (i32 (oI (lcF k b))) (i32 (b : Int)) = K (i32 (oI (lcF k (2 ^ 2 ^ k)))) := by
  intro n
  induction n with
  | zero =>
    intro b N hb hN
    obtain ⟨N, rfl⟩ : ∃ q, N = q + 1 := ⟨N - 1, by omega⟩
    obtain rfl : b = 2 ^ 2 ^ k := by omega
    rw [f_X12_least_L34, sh1kk (by omega), if_pos (Int32.le_refl _)]
  | succ n ihn =>
    intro b N hb hN
    obtain ⟨N, rfl⟩ : ∃ q, N = q + 1 := ⟨N - 1, by omega⟩
    obtain ⟨h8, h256⟩ := pw8 hk
    have ih := ihn (b + 1) N (by omega) (by omega)
    have e2 : (i32 (b : Int) + 1) = i32 ((b + 1 : Nat) : Int) := by rw [i32_lit, i32_add]; rfl
    have hc := CB_64 hk b
    rw [← ih, f_X12_least_L34, sh1kk (by omega), if_neg (by rw [i32_le (by omega)]; omega), p_cb hF (show b < 65536 by omega) (by omega), obs, e2]
    rw [lcF]
    by_cases c : CB b k = 0
    · rw [if_pos c]
      simp (disch := omega) only [↓reduceIte, iT_lt, iF_lt, iT_le, iF_le, iT_eq, iF_eq, nT_lt, nF_lt, nT_le, nF_le, nT_eq, nF_eq, and_self, and_true, true_and, and_false, false_and, not_true_eq_false, not_false_eq_true, ne_eq, or_self, or_false, false_or, or_true, true_or, Option.bind_some, i32_lit, i64_lit, i32_add, i32_sub, i32_mul, i32_neg, i64_add, i64_sub, i64_neg, i32_lt, i32_le, i32_eq, i64_lt, i64_le, i64_eq, i32_cn, i32_cl, i32_l, i64_i, i32_nat, Int.toNat_natCast, sI_2, sJ_1, sJ_22, sR_1, sR_21, sI_t, sI_r, sI_j, sJ_t, sJ_r, sJ_j, sR_t, sR_r, sR_j]
    · rw [if_neg c]
      cases ho : lcF k b with
      | none =>
        simp only [oI]
        simp (disch := omega) only [↓reduceIte, iT_lt, iF_lt, iT_le, iF_le, iT_eq, iF_eq, nT_lt, nF_lt, nT_le, nF_le, nT_eq, nF_eq, and_self, and_true, true_and, and_false, false_and, not_true_eq_false, not_false_eq_true, ne_eq, or_self, or_false, false_or, or_true, true_or, Option.bind_some, i32_lit, i64_lit, i32_add, i32_sub, i32_mul, i32_neg, i64_add, i64_sub, i64_neg, i32_lt, i32_le, i32_eq, i64_lt, i64_le, i64_eq, i32_cn, i32_cl, i32_l, i64_i, i32_nat, Int.toNat_natCast, sI_2, sJ_1, sJ_22, sR_1, sR_21, sI_t, sI_r, sI_j, sJ_t, sJ_r, sJ_j, sR_t, sR_r, sR_j]
      | some a =>
        have ha := lcF_lt k b a ho
        have hca := CB_64 hk a
        simp only [oI]
        rw [p_cb hF (show a < 65536 by omega) (by omega), obs]
        by_cases c2 : CB b k < CB a k
        · simp only [c2, if_true]
          simp (disch := omega) only [↓reduceIte, iT_lt, iF_lt, iT_le, iF_le, iT_eq, iF_eq, nT_lt, nF_lt, nT_le, nF_le, nT_eq, nF_eq, and_self, and_true, true_and, and_false, false_and, not_true_eq_false, not_false_eq_true, ne_eq, or_self, or_false, false_or, or_true, true_or, Option.bind_some, i32_lit, i64_lit, i32_add, i32_sub, i32_mul, i32_neg, i64_add, i64_sub, i64_neg, i32_lt, i32_le, i32_eq, i64_lt, i64_le, i64_eq, i32_cn, i32_cl, i32_l, i64_i, i32_nat, Int.toNat_natCast, sI_2, sJ_1, sJ_22, sR_1, sR_21, sI_t, sI_r, sI_j, sJ_t, sJ_r, sJ_j, sR_t, sR_r, sR_j]
        · simp only [c2, if_false]
          simp (disch := omega) only [↓reduceIte, iT_lt, iF_lt, iT_le, iF_le, iT_eq, iF_eq, nT_lt, nF_lt, nT_le, nF_le, nT_eq, nF_eq, and_self, and_true, true_and, and_false, false_and, not_true_eq_false, not_false_eq_true, ne_eq, or_self, or_false, false_or, or_true, true_or, Option.bind_some, i32_lit, i64_lit, i32_add, i32_sub, i32_mul, i32_neg, i64_add, i64_sub, i64_neg, i32_lt, i32_le, i32_eq, i64_lt, i64_le, i64_eq, i32_cn, i32_cl, i32_l, i64_i, i32_nat, Int.toNat_natCast, sI_2, sJ_1, sJ_22, sR_1, sR_21, sI_t, sI_r, sI_j, sJ_t, sJ_r, sJ_j, sR_t, sR_r, sR_j]
/-! ROOMS -/
def tbN (t x y a b : Nat) : Nat := t / 2 ^ (((x * 3 + y) * 2 + a) * 2 + b) % 2
def bt2 (n x : Nat) : Nat := n / 2 ^ x % 2
theorem tbN_le (t x y a b : Nat) : tbN t x y a b ≤ 1 := by unfold tbN; omega
theorem bt2_le (n x : Nat) : bt2 n x ≤ 1 := by unfold bt2; omega
theorem btI {n x : Nat} (hn : n < 64) (hx : x < 32) : (i32 (n : Int) >>> (i32 (x : Int) &&& 31)) &&& 1 = i32 (bt2 n x : Int) := by
  rw [shN (by omega) hx, and1N]; rfl
theorem tbI {t x y a b : Nat} (ht : t < 68719476736) (hx : x < 3) (hy : y < 3) (ha : a ≤ 1) (hb : b ≤ 1) : (i64 (t : Int) >>> ((((((((i32 (x : Int) * 3) + i32 (y : Int)) * 2) + i32 (a : Int)) * 2) + i32 (b : Int)) : Int32).toInt64 &&& 63)) &&& 1 = i64 (tbN t x y a b : Int) := by
  have e : (((((i32 (x : Int) * 3) + i32 (y : Int)) * 2) + i32 (a : Int)) * 2) + i32 (b : Int) = i32 (((((x * 3 + y) * 2 + a) * 2 + b : Nat)) : Int) := by
    rw [show (3 : Int32) = i32 3 from rfl, show (2 : Int32) = i32 2 from rfl, i32_mul, i32_add, i32_mul, i32_add, i32_mul, i32_add]
    rfl
  rw [e, i64_shr (by omega) (by omega), i64_and1]
  congr 1
def agP (t f q y b : Nat) : Nat → Nat
  | 0 => 0
  | x + 1 => agP t f q y b x + (if bt2 q x = 1 ∧ tbN t x y (bt2 f x) b = 1 then 1 else 0)
theorem agP_le (t f q y b : Nat) : ∀ x, agP t f q y b x ≤ x
  | 0 => Nat.le_refl _
  | x + 1 => by
    have := agP_le t f q y b x
    rw [agP]; split <;> omega
theorem p_ag_L {t f q y b : Nat} (ht : t < 68719476736) (hf : f < 8) (hq : q < 8) (hy : y < 3) (hb : b ≤ 1) : ∀ (n x N : Nat), x + n = 3 → n < N → f_X6_agreeing_L6 (i64 (t : Int)) (i32 (f : Int)) (i32 (q : Int)) (i32 (y : Int)) (i32 (b : Int)) N (i32 (agP t f q y b x : Int)) (i32 (x : Int)) = some (i32 (agP t f q y b 3 : Int)) := by
  intro n
  induction n with
  | zero =>
    intro x N hx hN
    obtain ⟨N, rfl⟩ : ∃ q, N = q + 1 := ⟨N - 1, by omega⟩
    obtain rfl : x = 3 := by omega
    rw [f_X6_agreeing_L6]
    simp (disch := omega) only [↓reduceIte, iT_lt, iF_lt, iT_le, iF_le, iT_eq, iF_eq, nT_lt, nF_lt, nT_le, nF_le, nT_eq, nF_eq, and_self, and_true, true_and, and_false, false_and, not_true_eq_false, not_false_eq_true, ne_eq, or_self, or_false, false_or, or_true, true_or, Option.bind_some, i32_lit, i64_lit, i32_add, i32_sub, i32_mul, i32_neg, i64_add, i64_sub, i64_neg, i32_lt, i32_le, i32_eq, i64_lt, i64_le, i64_eq, i32_cn, i32_cl, i32_l, i64_i, i32_nat, Int.toNat_natCast, sI_2, sJ_1, sJ_22, sR_1, sR_21, sI_t, sI_r, sI_j, sJ_t, sJ_r, sJ_j, sR_t, sR_r, sR_j]
  | succ n ihn =>
    intro x N hx hN
    obtain ⟨N, rfl⟩ : ∃ q, N = q + 1 := ⟨N - 1, by omega⟩
    have ih := ihn (x + 1) N (by omega) (by omega)
    have e2 : (i32 (x : Int) + 1) = i32 ((x + 1 : Nat) : Int) := by rw [i32_lit, i32_add]; rfl
    have h1 := bt2_le q x
    have h2 := bt2_le f x
    have h3 := tbN_le t x y (bt2 f x) b
    rw [← ih, f_X6_agreeing_L6, btI (by omega) (by omega), btI (by omega) (by omega), tbI ht (by omega) hy h2 hb, e2, if_neg (show ¬ (3 : Int32) ≤ i32 (x : Int) by rw [show (3 : Int32) = i32 3 from rfl, i32_le (by omega)]; omega), agP]
    by_cases c1 : bt2 q x = 1
    · by_cases c2 : tbN t x y (bt2 f x) b = 1
      · simp (disch := omega) only [↓reduceIte, iT_lt, iF_lt, iT_le, iF_le, iT_eq, iF_eq, nT_lt, nF_lt, nT_le, nF_le, nT_eq, nF_eq, and_self, and_true, true_and, and_false, false_and, not_true_eq_false, not_false_eq_true, ne_eq, or_self, or_false, false_or, or_true, true_or, Option.bind_some, i32_lit, i64_lit, i32_add, i32_sub, i32_mul, i32_neg, i64_add, i64_sub, i64_neg, i32_lt, i32_le, i32_eq, i64_lt, i64_le, i64_eq, i32_cn, i32_cl, i32_l, i64_i, i32_nat, Int.toNat_natCast, sI_2, sJ_1, sJ_22, sR_1, sR_21, sI_t, sI_r, sI_j, sJ_t, sJ_r, sJ_j, sR_t, sR_r, sR_j, c1, c2]
        rfl
      · simp (disch := omega) only [↓reduceIte, iT_lt, iF_lt, iT_le, iF_le, iT_eq, iF_eq, nT_lt, nF_lt, nT_le, nF_le, nT_eq, nF_eq, and_self, and_true, true_and, and_false, false_and, not_true_eq_false, not_false_eq_true, ne_eq, or_self, or_false, false_or, or_true, true_or, Option.bind_some, i32_lit, i64_lit, i32_add, i32_sub, i32_mul, i32_neg, i64_add, i64_sub, i64_neg, i32_lt, i32_le, i32_eq, i64_lt, i64_le, i64_eq, i32_cn, i32_cl, i32_l, i64_i, i32_nat, Int.toNat_natCast, sI_2, sJ_1, sJ_22, sR_1, sR_21, sI_t, sI_r, sI_j, sJ_t, sJ_r, sJ_j, sR_t, sR_r, sR_j, c1, Nat.add_zero]
    · simp (disch := omega) only [↓reduceIte, iT_lt, iF_lt, iT_le, iF_le, iT_eq, iF_eq, nT_lt, nF_lt, nT_le, nF_le, nT_eq, nF_eq, and_self, and_true, true_and, and_false, false_and, not_true_eq_false, not_false_eq_true, ne_eq, or_self, or_false, false_or, or_true, true_or, Option.bind_some, i32_lit, i64_lit, i32_add, i32_sub, i32_mul, i32_neg, i64_add, i64_sub, i64_neg, i32_lt, i32_le, i32_eq, i64_lt, i64_le, i64_eq, i32_cn, i32_cl, i32_l, i64_i, i32_nat, Int.toNat_natCast, sI_2, sJ_1, sJ_22, sR_1, sR_21, sI_t, sI_r, sI_j, sJ_t, sJ_r, sJ_j, sR_t, sR_r, sR_j, Nat.add_zero]
theorem p_ag {F t f q y b : Nat} (hF : 300 ≤ F) (ht : t < 68719476736) (hf : f < 8) (hq : q < 8) (hy : y < 3) (hb : b ≤ 1) : f_X6_agreeing F (i64 (t : Int)) (i32 (f : Int)) (i32 (q : Int)) (i32 (y : Int)) (i32 (b : Int)) = some (i32 (agP t f q y b 3 : Int)) := p_ag_L ht hf hq hy hb 3 0 F (by omega) (by omega)
def maP (t f q : Nat) : Nat → Nat
  | 0 => 0
  | y + 1 => maP t f q y + max (agP t f q y 0 3) (agP t f q y 1 3)
theorem maP_le (t f q : Nat) : ∀ y, maP t f q y ≤ 3 * y
  | 0 => Nat.le_refl _
  | y + 1 => by
    have := maP_le t f q y
    have := agP_le t f q y 0 3
    have := agP_le t f q y 1 3
    rw [maP]; omega
theorem p_ma_L {F t f q : Nat} (hF : 300 ≤ F) (ht : t < 68719476736) (hf : f < 8) (hq : q < 8) : ∀ (n y N : Nat), y + n = 3 → n < N → f_X6_mostAgreeing_L6 F (i64 (t : Int)) (i32 (f : Int)) (i32 (q : Int)) N (i32 (maP t f q y : Int)) (i32 (y : Int)) = some (i32 (maP t f q 3 : Int)) := by
  intro n
  induction n with
  | zero =>
    intro x N hx hN
    obtain ⟨N, rfl⟩ : ∃ q, N = q + 1 := ⟨N - 1, by omega⟩
    obtain rfl : x = 3 := by omega
    rw [f_X6_mostAgreeing_L6]
    simp (disch := omega) only [↓reduceIte, iT_lt, iF_lt, iT_le, iF_le, iT_eq, iF_eq, nT_lt, nF_lt, nT_le, nF_le, nT_eq, nF_eq, and_self, and_true, true_and, and_false, false_and, not_true_eq_false, not_false_eq_true, ne_eq, or_self, or_false, false_or, or_true, true_or, Option.bind_some, i32_lit, i64_lit, i32_add, i32_sub, i32_mul, i32_neg, i64_add, i64_sub, i64_neg, i32_lt, i32_le, i32_eq, i64_lt, i64_le, i64_eq, i32_cn, i32_cl, i32_l, i64_i, i32_nat, Int.toNat_natCast, sI_2, sJ_1, sJ_22, sR_1, sR_21, sI_t, sI_r, sI_j, sJ_t, sJ_r, sJ_j, sR_t, sR_r, sR_j]
  | succ n ihn =>
    intro y N hx hN
    obtain ⟨N, rfl⟩ : ∃ q, N = q + 1 := ⟨N - 1, by omega⟩
    have ih := ihn (y + 1) N (by omega) (by omega)
    have e2 : (i32 (y : Int) + 1) = i32 ((y + 1 : Nat) : Int) := by rw [i32_lit, i32_add]; rfl
    have a0 := p_ag (F := F) hF ht hf hq (show y < 3 by omega) (b := 0) (by omega)
    have a1 := p_ag (F := F) hF ht hf hq (show y < 3 by omega) (b := 1) (by omega)
    have l0 := agP_le t f q y 0 3
    have l1 := agP_le t f q y 1 3
    rw [show ((0 : Nat) : Int) = 0 from rfl] at a0
    rw [show ((1 : Nat) : Int) = 1 from rfl] at a1
    rw [← ih, f_X6_mostAgreeing_L6, e2, maP]
    by_cases c : agP t f q y 0 3 < agP t f q y 1 3
    · rw [Nat.max_eq_right (by omega)]
      simp (disch := omega) only [↓reduceIte, iT_lt, iF_lt, iT_le, iF_le, iT_eq, iF_eq, nT_lt, nF_lt, nT_le, nF_le, nT_eq, nF_eq, and_self, and_true, true_and, and_false, false_and, not_true_eq_false, not_false_eq_true, ne_eq, or_self, or_false, false_or, or_true, true_or, Option.bind_some, i32_lit, i64_lit, i32_add, i32_sub, i32_mul, i32_neg, i64_add, i64_sub, i64_neg, i32_lt, i32_le, i32_eq, i64_lt, i64_le, i64_eq, i32_cn, i32_cl, i32_l, i64_i, i32_nat, Int.toNat_natCast, sI_2, sJ_1, sJ_22, sR_1, sR_21, sI_t, sI_r, sI_j, sJ_t, sJ_r, sJ_j, sR_t, sR_r, sR_j, a0, a1]
      rfl
    · rw [Nat.max_eq_left (by omega)]
      simp (disch := omega) only [↓reduceIte, iT_lt, iF_lt, iT_le, iF_le, iT_eq, iF_eq, nT_lt, nF_lt, nT_le, nF_le, nT_eq, nF_eq, and_self, and_true, true_and, and_false, false_and, not_true_eq_false, not_false_eq_true, ne_eq, or_self, or_false, false_or, or_true, true_or, Option.bind_some, i32_lit, i64_lit, i32_add, i32_sub, i32_mul, i32_neg, i64_add, i64_sub, i64_neg, i32_lt, i32_le, i32_eq, i64_lt, i64_le, i64_eq, i32_cn, i32_cl, i32_l, i64_i, i32_nat, Int.toNat_natCast, sI_2, sJ_1, sJ_22, sR_1, sR_21, sI_t, sI_r, sI_j, sJ_t, sJ_r, sJ_j, sR_t, sR_r, sR_j, a0, a1]
      rfl
theorem p_ma {F t f q : Nat} (hF : 300 ≤ F) (ht : t < 68719476736) (hf : f < 8) (hq : q < 8) : f_X6_mostAgreeing F (i64 (t : Int)) (i32 (f : Int)) (i32 (q : Int)) = some (i32 (maP t f q 3 : Int)) := p_ma_L hF ht hf hq 3 0 F (by omega) (by omega)
/-- the most of f 0 .. f (n - 1), and z -/
def rmx (f : Nat → Nat) (z : Nat) : Nat → Nat
  | 0 => z
  | n + 1 => max (rmx f z n) (f n)
theorem rmx_le {f : Nat → Nat} {z c : Nat} (hz : z ≤ c) : ∀ n, (∀ i, i < n → f i ≤ c) → rmx f z n ≤ c
  | 0, _ => hz
  | n + 1, h => by
    have := rmx_le hz n (fun i hi => h i (by omega))
    have := h n (by omega)
    rw [rmx]; omega
theorem rmx_ge (f : Nat → Nat) (z : Nat) : ∀ n, z ≤ rmx f z n ∧ ∀ i, i < n → f i ≤ rmx f z n
  | 0 => ⟨Nat.le_refl _, fun i hi => absurd hi (Nat.not_lt_zero i)⟩
  | n + 1 => by
    obtain ⟨h1, h2⟩ := rmx_ge f z n
    rw [rmx]
    refine ⟨by omega, fun i hi => ?_⟩
    by_cases e : i = n
    · subst e; omega
    · have := h2 i (by omega)
      omega
theorem rmx_top {f : Nat → Nat} {z T n : Nat} (h1 : ∀ i, i < n → f i ≤ T) (h2 : ∃ i, i < n ∧ f i = T) : rmx f z n = max z T := by
  obtain ⟨g1, g2⟩ := rmx_ge f z n
  obtain ⟨i, hi, hT⟩ := h2
  have a := g2 i hi
  have b := rmx_le (f := f) (z := z) (c := max z T) (by omega) n (fun i hi => by have := h1 i hi; omega)
  omega
theorem rmx_cong {f g : Nat → Nat} {z : Nat} : ∀ n, (∀ i, i < n → f i = g i) → rmx f z n = rmx g z n
  | 0, _ => rfl
  | n + 1, h => by rw [rmx, rmx, rmx_cong n (fun i hi => h i (by omega)), h n (by omega)]
def talS (t : Nat) : Nat := rmx (fun f => maP t f 7 3) 0 8
def wdS (t f z : Nat) : Nat := rmx (fun w => maP t f w 3 + maP t f (7 - w) 3) z 8
def worS (t : Nat) : Nat → Nat
  | 0 => 0
  | f + 1 => wdS t f (worS t f)
theorem p_tal_L {F t : Nat} (hF : 300 ≤ F) (ht : t < 68719476736) : ∀ (n f N : Nat), f + n = 8 → n < N → f_X6_mostTales_L4 F (i64 (t : Int)) N (i32 (rmx (fun f => maP t f 7 3) 0 f : Int)) (i32 (f : Int)) = some (i32 (talS t : Int)) := by
  intro n
  induction n with
  | zero =>
    intro x N hx hN
    obtain ⟨N, rfl⟩ : ∃ q, N = q + 1 := ⟨N - 1, by omega⟩
    obtain rfl : x = 8 := by omega
    rw [f_X6_mostTales_L4]
    simp (disch := omega) only [↓reduceIte, iT_lt, iF_lt, iT_le, iF_le, iT_eq, iF_eq, nT_lt, nF_lt, nT_le, nF_le, nT_eq, nF_eq, and_self, and_true, true_and, and_false, false_and, not_true_eq_false, not_false_eq_true, ne_eq, or_self, or_false, false_or, or_true, true_or, Option.bind_some, i32_lit, i64_lit, i32_add, i32_sub, i32_mul, i32_neg, i64_add, i64_sub, i64_neg, i32_lt, i32_le, i32_eq, i64_lt, i64_le, i64_eq, i32_cn, i32_cl, i32_l, i64_i, i32_nat, Int.toNat_natCast, sI_2, sJ_1, sJ_22, sR_1, sR_21, sI_t, sI_r, sI_j, sJ_t, sJ_r, sJ_j, sR_t, sR_r, sR_j]
    rfl
  | succ n ihn =>
    intro f N hx hN
    obtain ⟨N, rfl⟩ : ∃ q, N = q + 1 := ⟨N - 1, by omega⟩
    have ih := ihn (f + 1) N (by omega) (by omega)
    have e2 : (i32 (f : Int) + 1) = i32 ((f + 1 : Nat) : Int) := by rw [i32_lit, i32_add]; rfl
    have a := p_ma (F := F) hF ht (show f < 8 by omega) (q := 7) (by omega)
    rw [show ((7 : Nat) : Int) = 7 from rfl] at a
    have l := maP_le t f 7 3
    have l2 := rmx_le (f := fun f => maP t f 7 3) (z := 0) (c := 9) (by omega) f (fun i _ => maP_le t i 7 3)
    rw [← ih, f_X6_mostTales_L4, e2, rmx]
    by_cases c : rmx (fun f => maP t f 7 3) 0 f < maP t f 7 3
    · rw [Nat.max_eq_right (by omega)]
      simp (disch := omega) only [↓reduceIte, iT_lt, iF_lt, iT_le, iF_le, iT_eq, iF_eq, nT_lt, nF_lt, nT_le, nF_le, nT_eq, nF_eq, and_self, and_true, true_and, and_false, false_and, not_true_eq_false, not_false_eq_true, ne_eq, or_self, or_false, false_or, or_true, true_or, Option.bind_some, i32_lit, i64_lit, i32_add, i32_sub, i32_mul, i32_neg, i64_add, i64_sub, i64_neg, i32_lt, i32_le, i32_eq, i64_lt, i64_le, i64_eq, i32_cn, i32_cl, i32_l, i64_i, i32_nat, Int.toNat_natCast, sI_2, sJ_1, sJ_22, sR_1, sR_21, sI_t, sI_r, sI_j, sJ_t, sJ_r, sJ_j, sR_t, sR_r, sR_j, a]
    · rw [Nat.max_eq_left (by omega)]
      simp (disch := omega) only [↓reduceIte, iT_lt, iF_lt, iT_le, iF_le, iT_eq, iF_eq, nT_lt, nF_lt, nT_le, nF_le, nT_eq, nF_eq, and_self, and_true, true_and, and_false, false_and, not_true_eq_false, not_false_eq_true, ne_eq, or_self, or_false, false_or, or_true, true_or, Option.bind_some, i32_lit, i64_lit, i32_add, i32_sub, i32_mul, i32_neg, i64_add, i64_sub, i64_neg, i32_lt, i32_le, i32_eq, i64_lt, i64_le, i64_eq, i32_cn, i32_cl, i32_l, i64_i, i32_nat, Int.toNat_natCast, sI_2, sJ_1, sJ_22, sR_1, sR_21, sI_t, sI_r, sI_j, sJ_t, sJ_r, sJ_j, sR_t, sR_r, sR_j, a]
theorem p_tal {F t : Nat} (hF : 300 ≤ F) (ht : t < 68719476736) : f_X6_mostTales F (i64 (t : Int)) = some (i32 (talS t : Int)) := p_tal_L hF ht 8 0 F (by omega) (by omega)
theorem p_wd {F t f z : Nat} (hF : 300 ≤ F) (ht : t < 68719476736) (hf : f < 8) (hz : z ≤ 18) (K : Int32 → Option Int32) : ∀ (n w N : Nat), w + n = 8 → n < N → f_X6_mostByWord_L13 F (i64 (t : Int)) (i32 (f : Int)) K N (i32 (rmx (fun w => maP t f w 3 + maP t f (7 - w) 3) z w : Int)) (i32 (w : Int)) = K (i32 (wdS t f z : Int)) := by
  intro n
  induction n with
  | zero =>
    intro x N hx hN
    obtain ⟨N, rfl⟩ : ∃ q, N = q + 1 := ⟨N - 1, by omega⟩
    obtain rfl : x = 8 := by omega
    rw [f_X6_mostByWord_L13]
    simp (disch := omega) only [↓reduceIte, iT_lt, iF_lt, iT_le, iF_le, iT_eq, iF_eq, nT_lt, nF_lt, nT_le, nF_le, nT_eq, nF_eq, and_self, and_true, true_and, and_false, false_and, not_true_eq_false, not_false_eq_true, ne_eq, or_self, or_false, false_or, or_true, true_or, Option.bind_some, i32_lit, i64_lit, i32_add, i32_sub, i32_mul, i32_neg, i64_add, i64_sub, i64_neg, i32_lt, i32_le, i32_eq, i64_lt, i64_le, i64_eq, i32_cn, i32_cl, i32_l, i64_i, i32_nat, Int.toNat_natCast, sI_2, sJ_1, sJ_22, sR_1, sR_21, sI_t, sI_r, sI_j, sJ_t, sJ_r, sJ_j, sR_t, sR_r, sR_j]
    rfl
  | succ n ihn =>
    intro w N hx hN
    obtain ⟨N, rfl⟩ : ∃ q, N = q + 1 := ⟨N - 1, by omega⟩
    have ih := ihn (w + 1) N (by omega) (by omega)
    have e2 : (i32 (w : Int) + 1) = i32 ((w + 1 : Nat) : Int) := by rw [i32_lit, i32_add]; rfl
    have a := p_ma (F := F) hF ht hf (q := w) (by omega)
    have b := p_ma (F := F) hF ht hf (q := 7 - w) (by omega)
    have e7 : (7 : Int) - (w : Int) = ((7 - w : Nat) : Int) := by omega
    have l := maP_le t f w 3
    have l1 := maP_le t f (7 - w) 3
    have l2 := rmx_le (f := fun w => maP t f w 3 + maP t f (7 - w) 3) (z := z) (c := 18) hz w (fun i _ => by have := maP_le t f i 3; have := maP_le t f (7 - i) 3; omega)
    rw [← ih, f_X6_mostByWord_L13, e2, rmx]
    by_cases c : rmx (fun w => maP t f w 3 + maP t f (7 - w) 3) z w < maP t f w 3 + maP t f (7 - w) 3
    · rw [Nat.max_eq_right (by omega)]
      simp (disch := omega) only [↓reduceIte, iT_lt, iF_lt, iT_le, iF_le, iT_eq, iF_eq, nT_lt, nF_lt, nT_le, nF_le, nT_eq, nF_eq, and_self, and_true, true_and, and_false, false_and, not_true_eq_false, not_false_eq_true, ne_eq, or_self, or_false, false_or, or_true, true_or, Option.bind_some, i32_lit, i64_lit, i32_add, i32_sub, i32_mul, i32_neg, i64_add, i64_sub, i64_neg, i32_lt, i32_le, i32_eq, i64_lt, i64_le, i64_eq, i32_cn, i32_cl, i32_l, i64_i, i32_nat, Int.toNat_natCast, sI_2, sJ_1, sJ_22, sR_1, sR_21, sI_t, sI_r, sI_j, sJ_t, sJ_r, sJ_j, sR_t, sR_r, sR_j, a, e7, b]
      rfl
    · rw [Nat.max_eq_left (by omega)]
      simp (disch := omega) only [↓reduceIte, iT_lt, iF_lt, iT_le, iF_le, iT_eq, iF_eq, nT_lt, nF_lt, nT_le, nF_le, nT_eq, nF_eq, and_self, and_true, true_and, and_false, false_and, not_true_eq_false, not_false_eq_true, ne_eq, or_self, or_false, false_or, or_true, true_or, Option.bind_some, i32_lit, i64_lit, i32_add, i32_sub, i32_mul, i32_neg, i64_add, i64_sub, i64_neg, i32_lt, i32_le, i32_eq, i64_lt, i64_le, i64_eq, i32_cn, i32_cl, i32_l, i64_i, i32_nat, Int.toNat_natCast, sI_2, sJ_1, sJ_22, sR_1, sR_21, sI_t, sI_r, sI_j, sJ_t, sJ_r, sJ_j, sR_t, sR_r, sR_j, a, e7, b]
theorem wdS_le (t f : Nat) {z : Nat} (hz : z ≤ 18) : wdS t f z ≤ 18 := rmx_le hz 8 (fun i _ => by have := maP_le t f i 3; have := maP_le t f (7 - i) 3; omega)
theorem worS_le (t : Nat) : ∀ f, worS t f ≤ 18
  | 0 => by simp [worS]
  | f + 1 => wdS_le t f (worS_le t f)
theorem p_wor_L {F t : Nat} (hF : 300 ≤ F) (ht : t < 68719476736) : ∀ (n f N : Nat), f + n = 8 → n < N → f_X6_mostByWord_L4 F (i64 (t : Int)) N (i32 (worS t f : Int)) (i32 (f : Int)) = some (i32 (worS t 8 : Int)) := by
  intro n
  induction n with
  | zero =>
    intro x N hx hN
    obtain ⟨N, rfl⟩ : ∃ q, N = q + 1 := ⟨N - 1, by omega⟩
    obtain rfl : x = 8 := by omega
    rw [f_X6_mostByWord_L4]
    simp (disch := omega) only [↓reduceIte, iT_lt, iF_lt, iT_le, iF_le, iT_eq, iF_eq, nT_lt, nF_lt, nT_le, nF_le, nT_eq, nF_eq, and_self, and_true, true_and, and_false, false_and, not_true_eq_false, not_false_eq_true, ne_eq, or_self, or_false, false_or, or_true, true_or, Option.bind_some, i32_lit, i64_lit, i32_add, i32_sub, i32_mul, i32_neg, i64_add, i64_sub, i64_neg, i32_lt, i32_le, i32_eq, i64_lt, i64_le, i64_eq, i32_cn, i32_cl, i32_l, i64_i, i32_nat, Int.toNat_natCast, sI_2, sJ_1, sJ_22, sR_1, sR_21, sI_t, sI_r, sI_j, sJ_t, sJ_r, sJ_j, sR_t, sR_r, sR_j]
  | succ n ihn =>
    intro f N hx hN
    obtain ⟨N, rfl⟩ : ∃ q, N = q + 1 := ⟨N - 1, by omega⟩
    have ih := ihn (f + 1) N (by omega) (by omega)
    have e2 : (i32 (f : Int) + 1) = i32 ((f + 1 : Nat) : Int) := by rw [i32_lit, i32_add]; rfl
    rw [← ih, f_X6_mostByWord_L4, e2, if_neg (by rw [show (7 : Int32) = i32 7 from rfl, i32_lt (by omega)]; omega)]
    exact p_wd hF ht (show f < 8 by omega) (worS_le t f) (fun z2 => f_X6_mostByWord_L4 F (i64 (t : Int)) N z2 (i32 ((f + 1 : Nat) : Int))) 8 0 F (by omega) (by omega)
theorem p_wor {F t : Nat} (hF : 300 ≤ F) (ht : t < 68719476736) : f_X6_mostByWord F (i64 (t : Int)) = some (i32 (worS t 8 : Int)) := p_wor_L hF ht 8 0 F (by omega) (by omega)
