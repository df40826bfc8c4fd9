/-! ALIKE, UNLIKE; draws -/
def alk (n1 e1 n2 e2 : Nat) : Option (Nat → Nat) := if n1 = n2 then goS n1 e1 e2 n1 0 0 (fun _ => 0) else none
/-- a thing is a net -/
def netH (Z : hZ) (r n ed : Nat) : Prop := 2 ≤ n ∧ n ≤ 6 ∧ ed < 32768 ∧ Z.2.2.1 r 0 = i32 (n : Int) ∧ Z.2.2.1 r 1 = i32 (ed : Int)
def netM (τ : hSt) (i n ed : Nat) : Prop := i < 12 ∧ 2 ≤ n ∧ n ≤ 6 ∧ ed < 32768 ∧ τ.1 222 i = i32 (n : Int) ∧ τ.1 223 i = i32 (ed : Int)
def b01 (b : Bool) : Int32 := if b then 1 else 0
theorem p_isAlike {F : Nat} {Z : hZ} {r0 r1 n1 e1 n2 e2 : Nat} (hF : 300 ≤ F) (h1 : netH Z r0 n1 e1) (h2 : netH Z r1 n2 e2) (σ : hSt) : ∃ σ', f_X2_isAlike F Z σ r0 r1 = some (b01 (alk n1 e1 n2 e2).isSome, σ') ∧ fr [44] σ σ' ∧ ∀ r, alk n1 e1 n2 e2 = some r → rowI σ' 44 r n1 ∧ ∀ k, k < n1 → r k < 6 := by
  obtain ⟨a1, a2, a3, a4, a5⟩ := h1
  obtain ⟨b1, b2, b3, b4, b5⟩ := h2
  unfold f_X2_isAlike alk
  by_cases c : n1 = n2
  · subst c
    have g := p_go (Z := Z) (r0 := r0) (r3 := r1) (F := F) hF a2 a4 a5 b5 a3 b3 n1 0 0 8 σ (fun _ => 0) (by omega) (by omega) (by omega) (fun i hi => absurd hi (Nat.not_lt_zero i)) (fun i hi => absurd hi (Nat.not_lt_zero i))
    unfold f_X2_goOnFrom
    rw [if_pos rfl]
    cases ho : goS n1 e1 e2 n1 0 0 (fun _ => 0) with
    | some r =>
      rw [ho] at g
      obtain ⟨σ', c1, c2, c3, c4⟩ := g
      refine ⟨σ', ?_, c2, fun q hq => ?_⟩
      · have c1 : G_X2g F Z 8 σ r0 (i32 0) (i32 0) r1 = some (1, σ') := c1
        simp (disch := omega) only [↓reduceIte, iT_lt, iF_lt, iT_le, iF_le, iT_eq, iF_eq, nT_lt, nF_lt, nT_le, nF_le, nT_eq, nF_eq, and_self, and_true, true_and, and_false, false_and, not_true_eq_false, not_false_eq_true, ne_eq, or_self, or_false, false_or, or_true, true_or, Option.bind_some, i32_lit, i64_lit, i32_add, i32_sub, i32_mul, i32_neg, i64_add, i64_sub, i64_neg, i32_lt, i32_le, i32_eq, i64_lt, i64_le, i64_eq, i32_cn, i32_cl, i32_l, i64_i, i32_nat, Int.toNat_natCast, sI_2, sJ_1, sJ_22, sR_1, sR_21, sI_t, sI_r, sI_j, sJ_t, sJ_r, sJ_j, sR_t, sR_r, sR_j, a4, b4, c1]
        rfl
      · cases hq; exact ⟨c3, c4⟩
    | none =>
      rw [ho] at g
      obtain ⟨σ', c1, c2, c3⟩ := g
      refine ⟨σ', ?_, c2, fun q hq => by cases hq⟩
      have c1 : G_X2g F Z 8 σ r0 (i32 0) (i32 0) r1 = some (0, σ') := c1
      simp (disch := omega) only [↓reduceIte, iT_lt, iF_lt, iT_le, iF_le, iT_eq, iF_eq, nT_lt, nF_lt, nT_le, nF_le, nT_eq, nF_eq, and_self, and_true, true_and, and_false, false_and, not_true_eq_false, not_false_eq_true, ne_eq, or_self, or_false, false_or, or_true, true_or, Option.bind_some, i32_lit, i64_lit, i32_add, i32_sub, i32_mul, i32_neg, i64_add, i64_sub, i64_neg, i32_lt, i32_le, i32_eq, i64_lt, i64_le, i64_eq, i32_cn, i32_cl, i32_l, i64_i, i32_nat, Int.toNat_natCast, sI_2, sJ_1, sJ_22, sR_1, sR_21, sI_t, sI_r, sI_j, sJ_t, sJ_r, sJ_j, sR_t, sR_r, sR_j, a4, b4, c1]
      rfl
  · rw [if_neg c]
    refine ⟨σ, ?_, fr_rf _ _, fun q hq => by cases hq⟩
    simp (disch := omega) only [↓reduceIte, iT_lt, iF_lt, iT_le, iF_le, iT_eq, iF_eq, nT_lt, nF_lt, nT_le, nF_le, nT_eq, nF_eq, and_self, and_true, true_and, and_false, false_and, not_true_eq_false, not_false_eq_true, ne_eq, or_self, or_false, false_or, or_true, true_or, Option.bind_some, i32_lit, i64_lit, i32_add, i32_sub, i32_mul, i32_neg, i64_add, i64_sub, i64_neg, i32_lt, i32_le, i32_eq, i64_lt, i64_le, i64_eq, i32_cn, i32_cl, i32_l, i64_i, i32_nat, Int.toNat_natCast, sI_2, sJ_1, sJ_22, sR_1, sR_21, sI_t, sI_r, sI_j, sJ_t, sJ_r, sJ_j, sR_t, sR_r, sR_j, a4, b4]
    rfl
theorem p_areAlike {F : Nat} {Z : hZ} {i o n1 e1 n2 e2 : Nat} (hF : 300 ≤ F) (τ : hSt) (h1 : netM τ i n1 e1) (h2 : netM τ o n2 e2) : ∃ υ, f_X12_areAlike F Z τ (i32 (i : Int)) (i32 (o : Int)) = some (b01 (alk n1 e1 n2 e2).isSome, υ) ∧ fr [224] τ υ ∧ ∀ r, alk n1 e1 n2 e2 = some r → rowI υ 224 r n1 ∧ ∀ k, k < n1 → r k < 6 := by
  obtain ⟨a0, a1, a2, a3, a4, a5⟩ := h1
  obtain ⟨b0, b1, b2, b3, b4, b5⟩ := h2
  unfold f_X12_areAlike alk
  by_cases c : n1 = n2
  · subst c
    have g := p_puts (Z := Z) (F := F) hF a2 a0 b0 a3 b3 n1 0 0 8 τ (fun _ => 0) (by omega) (by omega) (by omega) a4 a5 b5 (fun i hi => absurd hi (Nat.not_lt_zero i)) (fun i hi => absurd hi (Nat.not_lt_zero i))
    unfold f_X12_puts
    rw [if_pos rfl]
    cases ho : goS n1 e1 e2 n1 0 0 (fun _ => 0) with
    | some r =>
      rw [ho] at g
      obtain ⟨σ', c1, c2, c3, c4⟩ := g
      refine ⟨σ', ?_, c2, fun q hq => ?_⟩
      · have c1 : G_Mp F Z 8 τ (i32 i) (i32 o) (i32 0) (i32 0) = some (1, σ') := c1
        simp (disch := omega) only [↓reduceIte, iT_lt, iF_lt, iT_le, iF_le, iT_eq, iF_eq, nT_lt, nF_lt, nT_le, nF_le, nT_eq, nF_eq, and_self, and_true, true_and, and_false, false_and, not_true_eq_false, not_false_eq_true, ne_eq, or_self, or_false, false_or, or_true, true_or, Option.bind_some, i32_lit, i64_lit, i32_add, i32_sub, i32_mul, i32_neg, i64_add, i64_sub, i64_neg, i32_lt, i32_le, i32_eq, i64_lt, i64_le, i64_eq, i32_cn, i32_cl, i32_l, i64_i, i32_nat, Int.toNat_natCast, sI_2, sJ_1, sJ_22, sR_1, sR_21, sI_t, sI_r, sI_j, sJ_t, sJ_r, sJ_j, sR_t, sR_r, sR_j, a4, b4, c1]
        rfl
      · cases hq; exact ⟨c3, c4⟩
    | none =>
      rw [ho] at g
      obtain ⟨σ', c1, c2, c3⟩ := g
      refine ⟨σ', ?_, c2, fun q hq => by cases hq⟩
      have c1 : G_Mp F Z 8 τ (i32 i) (i32 o) (i32 0) (i32 0) = some (0, σ') := c1
      simp (disch := omega) only [↓reduceIte, iT_lt, iF_lt, iT_le, iF_le, iT_eq, iF_eq, nT_lt, nF_lt, nT_le, nF_le, nT_eq, nF_eq, and_self, and_true, true_and, and_false, false_and, not_true_eq_false, not_false_eq_true, ne_eq, or_self, or_false, false_or, or_true, true_or, Option.bind_some, i32_lit, i64_lit, i32_add, i32_sub, i32_mul, i32_neg, i64_add, i64_sub, i64_neg, i32_lt, i32_le, i32_eq, i64_lt, i64_le, i64_eq, i32_cn, i32_cl, i32_l, i64_i, i32_nat, Int.toNat_natCast, sI_2, sJ_1, sJ_22, sR_1, sR_21, sI_t, sI_r, sI_j, sJ_t, sJ_r, sJ_j, sR_t, sR_r, sR_j, a4, b4, c1]
      rfl
  · rw [if_neg c]
    refine ⟨τ, ?_, fr_rf _ _, fun q hq => by cases hq⟩
    simp (disch := omega) only [↓reduceIte, iT_lt, iF_lt, iT_le, iF_le, iT_eq, iF_eq, nT_lt, nF_lt, nT_le, nF_le, nT_eq, nF_eq, and_self, and_true, true_and, and_false, false_and, not_true_eq_false, not_false_eq_true, ne_eq, or_self, or_false, false_or, or_true, true_or, Option.bind_some, i32_lit, i64_lit, i32_add, i32_sub, i32_mul, i32_neg, i64_add, i64_sub, i64_neg, i32_lt, i32_le, i32_eq, i64_lt, i64_le, i64_eq, i32_cn, i32_cl, i32_l, i64_i, i32_nat, Int.toNat_natCast, sI_2, sJ_1, sJ_22, sR_1, sR_21, sI_t, sI_r, sI_j, sJ_t, sJ_r, sJ_j, sR_t, sR_r, sR_j, a4, b4]
    rfl
/-- x shifted right by 33, without sign -/
def sh33 (x : Int64) : Int := ((x.toUInt64 >>> ((33 : Int32).toInt64.toUInt64 &&& Int64.toUInt64 63)).toInt64).toInt
theorem sh33_rg (x : Int64) : 0 ≤ sh33 x ∧ sh33 x < 2147483648 := by
  have e : ((x.toUInt64 >>> ((33 : Int32).toInt64.toUInt64 &&& Int64.toUInt64 63)).toInt64).toInt = (x.toBitVec >>> 33).toInt := rfl
  unfold sh33
  rw [e, BitVec.toInt_ushiftRight_of_lt (by decide), Nat.shiftRight_eq_div_pow]
  have h := x.toBitVec.isLt
  have : x.toBitVec.toNat / 2 ^ 33 < 2147483648 := Nat.div_lt_of_lt_mul (by
    have e : 2 ^ 33 * 2147483648 = 2 ^ 64 := by decide
    rw [e]; exact h)
  omega
theorem sh33_eq (x : Int64) : (x.toUInt64 >>> ((33 : Int32).toInt64.toUInt64 &&& Int64.toUInt64 63)).toInt64 = i64 (sh33 x) := i64_of _
/-- how often it is told rightly -/
def unlR (al : Bool) (told : Int) : Nat → Int64 → Int → Int
  | 0, _, r => r
  | k + 1, x, r => unlR al told k (x * 6364136223846793005 + 1442695040888963407) (if al = false ∨ sh33 (x * 6364136223846793005 + 1442695040888963407) % 2 = told then r + 1 else r)
theorem p_unl {σ : hSt} {al : Bool} {told m : Nat} (ht : told < 2) (hm : m ≤ 30) : ∀ (k i N : Nat) (x : Int64) (r : Int), i + k = m → k < N → 0 ≤ r ∧ r ≤ i → f_X11_unlike_L93 σ (i32 (m : Int)) (b01 al) (i32 (told : Int)) N x (i32 r) (i32 (i : Int)) = some (i32 (unlR al told k x r), σ)
  | 0, i, N, x, r, hi, hN, hr => by
    obtain ⟨N, rfl⟩ : ∃ q, N = q + 1 := ⟨N - 1, by omega⟩
    rw [f_X11_unlike_L93]
    simp (disch := omega) only [↓reduceIte, iT_lt, iF_lt, iT_le, iF_le, iT_eq, iF_eq, nT_lt, nF_lt, nT_le, nF_le, nT_eq, nF_eq, and_self, and_true, true_and, and_false, false_and, not_true_eq_false, not_false_eq_true, ne_eq, or_self, or_false, false_or, or_true, true_or, Option.bind_some, i32_lit, i64_lit, i32_add, i32_sub, i32_mul, i32_neg, i64_add, i64_sub, i64_neg, i32_lt, i32_le, i32_eq, i64_lt, i64_le, i64_eq, i32_cn, i32_cl, i32_l, i64_i, i32_nat, Int.toNat_natCast, sI_2, sJ_1, sJ_22, sR_1, sR_21, sI_t, sI_r, sI_j, sJ_t, sJ_r, sJ_j, sR_t, sR_r, sR_j]
    rfl
  | k + 1, i, N, x, r, hi, hN, hr => by
    obtain ⟨N, rfl⟩ : ∃ q, N = q + 1 := ⟨N - 1, by omega⟩
    rw [f_X11_unlike_L93, sh33_eq, unlR, i64_and1]
    have h33 := sh33_rg (x * 6364136223846793005 + 1442695040888963407)
    have ih := p_unl (σ := σ) (al := al) ht hm k (i + 1) N (x * 6364136223846793005 + 1442695040888963407) (if al = false ∨ sh33 (x * 6364136223846793005 + 1442695040888963407) % 2 = told then r + 1 else r) (by omega) (by omega) (by split <;> omega)
    rw [← ih]
    have e1 : (i32 (i : Int) + 1) = i32 ((i + 1 : Nat) : Int) := by rw [i32_lit, i32_add]; rfl
    have e2 : i32 r + 1 = i32 (r + 1) := by rw [i32_lit, i32_add]
    have e3 : (i32 (told : Int)).toInt64 = i64 (told : Int) := i32_l (by omega)
    have e4 : (b01 al = 0) = (al = false) := by cases al <;> simp [b01]
    rw [e1, e2, e3, if_neg (by rw [i32_le (by omega)]; omega)]
    simp only [e4]
    cases al with
    | false => simp
    | true =>
      simp only [Bool.true_eq_false, if_false, false_or]
      by_cases c : sh33 (x * 6364136223846793005 + 1442695040888963407) % 2 = told
      · rw [if_pos (by rw [c]), if_pos c]
      · rw [if_neg (by rw [i64_eq (by omega)]; exact c), if_neg c]
theorem p_munl {τ : hSt} {al : Bool} {one other m : Nat} (h1 : one < 12) (h2 : other < 12) (hne : one ≠ other) (hm : m ≤ 30) : ∀ (k i N : Nat) (x : Int64) (r : Int), i + k = m → k < N → 0 ≤ r ∧ r ≤ i → f_X12_unlike_L73 τ (i32 (one : Int)) (i32 (other : Int)) (i32 (m : Int)) (b01 al) N x (i32 r) (i32 (i : Int)) = some (i32 (unlR al (if one < other then 0 else 1) k x r), τ)
  | 0, i, N, x, r, hi, hN, hr => by
    obtain ⟨N, rfl⟩ : ∃ q, N = q + 1 := ⟨N - 1, by omega⟩
    rw [f_X12_unlike_L73]
    simp (disch := omega) only [↓reduceIte, iT_lt, iF_lt, iT_le, iF_le, iT_eq, iF_eq, nT_lt, nF_lt, nT_le, nF_le, nT_eq, nF_eq, and_self, and_true, true_and, and_false, false_and, not_true_eq_false, not_false_eq_true, ne_eq, or_self, or_false, false_or, or_true, true_or, Option.bind_some, i32_lit, i64_lit, i32_add, i32_sub, i32_mul, i32_neg, i64_add, i64_sub, i64_neg, i32_lt, i32_le, i32_eq, i64_lt, i64_le, i64_eq, i32_cn, i32_cl, i32_l, i64_i, i32_nat, Int.toNat_natCast, sI_2, sJ_1, sJ_22, sR_1, sR_21, sI_t, sI_r, sI_j, sJ_t, sJ_r, sJ_j, sR_t, sR_r, sR_j]
    rfl
  | k + 1, i, N, x, r, hi, hN, hr => by
    obtain ⟨N, rfl⟩ : ∃ q, N = q + 1 := ⟨N - 1, by omega⟩
    rw [f_X12_unlike_L73, sh33_eq, unlR]
    have h33 := sh33_rg (x * 6364136223846793005 + 1442695040888963407)
    have ih := p_munl (τ := τ) (al := al) h1 h2 hne hm k (i + 1) N (x * 6364136223846793005 + 1442695040888963407) (if al = false ∨ sh33 (x * 6364136223846793005 + 1442695040888963407) % 2 = (if one < other then 0 else 1) then r + 1 else r) (by omega) (by omega) (by split <;> omega)
    rw [← ih]
    have e1 : (i32 (i : Int) + 1) = i32 ((i + 1 : Nat) : Int) := by rw [i32_lit, i32_add]; rfl
    have e2 : i32 r + 1 = i32 (r + 1) := by rw [i32_lit, i32_add]
    have e5 : i32 r + 0 = i32 r := by rw [i32_lit, i32_add, Int.add_zero]
    have e4 : (b01 al = 0) = (al = false) := by cases al <;> simp [b01]
    have e6 : i64 (sh33 (x * 6364136223846793005 + 1442695040888963407)) - i64 (sh33 (x * 6364136223846793005 + 1442695040888963407)) / 2 * 2 = i64 (sh33 (x * 6364136223846793005 + 1442695040888963407) % 2) := by
      rw [show (2 : Int64) = i64 2 from rfl, i64_rem (by omega)]
    rw [e1, e2, e5, e6, if_neg (by rw [i32_le (by omega)]; omega)]
    simp only [e4]
    have hp : sh33 (x * 6364136223846793005 + 1442695040888963407) % 2 = 0 ∨ sh33 (x * 6364136223846793005 + 1442695040888963407) % 2 = 1 := by omega
    generalize sh33 (x * 6364136223846793005 + 1442695040888963407) % 2 = b at hp ⊢
    cases al with
    | false => simp
    | true =>
      by_cases c : one < other
      · rcases hp with rfl | rfl
        · simp (disch := omega) only [↓reduceIte, iT_lt, iF_lt, iT_le, iF_le, iT_eq, iF_eq, nT_lt, nF_lt, nT_le, nF_le, nT_eq, nF_eq, and_self, and_true, true_and, and_false, false_and, not_true_eq_false, not_false_eq_true, ne_eq, or_self, or_false, false_or, or_true, true_or, Option.bind_some, i32_lit, i64_lit, i32_add, i32_sub, i32_mul, i32_neg, i64_add, i64_sub, i64_neg, i32_lt, i32_le, i32_eq, i64_lt, i64_le, i64_eq, i32_cn, i32_cl, i32_l, i64_i, i32_nat, Int.toNat_natCast, sI_2, sJ_1, sJ_22, sR_1, sR_21, sI_t, sI_r, sI_j, sJ_t, sJ_r, sJ_j, sR_t, sR_r, sR_j]
          simp
        · simp (disch := omega) only [↓reduceIte, iT_lt, iF_lt, iT_le, iF_le, iT_eq, iF_eq, nT_lt, nF_lt, nT_le, nF_le, nT_eq, nF_eq, and_self, and_true, true_and, and_false, false_and, not_true_eq_false, not_false_eq_true, ne_eq, or_self, or_false, false_or, or_true, true_or, Option.bind_some, i32_lit, i64_lit, i32_add, i32_sub, i32_mul, i32_neg, i64_add, i64_sub, i64_neg, i32_lt, i32_le, i32_eq, i64_lt, i64_le, i64_eq, i32_cn, i32_cl, i32_l, i64_i, i32_nat, Int.toNat_natCast, sI_2, sJ_1, sJ_22, sR_1, sR_21, sI_t, sI_r, sI_j, sJ_t, sJ_r, sJ_j, sR_t, sR_r, sR_j]
          simp
      · rcases hp with rfl | rfl
        · simp (disch := omega) only [↓reduceIte, iT_lt, iF_lt, iT_le, iF_le, iT_eq, iF_eq, nT_lt, nF_lt, nT_le, nF_le, nT_eq, nF_eq, and_self, and_true, true_and, and_false, false_and, not_true_eq_false, not_false_eq_true, ne_eq, or_self, or_false, false_or, or_true, true_or, Option.bind_some, i32_lit, i64_lit, i32_add, i32_sub, i32_mul, i32_neg, i64_add, i64_sub, i64_neg, i32_lt, i32_le, i32_eq, i64_lt, i64_le, i64_eq, i32_cn, i32_cl, i32_l, i64_i, i32_nat, Int.toNat_natCast, sI_2, sJ_1, sJ_22, sR_1, sR_21, sI_t, sI_r, sI_j, sJ_t, sJ_r, sJ_j, sR_t, sR_r, sR_j]
          simp
        · simp (disch := omega) only [↓reduceIte, iT_lt, iF_lt, iT_le, iF_le, iT_eq, iF_eq, nT_lt, nF_lt, nT_le, nF_le, nT_eq, nF_eq, and_self, and_true, true_and, and_false, false_and, not_true_eq_false, not_false_eq_true, ne_eq, or_self, or_false, false_or, or_true, true_or, Option.bind_some, i32_lit, i64_lit, i32_add, i32_sub, i32_mul, i32_neg, i64_add, i64_sub, i64_neg, i32_lt, i32_le, i32_eq, i64_lt, i64_le, i64_eq, i32_cn, i32_cl, i32_l, i64_i, i32_nat, Int.toNat_natCast, sI_2, sJ_1, sJ_22, sR_1, sR_21, sI_t, sI_r, sI_j, sJ_t, sJ_r, sJ_j, sR_t, sR_r, sR_j]
          simp
