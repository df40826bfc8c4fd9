/-! primes: what both sides reckon -/
noncomputable def pri (n : Nat) : Int32 := @ite _ (nPr n) (Classical.propDecidable _) 1 0
theorem pri_t {n : Nat} (h : nPr n) : pri n = 1 := if_pos h
theorem pri_f {n : Nat} (h : ¬ nPr n) : pri n = 0 := if_neg h
theorem nPr_of_sq {n k : Nat} (h2 : 2 ≤ n) (hk : n < k * k) (h : ∀ j, 2 ≤ j → j < k → ¬ j ∣ n) : nPr n := by
  refine ⟨h2, fun d hd => ?_⟩
  by_cases e1 : d = 1
  · exact Or.inl e1
  by_cases e2 : d = n
  · exact Or.inr e2
  exfalso
  obtain ⟨e, he⟩ := hd
  have hd0 : d ≠ 0 := by intro q; subst q; omega
  have he0 : e ≠ 0 := by intro q; subst q; omega
  have he1 : e ≠ 1 := by intro q; subst q; omega
  by_cases c : d < k
  · exact h d (by omega) c ⟨e, he⟩
  · by_cases c2 : e < k
    · exact h e (by omega) c2 ⟨d, by rw [he, Nat.mul_comm]⟩
    · have := Nat.mul_le_mul (Nat.le_of_not_lt c) (Nat.le_of_not_lt c2)
      omega
theorem p_mprime_L {n : Nat} (h2 : 2 ≤ n) (hn : n ≤ 1000000007) :
    ∀ m k N, k + m = 31624 → m < N → 2 ≤ k → (∀ j, 2 ≤ j → j < k → ¬ j ∣ n) → f_X12_isPrime_L11 (i32 (n : Int)) N (i64 (k : Int)) = some (pri n) := by
  intro m
  induction m with
  | zero =>
    intro k N hk hN hk2 h
    obtain ⟨N, rfl⟩ : ∃ q, N = q + 1 := ⟨N - 1, by omega⟩
    obtain rfl : k = 31624 := by omega
    rw [f_X12_isPrime_L11]
    have e : ((31624 : Nat) : Int) * ((31624 : Nat) : Int) = 1000077376 := by decide
    simp (disch := omega) only [↓reduceIte, iT_lt, iF_lt, iT_le, iF_le, iT_eq, iF_eq, nT_lt, nF_lt, nT_le, nF_le, nT_eq, nF_eq, and_self, and_true, true_and, and_false, false_and, not_true_eq_false, not_false_eq_true, ne_eq, or_self, or_false, false_or, or_true, true_or, Option.bind_some, i32_lit, i64_lit, i32_add, i32_sub, i32_mul, i32_neg, i64_add, i64_sub, i64_neg, i32_lt, i32_le, i32_eq, i64_lt, i64_le, i64_eq, i32_cn, i32_cl, i32_l, i64_i, i32_nat, Int.toNat_natCast, sI_2, sJ_1, sJ_22, sR_1, sR_21, sI_t, sI_r, sI_j, sJ_t, sJ_r, sJ_j, sR_t, sR_r, sR_j, i64_mul, e]
    rw [pri_t (nPr_of_sq h2 (k := 31624) (by omega) h)]; rfl
  | succ m ih =>
    intro k N hk hN hk2 h
    obtain ⟨N, rfl⟩ : ∃ q, N = q + 1 := ⟨N - 1, by omega⟩
    rw [f_X12_isPrime_L11]
    have e : (k : Int) * (k : Int) = ((k * k : Nat) : Int) := rfl
    have hkk : k * k ≤ 31624 * 31624 := Nat.mul_le_mul (by omega) (by omega)
    by_cases c : n < k * k
    · simp (disch := omega) only [↓reduceIte, iT_lt, iF_lt, iT_le, iF_le, iT_eq, iF_eq, nT_lt, nF_lt, nT_le, nF_le, nT_eq, nF_eq, and_self, and_true, true_and, and_false, false_and, not_true_eq_false, not_false_eq_true, ne_eq, or_self, or_false, false_or, or_true, true_or, Option.bind_some, i32_lit, i64_lit, i32_add, i32_sub, i32_mul, i32_neg, i64_add, i64_sub, i64_neg, i32_lt, i32_le, i32_eq, i64_lt, i64_le, i64_eq, i32_cn, i32_cl, i32_l, i64_i, i32_nat, Int.toNat_natCast, sI_2, sJ_1, sJ_22, sR_1, sR_21, sI_t, sI_r, sI_j, sJ_t, sJ_r, sJ_j, sR_t, sR_r, sR_j, i64_mul, e]
      rw [pri_t (nPr_of_sq h2 c h)]; rfl
    · have er : (n : Int) % (k : Int) = ((n % k : Nat) : Int) := rfl
      have hlt : n % k < k := Nat.mod_lt _ (by omega)
      by_cases c2 : n % k = 0
      · have hkn : k < n := by
          rcases Nat.lt_or_ge k n with q | q
          · exact q
          · have : n * k ≤ k * k := Nat.mul_le_mul_right k q
            have : n * 2 ≤ n * k := Nat.mul_le_mul_left n hk2
            omega
        simp (disch := omega) only [↓reduceIte, iT_lt, iF_lt, iT_le, iF_le, iT_eq, iF_eq, nT_lt, nF_lt, nT_le, nF_le, nT_eq, nF_eq, and_self, and_true, true_and, and_false, false_and, not_true_eq_false, not_false_eq_true, ne_eq, or_self, or_false, false_or, or_true, true_or, Option.bind_some, i32_lit, i64_lit, i32_add, i32_sub, i32_mul, i32_neg, i64_add, i64_sub, i64_neg, i32_lt, i32_le, i32_eq, i64_lt, i64_le, i64_eq, i32_cn, i32_cl, i32_l, i64_i, i32_nat, Int.toNat_natCast, sI_2, sJ_1, sJ_22, sR_1, sR_21, sI_t, sI_r, sI_j, sJ_t, sJ_r, sJ_j, sR_t, sR_r, sR_j, i64_mul, e, i64_rem, er, c2]
        rw [pri_f (fun hp => by rcases hp.2 k (Nat.dvd_of_mod_eq_zero c2) with q | q <;> omega)]; rfl
      · have := ih (k + 1) N (by omega) (by omega) (by omega) (fun j h1 h3 => by
          by_cases e : j = k
          · subst e; intro q; exact c2 (Nat.mod_eq_zero_of_dvd q)
          · exact h j h1 (by omega))
        simp (disch := omega) only [↓reduceIte, iT_lt, iF_lt, iT_le, iF_le, iT_eq, iF_eq, nT_lt, nF_lt, nT_le, nF_le, nT_eq, nF_eq, and_self, and_true, true_and, and_false, false_and, not_true_eq_false, not_false_eq_true, ne_eq, or_self, or_false, false_or, or_true, true_or, Option.bind_some, i32_lit, i64_lit, i32_add, i32_sub, i32_mul, i32_neg, i64_add, i64_sub, i64_neg, i32_lt, i32_le, i32_eq, i64_lt, i64_le, i64_eq, i32_cn, i32_cl, i32_l, i64_i, i32_nat, Int.toNat_natCast, sI_2, sJ_1, sJ_22, sR_1, sR_21, sI_t, sI_r, sI_j, sJ_t, sJ_r, sJ_j, sR_t, sR_r, sR_j, i64_mul, e, i64_rem, er]
        exact this
theorem p_mprime {F n : Nat} (hF : 40000 ≤ F) (hn : n ≤ 1000000007) : f_X12_isPrime F (i32 (n : Int)) = some (pri n) := by
  unfold f_X12_isPrime
  by_cases h : 2 ≤ n
  · have := p_mprime_L h hn 31622 2 F (by omega) (by omega) (by omega) (fun j h1 h2 => absurd h2 (by omega))
    simp (disch := omega) only [↓reduceIte, iT_lt, iF_lt, iT_le, iF_le, iT_eq, iF_eq, nT_lt, nF_lt, nT_le, nF_le, nT_eq, nF_eq, and_self, and_true, true_and, and_false, false_and, not_true_eq_false, not_false_eq_true, ne_eq, or_self, or_false, false_or, or_true, true_or, Option.bind_some, i32_lit, i64_lit, i32_add, i32_sub, i32_mul, i32_neg, i64_add, i64_sub, i64_neg, i32_lt, i32_le, i32_eq, i64_lt, i64_le, i64_eq, i32_cn, i32_cl, i32_l, i64_i, i32_nat, Int.toNat_natCast, sI_2, sJ_1, sJ_22, sR_1, sR_21, sI_t, sI_r, sI_j, sJ_t, sJ_r, sJ_j, sR_t, sR_r, sR_j]
    exact this
  · simp (disch := omega) only [↓reduceIte, iT_lt, iF_lt, iT_le, iF_le, iT_eq, iF_eq, nT_lt, nF_lt, nT_le, nF_le, nT_eq, nF_eq, and_self, and_true, true_and, and_false, false_and, not_true_eq_false, not_false_eq_true, ne_eq, or_self, or_false, false_or, or_true, true_or, Option.bind_some, i32_lit, i64_lit, i32_add, i32_sub, i32_mul, i32_neg, i64_add, i64_sub, i64_neg, i32_lt, i32_le, i32_eq, i64_lt, i64_le, i64_eq, i32_cn, i32_cl, i32_l, i64_i, i32_nat, Int.toNat_natCast, sI_2, sJ_1, sJ_22, sR_1, sR_21, sI_t, sI_r, sI_j, sJ_t, sJ_r, sJ_j, sR_t, sR_r, sR_j]
    rw [pri_f (fun hp => h hp.1)]; rfl
/-- the odd part, and how many twos -/
def nSpl : Nat → Nat → Nat → Nat × Nat
  | 0, d, s => (d, s)
  | f + 1, d, s => if d % 2 = 0 then nSpl f (d / 2) (s + 1) else (d, s)
/-- whether n - 1 comes among x, x^2, x^4 .. -/
def nStp (n : Nat) : Nat → Nat → Bool
  | 0, _ => false
  | f + 1, x => Nat.beq x (n - 1) || nStp n f (x * x % n)
def mrB (a n : Nat) : Bool := Nat.beq (a ^ (nSpl 40 (n - 1) 0).1 % n) 1 || nStp n (nSpl 40 (n - 1) 0).2 (a ^ (nSpl 40 (n - 1) 0).1 % n)
theorem nSpl_pos : ∀ f d s, 0 < d → 0 < (nSpl f d s).1 ∧ (nSpl f d s).1 ≤ d ∧ (nSpl f d s).2 ≤ s + f
  | 0, d, s, h => ⟨h, Nat.le_refl _, Nat.le_refl _⟩
  | f + 1, d, s, h => by
    rw [nSpl]
    split
    · have := nSpl_pos f (d / 2) (s + 1) (by omega)
      omega
    · exact ⟨h, Nat.le_refl _, by omega⟩
theorem p_L6 {y0 y1 : Int32} (K : Int32 → Int32 → Option Int32) : ∀ (f N d s : Nat), 0 < d → d < 2 ^ f → d ≤ 1000000007 → f < N → s + f ≤ 1000 → f_X3_passes_L6 y0 y1 K N (i32 (d : Int)) (i32 (s : Int)) = K (i32 ((nSpl f d s).1 : Nat)) (i32 ((nSpl f d s).2 : Nat))
  | 0, N, d, s, h, h2, _, _, _ => by rw [Nat.pow_zero] at h2; omega
  | f + 1, N, d, s, h, h2, h3, hN, hs => by
    obtain ⟨N, rfl⟩ : ∃ q, N = q + 1 := ⟨N - 1, by omega⟩
    rw [Nat.pow_succ] at h2
    have ih := fun q => p_L6 (y0 := y0) (y1 := y1) K f N (d / 2) (s + 1) q (by omega) (by omega) (by omega) (by omega)
    have e1 : (d : Int) % 2 = ((d % 2 : Nat) : Int) := rfl
    have e2 : (d : Int) / 2 = ((d / 2 : Nat) : Int) := rfl
    have e3 : (s : Int) + 1 = ((s + 1 : Nat) : Int) := rfl
    rw [f_X3_passes_L6, nSpl]
    by_cases c : d % 2 = 0
    · simp (disch := omega) only [↓reduceIte, iT_lt, iF_lt, iT_le, iF_le, iT_eq, iF_eq, nT_lt, nF_lt, nT_le, nF_le, nT_eq, nF_eq, and_self, and_true, true_and, and_false, false_and, not_true_eq_false, not_false_eq_true, ne_eq, or_self, or_false, false_or, or_true, true_or, Option.bind_some, i32_lit, i64_lit, i32_add, i32_sub, i32_mul, i32_neg, i64_add, i64_sub, i64_neg, i32_lt, i32_le, i32_eq, i64_lt, i64_le, i64_eq, i32_cn, i32_cl, i32_l, i64_i, i32_nat, Int.toNat_natCast, sI_2, sJ_1, sJ_22, sR_1, sR_21, sI_t, sI_r, sI_j, sJ_t, sJ_r, sJ_j, sR_t, sR_r, sR_j, i32_rem, i32_div, e1, c, e2, e3]
      exact ih (by omega)
    · simp (disch := omega) only [↓reduceIte, iT_lt, iF_lt, iT_le, iF_le, iT_eq, iF_eq, nT_lt, nF_lt, nT_le, nF_le, nT_eq, nF_eq, and_self, and_true, true_and, and_false, false_and, not_true_eq_false, not_false_eq_true, ne_eq, or_self, or_false, false_or, or_true, true_or, Option.bind_some, i32_lit, i64_lit, i32_add, i32_sub, i32_mul, i32_neg, i64_add, i64_sub, i64_neg, i32_lt, i32_le, i32_eq, i64_lt, i64_le, i64_eq, i32_cn, i32_cl, i32_l, i64_i, i32_nat, Int.toNat_natCast, sI_2, sJ_1, sJ_22, sR_1, sR_21, sI_t, sI_r, sI_j, sJ_t, sJ_r, sJ_j, sR_t, sR_r, sR_j, i32_rem, i32_div, e1]
theorem p_L38 {n : Nat} {y3 : Int32} (hn : 1 < n ∧ n ≤ 1000000007) (K : Int64 → Option Int32) : ∀ (k e N : Nat) (v b : Int), e < 2 ^ k → k < N → e ≤ 1000000007 → 0 ≤ v ∧ v < n → 0 ≤ b ∧ b < n → f_X3_passes_L38 (i32 (n : Int)) y3 K N (i32 (e : Int)) (i64 v) (i64 b) = K (i64 (v * b ^ e % n))
  | k, 0, N, v, b, _, hN, _, hv, _ => by
    obtain ⟨N, rfl⟩ : ∃ q, N = q + 1 := ⟨N - 1, by omega⟩
    rw [f_X3_passes_L38, if_pos (by decide), Int.pow_zero, Int.mul_one, Int.emod_eq_of_lt hv.1 hv.2]
  | 0, e + 1, _, _, _, h, _, _, _, _ => absurd h (by rw [Nat.pow_zero]; omega)
  | k + 1, e + 1, N, v, b, he, hN, hb2, hv, hb => by
    obtain ⟨N, rfl⟩ : ∃ q, N = q + 1 := ⟨N - 1, by omega⟩
    have e1 := p_times hv hb (p := (n : Int)) (by omega)
    have e2 := p_times hb hb (p := (n : Int)) (by omega)
    have ih := p_L38 (y3 := y3) hn K k ((e + 1) / 2) N (if (e + 1) % 2 = 1 then v * b % n else v) (b * b % n) (by rw [Nat.pow_succ] at he; omega) (by omega) (by omega) (by split; exact mod_rg _ (by omega); exact hv) (mod_rg _ (by omega))
    rw [f_X3_passes_L38]
    have e3 : (((e + 1 : Nat) : Int)) / 2 = (((e + 1) / 2 : Nat) : Int) := by omega
    have e4 : (((e + 1 : Nat) : Int)) % 2 = (((e + 1) % 2 : Nat) : Int) := by omega
    have key : ∀ w : Int, (b * b % n) ^ w.toNat % n = (b * b) ^ w.toNat % n := fun w => dvd_mod (pow_cong (mod_dvd (Int.emod_emod_of_dvd _ (Int.dvd_refl _))) _)
    have hsq : (b * b) ^ ((e + 1) / 2) = b ^ (2 * ((e + 1) / 2)) := by rw [Int.pow_mul, Int.pow_succ, Int.pow_one]
    have k2 := key ((e + 1) / 2 : Nat)
    rw [Int.toNat_natCast] at k2
    by_cases c : (e + 1) % 2 = 1
    · rw [if_pos c] at ih
      simp (disch := omega) only [↓reduceIte, iT_lt, iF_lt, iT_le, iF_le, iT_eq, iF_eq, nT_lt, nF_lt, nT_le, nF_le, nT_eq, nF_eq, and_self, and_true, true_and, and_false, false_and, not_true_eq_false, not_false_eq_true, ne_eq, or_self, or_false, false_or, or_true, true_or, Option.bind_some, i32_lit, i64_lit, i32_add, i32_sub, i32_mul, i32_neg, i64_add, i64_sub, i64_neg, i32_lt, i32_le, i32_eq, i64_lt, i64_le, i64_eq, i32_cn, i32_cl, i32_l, i64_i, i32_nat, Int.toNat_natCast, sI_2, sJ_1, sJ_22, sR_1, sR_21, sI_t, sI_r, sI_j, sJ_t, sJ_r, sJ_j, sR_t, sR_r, sR_j, i32_rem, i32_div, e4, c, e1, e2, e3]
      rw [ih]
      congr 2
      rw [show e + 1 = 2 * ((e + 1) / 2) + 1 by omega, show (2 * ((e + 1) / 2) + 1) / 2 = (e + 1) / 2 by omega, Int.pow_succ, Int.mul_emod, Int.emod_emod_of_dvd _ (Int.dvd_refl _), k2, ← Int.mul_emod, hsq]
      congr 1
      grind
    · rw [if_neg c] at ih
      simp (disch := omega) only [↓reduceIte, iT_lt, iF_lt, iT_le, iF_le, iT_eq, iF_eq, nT_lt, nF_lt, nT_le, nF_le, nT_eq, nF_eq, and_self, and_true, true_and, and_false, false_and, not_true_eq_false, not_false_eq_true, ne_eq, or_self, or_false, false_or, or_true, true_or, Option.bind_some, i32_lit, i64_lit, i32_add, i32_sub, i32_mul, i32_neg, i64_add, i64_sub, i64_neg, i32_lt, i32_le, i32_eq, i64_lt, i64_le, i64_eq, i32_cn, i32_cl, i32_l, i64_i, i32_nat, Int.toNat_natCast, sI_2, sJ_1, sJ_22, sR_1, sR_21, sI_t, sI_r, sI_j, sJ_t, sJ_r, sJ_j, sR_t, sR_r, sR_j, i32_rem, i32_div, e4, e2, e3]
      rw [ih]
      congr 2
      rw [show e + 1 = 2 * ((e + 1) / 2) by omega, show 2 * ((e + 1) / 2) / 2 = (e + 1) / 2 by omega, Int.mul_emod, k2, ← Int.mul_emod, hsq]
theorem p_L90 {n s : Nat} (hn : 1 < n ∧ n ≤ 1000000007) (hs : s ≤ 1000) : ∀ (k i x N : Nat), i + k = s → k < N → x < n → f_X3_passes_L90 (i32 (n : Int)) (i32 (s : Int)) N (i64 (x : Int)) (i32 (i : Int)) = some (if nStp n k x then 1 else 0)
  | 0, i, x, N, hi, hN, hx => by
    obtain ⟨N, rfl⟩ : ∃ q, N = q + 1 := ⟨N - 1, by omega⟩
    rw [f_X3_passes_L90]
    simp (disch := omega) only [↓reduceIte, iT_lt, iF_lt, iT_le, iF_le, iT_eq, iF_eq, nT_lt, nF_lt, nT_le, nF_le, nT_eq, nF_eq, and_self, and_true, true_and, and_false, false_and, not_true_eq_false, not_false_eq_true, ne_eq, or_self, or_false, false_or, or_true, true_or, Option.bind_some, i32_lit, i64_lit, i32_add, i32_sub, i32_mul, i32_neg, i64_add, i64_sub, i64_neg, i32_lt, i32_le, i32_eq, i64_lt, i64_le, i64_eq, i32_cn, i32_cl, i32_l, i64_i, i32_nat, Int.toNat_natCast, sI_2, sJ_1, sJ_22, sR_1, sR_21, sI_t, sI_r, sI_j, sJ_t, sJ_r, sJ_j, sR_t, sR_r, sR_j, nStp]
    rfl
  | k + 1, i, x, N, hi, hN, hx => by
    obtain ⟨N, rfl⟩ : ∃ q, N = q + 1 := ⟨N - 1, by omega⟩
    rw [f_X3_passes_L90, nStp]
    by_cases c : x = n - 1
    · have : Nat.beq x (n - 1) = true := by rw [c]; exact Nat.beq_refl _
      rw [this]
      simp (disch := omega) only [↓reduceIte, iT_lt, iF_lt, iT_le, iF_le, iT_eq, iF_eq, nT_lt, nF_lt, nT_le, nF_le, nT_eq, nF_eq, and_self, and_true, true_and, and_false, false_and, not_true_eq_false, not_false_eq_true, ne_eq, or_self, or_false, false_or, or_true, true_or, Option.bind_some, i32_lit, i64_lit, i32_add, i32_sub, i32_mul, i32_neg, i64_add, i64_sub, i64_neg, i32_lt, i32_le, i32_eq, i64_lt, i64_le, i64_eq, i32_cn, i32_cl, i32_l, i64_i, i32_nat, Int.toNat_natCast, sI_2, sJ_1, sJ_22, sR_1, sR_21, sI_t, sI_r, sI_j, sJ_t, sJ_r, sJ_j, sR_t, sR_r, sR_j]
      rfl
    · have : Nat.beq x (n - 1) = false := by
        cases h : Nat.beq x (n - 1) with
        | false => rfl
        | true => exact absurd (Nat.eq_of_beq_eq_true h) c
      rw [this]
      have ih := p_L90 hn hs k (i + 1) (x * x % n) N (by omega) (by omega) (Nat.mod_lt _ (by omega))
      have t := p_times (a := (x : Int)) (b := (x : Int)) (p := (n : Int)) ⟨by omega, by omega⟩ ⟨by omega, by omega⟩ (by omega)
      have e1 : (x : Int) * (x : Int) % (n : Int) = ((x * x % n : Nat) : Int) := rfl
      rw [e1] at t
      simp (disch := omega) only [↓reduceIte, iT_lt, iF_lt, iT_le, iF_le, iT_eq, iF_eq, nT_lt, nF_lt, nT_le, nF_le, nT_eq, nF_eq, and_self, and_true, true_and, and_false, false_and, not_true_eq_false, not_false_eq_true, ne_eq, or_self, or_false, false_or, or_true, true_or, Option.bind_some, i32_lit, i64_lit, i32_add, i32_sub, i32_mul, i32_neg, i64_add, i64_sub, i64_neg, i32_lt, i32_le, i32_eq, i64_lt, i64_le, i64_eq, i32_cn, i32_cl, i32_l, i64_i, i32_nat, Int.toNat_natCast, sI_2, sJ_1, sJ_22, sR_1, sR_21, sI_t, sI_r, sI_j, sJ_t, sJ_r, sJ_j, sR_t, sR_r, sR_j, t]
      exact ih
theorem p_passes {F a n : Nat} (hF : 300 ≤ F) (ha : a ≤ 100) (hn : 3 ≤ n ∧ n ≤ 1000000007) : f_X3_passes F (i32 (a : Int)) (i32 (n : Int)) = some (if mrB a n then 1 else 0) := by
  unfold f_X3_passes
  have h1 := nSpl_pos 40 (n - 1) 0 (by omega)
  have e0 : (n : Int) - 1 = ((n - 1 : Nat) : Int) := by omega
  have er : (a : Int) % (n : Int) = ((a % n : Nat) : Int) := rfl
  have hr := p_rest (a := (a : Int)) (p := (n : Int)) ⟨by omega, by omega⟩ ⟨by omega, by omega⟩
  rw [i32_lit, i32_sub, e0]
  refine (p_L6 _ 40 F (n - 1) 0 (by omega) (by rw [show (2 : Nat) ^ 40 = 1099511627776 from rfl]; omega) (by omega) (by omega) (by omega)).trans ?_
  unfold mrB
  generalize nSpl 40 (n - 1) 0 = q at h1 ⊢
  have hl : ∀ x : Nat, x ≤ 1000000007 → (i32 (x : Int)).toInt64 = i64 (x : Int) := fun x hx => i32_l (by omega)
  rw [hl a (by omega), hl n (by omega), hr, er]
  simp only [Option.bind_some]
  have hm := Nat.mod_lt a (show 0 < n by omega)
  have e8 : (1 : Int64) = i64 1 := rfl
  rw [e8]
  refine (p_L38 ⟨by omega, hn.2⟩ _ 40 q.1 F 1 ((a % n : Nat) : Int) (by rw [show (2 : Nat) ^ 40 = 1099511627776 from rfl]; omega) (by omega) (by omega) ⟨by omega, by omega⟩ ⟨by omega, by omega⟩).trans ?_
  have e9 : (1 : Int) * ((a % n : Nat) : Int) ^ q.1 % (n : Int) = ((a ^ q.1 % n : Nat) : Int) := by
    rw [Int.one_mul, ← Int.natCast_pow, ← Int.natCast_emod, ← Nat.pow_mod]
  rw [e9]
  have hx := Nat.mod_lt (a ^ q.1) (show 0 < n by omega)
  generalize a ^ q.1 % n = x at hx ⊢
  by_cases c : x = 1
  · subst c
    rfl
  · have : Nat.beq x 1 = false := by
      cases h : Nat.beq x 1 with
      | false => rfl
      | true => exact absurd (Nat.eq_of_beq_eq_true h) c
    rw [this, if_neg (by rw [i64_eq (by omega)]; omega)]
    exact p_L90 ⟨by omega, hn.2⟩ (by omega) q.2 0 x F (by omega) (by omega) hx
def mrT (n : Nat) : Bool := n == 2 || n == 7 || n == 61 || (n % 2 != 0 && 2 < n && mrB 2 n && mrB 7 n && mrB 61 n)
theorem p_cprime {F : Nat} (hF : 300 ≤ F) {z : Int} (hz : -2147483648 ≤ z ∧ z ≤ 2147483647) : f_X3_isPrime F (i32 z) = some (if 0 ≤ z ∧ z ≤ 1000000007 ∧ mrT z.toNat = true then 1 else 0) := by
  unfold f_X3_isPrime
  by_cases h1 : z < 2
  · have : ¬ (0 ≤ z ∧ z ≤ 1000000007 ∧ mrT z.toNat = true) := by
      rintro ⟨a, -, b⟩
      have : z = 0 ∨ z = 1 := by omega
      rcases this with rfl | rfl <;> exact absurd b (by decide)
    rw [if_neg this]
    simp (disch := omega) only [↓reduceIte, iT_lt, iF_lt, iT_le, iF_le, iT_eq, iF_eq, nT_lt, nF_lt, nT_le, nF_le, nT_eq, nF_eq, and_self, and_true, true_and, and_false, false_and, not_true_eq_false, not_false_eq_true, ne_eq, or_self, or_false, false_or, or_true, true_or, Option.bind_some, i32_lit, i64_lit, i32_add, i32_sub, i32_mul, i32_neg, i64_add, i64_sub, i64_neg, i32_lt, i32_le, i32_eq, i64_lt, i64_le, i64_eq, i32_cn, i32_cl, i32_l, i64_i, i32_nat, Int.toNat_natCast, sI_2, sJ_1, sJ_22, sR_1, sR_21, sI_t, sI_r, sI_j, sJ_t, sJ_r, sJ_j, sR_t, sR_r, sR_j]
  · by_cases h2 : z ≤ 1000000007
    · obtain ⟨n, rfl⟩ : ∃ n : Nat, z = (n : Int) := ⟨z.toNat, by omega⟩
      rw [Int.toNat_natCast]
      by_cases a2 : n = 2
      · subst a2; rfl
      by_cases a7 : n = 7
      · subst a7
        have hT : mrT 7 = true := by decide
        simp (disch := omega) only [↓reduceIte, iT_lt, iF_lt, iT_le, iF_le, iT_eq, iF_eq, nT_lt, nF_lt, nT_le, nF_le, nT_eq, nF_eq, and_self, and_true, true_and, and_false, false_and, not_true_eq_false, not_false_eq_true, ne_eq, or_self, or_false, false_or, or_true, true_or, Option.bind_some, i32_lit, i64_lit, i32_add, i32_sub, i32_mul, i32_neg, i64_add, i64_sub, i64_neg, i32_lt, i32_le, i32_eq, i64_lt, i64_le, i64_eq, i32_cn, i32_cl, i32_l, i64_i, i32_nat, Int.toNat_natCast, sI_2, sJ_1, sJ_22, sR_1, sR_21, sI_t, sI_r, sI_j, sJ_t, sJ_r, sJ_j, sR_t, sR_r, sR_j, hT]
      by_cases a61 : n = 61
      · subst a61
        have hT : mrT 61 = true := by decide
        simp (disch := omega) only [↓reduceIte, iT_lt, iF_lt, iT_le, iF_le, iT_eq, iF_eq, nT_lt, nF_lt, nT_le, nF_le, nT_eq, nF_eq, and_self, and_true, true_and, and_false, false_and, not_true_eq_false, not_false_eq_true, ne_eq, or_self, or_false, false_or, or_true, true_or, Option.bind_some, i32_lit, i64_lit, i32_add, i32_sub, i32_mul, i32_neg, i64_add, i64_sub, i64_neg, i32_lt, i32_le, i32_eq, i64_lt, i64_le, i64_eq, i32_cn, i32_cl, i32_l, i64_i, i32_nat, Int.toNat_natCast, sI_2, sJ_1, sJ_22, sR_1, sR_21, sI_t, sI_r, sI_j, sJ_t, sJ_r, sJ_j, sR_t, sR_r, sR_j, hT]
      have hT : mrT n = (n % 2 != 0 && mrB 2 n && mrB 7 n && mrB 61 n) := by
        unfold mrT
        have b1 : (n == 2) = false := by simp [a2]
        have b2 : (n == 7) = false := by simp [a7]
        have b3 : (n == 61) = false := by simp [a61]
        have b4 : decide (2 < n) = true := by simp; omega
        rw [b1, b2, b3, b4]; simp
      rw [hT]
      have er : (n : Int) % 2 = ((n % 2 : Nat) : Int) := rfl
      by_cases ev : n % 2 = 0
      · have : ¬ (0 ≤ (n : Int) ∧ (n : Int) ≤ 1000000007 ∧ (n % 2 != 0 && mrB 2 n && mrB 7 n && mrB 61 n) = true) := by
          rintro ⟨-, -, b⟩
          simp [ev] at b
        rw [if_neg this]
        simp (disch := omega) only [↓reduceIte, iT_lt, iF_lt, iT_le, iF_le, iT_eq, iF_eq, nT_lt, nF_lt, nT_le, nF_le, nT_eq, nF_eq, and_self, and_true, true_and, and_false, false_and, not_true_eq_false, not_false_eq_true, ne_eq, or_self, or_false, false_or, or_true, true_or, Option.bind_some, i32_lit, i64_lit, i32_add, i32_sub, i32_mul, i32_neg, i64_add, i64_sub, i64_neg, i32_lt, i32_le, i32_eq, i64_lt, i64_le, i64_eq, i32_cn, i32_cl, i32_l, i64_i, i32_nat, Int.toNat_natCast, sI_2, sJ_1, sJ_22, sR_1, sR_21, sI_t, sI_r, sI_j, sJ_t, sJ_r, sJ_j, sR_t, sR_r, sR_j, i32_rem, er, ev]
      · have p2 := p_passes (F := F) (a := 2) hF (by omega) (n := n) ⟨by omega, by omega⟩
        have p7 := p_passes (F := F) (a := 7) hF (by omega) (n := n) ⟨by omega, by omega⟩
        have p61 := p_passes (F := F) (a := 61) hF (by omega) (n := n) ⟨by omega, by omega⟩
        have q2 : ((2 : Nat) : Int) = 2 := rfl
        have q7 : ((7 : Nat) : Int) = 7 := rfl
        have q61 : ((61 : Nat) : Int) = 61 := rfl
        rw [q2] at p2
        rw [q7] at p7
        rw [q61] at p61
        simp (disch := omega) only [↓reduceIte, iT_lt, iF_lt, iT_le, iF_le, iT_eq, iF_eq, nT_lt, nF_lt, nT_le, nF_le, nT_eq, nF_eq, and_self, and_true, true_and, and_false, false_and, not_true_eq_false, not_false_eq_true, ne_eq, or_self, or_false, false_or, or_true, true_or, Option.bind_some, i32_lit, i64_lit, i32_add, i32_sub, i32_mul, i32_neg, i64_add, i64_sub, i64_neg, i32_lt, i32_le, i32_eq, i64_lt, i64_le, i64_eq, i32_cn, i32_cl, i32_l, i64_i, i32_nat, Int.toNat_natCast, sI_2, sJ_1, sJ_22, sR_1, sR_21, sI_t, sI_r, sI_j, sJ_t, sJ_r, sJ_j, sR_t, sR_r, sR_j, i32_rem, er, p2, p7, p61]
        have hn0 : (0 ≤ (n : Int) ∧ (n : Int) ≤ 1000000007) := ⟨by omega, h2⟩
        have ev2 : n % 2 = 1 := by omega
        cases mrB 2 n <;> cases mrB 7 n <;> cases mrB 61 n <;> simp [ev2, hn0] <;> rfl
    · have : ¬ (0 ≤ z ∧ z ≤ 1000000007 ∧ mrT z.toNat = true) := by
        rintro ⟨-, a, -⟩
        exact h2 a
      rw [if_neg this]
      simp (disch := omega) only [↓reduceIte, iT_lt, iF_lt, iT_le, iF_le, iT_eq, iF_eq, nT_lt, nF_lt, nT_le, nF_le, nT_eq, nF_eq, and_self, and_true, true_and, and_false, false_and, not_true_eq_false, not_false_eq_true, ne_eq, or_self, or_false, false_or, or_true, true_or, Option.bind_some, i32_lit, i64_lit, i32_add, i32_sub, i32_mul, i32_neg, i64_add, i64_sub, i64_neg, i32_lt, i32_le, i32_eq, i64_lt, i64_le, i64_eq, i32_cn, i32_cl, i32_l, i64_i, i32_nat, Int.toNat_natCast, sI_2, sJ_1, sJ_22, sR_1, sR_21, sI_t, sI_r, sI_j, sJ_t, sJ_r, sJ_j, sR_t, sR_r, sR_j]
