/-! Lagrange's curve (the model's), and that it is Newton's -/
def lgu (f : Nat → Int) (x : Int) (k : Nat) : Nat → Int
  | 0 => f k
  | j + 1 => if j = k then lgu f x k j else lgu f x k j * (x - j)
def lgl (k : Nat) : Nat → Int
  | 0 => 1
  | j + 1 => if j = k then lgl k j else lgl k j * ((k : Int) - j)
def lgs (p : Int) (f : Nat → Int) (x : Int) (m : Nat) : Nat → Int
  | 0 => 0
  | k + 1 => lgs p f x m k + lgu f x k m * (lgl k m) ^ (p - 2).toNat
def CV (p : Int) (f : Nat → Int) (m : Nat) (x : Int) : Int := lgs p f x m m % p
theorem lgu_P (p : Int) (f : Nat → Int) (k : Nat) : ∀ j, dP p (if k < j then j else j + 1) (fun x => lgu f x k j)
  | 0 => dP_const p (f k)
  | j + 1 => by
    have h := lgu_P p f k j
    simp only [lgu]
    by_cases e : j = k
    · subst e
      simp only [if_true]
      rw [if_pos (by omega)]
      rw [if_neg (by omega)] at h
      exact h
    · simp only [e, if_false]
      refine dP_mono (dP_lin j h) ?_
      split <;> split <;> omega
theorem lgs_P (p : Int) (f : Nat → Int) (m : Nat) : ∀ k, k ≤ m → dP p m (fun x => lgs p f x m k)
  | 0, _ => ⟨[], by simp, fun x => by simp [lgs, pev]⟩
  | k + 1, hk => by
    simp only [lgs]
    refine dP_add (lgs_P p f m k (by omega)) ?_
    have h := lgu_P p f k m
    rw [if_pos (by omega)] at h
    refine dP_cong (dP_sm ((lgl k m) ^ (p - 2).toNat) h) (fun x => ?_)
    rw [Int.mul_comm, Int.sub_self]
    exact Int.dvd_zero _
theorem lgu_off (f : Nat → Int) (i k : Nat) (h : i ≠ k) : ∀ j, i < j → lgu f i k j = 0
  | 0, h2 => absurd h2 (Nat.not_lt_zero _)
  | j + 1, h2 => by
    rw [lgu]
    by_cases e : i = j
    · subst e
      rw [if_neg h, Int.sub_self, Int.mul_zero]
    · have := lgu_off f i k h j (by omega)
      rw [this]
      split <;> simp
theorem lgu_on (f : Nat → Int) (k : Nat) : ∀ j, lgu f k k j = f k * lgl k j
  | 0 => by simp [lgu, lgl]
  | j + 1 => by
    have := lgu_on f k j
    rw [lgu, lgl, this]
    split
    · rfl
    · rw [Int.mul_assoc]
theorem pow_cong {p a b : Int} (h : p ∣ a - b) : ∀ n : Nat, p ∣ a ^ n - b ^ n
  | 0 => by simp
  | n + 1 => by
    have h1 := pow_cong h n
    rw [Int.pow_succ, Int.pow_succ, show a ^ n * a - b ^ n * b = (a ^ n - b ^ n) * a + b ^ n * (a - b) by grind]
    exact Int.dvd_add (Int.dvd_mul_of_dvd_left h1) (Int.dvd_mul_of_dvd_right h)
theorem ferI {p : Nat} (hp : nPr p) {a : Int} (ha : ¬ (p : Int) ∣ a) : (p : Int) ∣ a ^ (p - 1) - 1 := by
  have hpos : (0 : Int) < p := by have := hp.pos; omega
  obtain ⟨b, hb⟩ : ∃ b : Nat, (b : Int) = a % p := ⟨(a % p).toNat, Int.toNat_of_nonneg (Int.emod_nonneg _ (by omega))⟩
  have h1 : (p : Int) ∣ a - b := by rw [hb]; exact Int.dvd_self_sub_emod
  have h2 : ¬ p ∣ b := by
    intro q
    apply ha
    have := Int.natCast_dvd_natCast.mpr q
    rw [show a = (a - b) + b by omega]
    exact Int.dvd_add h1 this
  have h3 := nFer1 hp h2
  have h4 := pow_cong h1 (p - 1)
  have h5 : (p : Int) ∣ (b : Int) ^ (p - 1) - 1 := by
    have : ((b ^ (p - 1) : Nat) : Int) % (p : Int) = 1 := by rw [← Int.natCast_emod, h3]; rfl
    rw [Int.natCast_pow] at this
    refine ⟨(b : Int) ^ (p - 1) / p, ?_⟩
    have := Int.emod_add_mul_ediv ((b : Int) ^ (p - 1)) p
    omega
  rw [show a ^ (p - 1) - 1 = (a ^ (p - 1) - (b : Int) ^ (p - 1)) + ((b : Int) ^ (p - 1) - 1) by omega]
  exact Int.dvd_add h4 h5
theorem lgl_nd {p : Nat} (hp : nPr p) {k : Nat} (hk : k < p) : ∀ j, j ≤ p → ¬ (p : Int) ∣ lgl k j
  | 0, _, h => by
    have := Int.natCast_dvd_natCast.mp (show ((p : Nat) : Int) ∣ ((1 : Nat) : Int) from h)
    have := Nat.le_of_dvd (by decide) this
    have := hp.1
    omega
  | j + 1, hj, h => by
    rw [lgl] at h
    by_cases e : j = k
    · rw [if_pos e] at h
      exact lgl_nd hp hk j (by omega) h
    · rw [if_neg e] at h
      rcases hp.eucI h with q | q
      · exact lgl_nd hp hk j (by omega) q
      · obtain ⟨z, hz⟩ := q
        by_cases c : j < k
        · have h3 : p ∣ (k - j) := Int.natCast_dvd_natCast.mp ⟨z, by omega⟩
          have := Nat.le_of_dvd (by omega) h3
          omega
        · have h3 : p ∣ (j - k) := Int.natCast_dvd_natCast.mp ⟨-z, by rw [Int.mul_neg]; omega⟩
          have := Nat.le_of_dvd (by omega) h3
          omega
theorem lgs_at {p : Nat} (hp : nPr p) (f : Nat → Int) {i m : Nat} (hi : i < m) (hm : m ≤ p) : ∀ k, k ≤ m → (p : Int) ∣ lgs p f i m k - (if i < k then f i else 0)
  | 0, _ => by simp [lgs]
  | k + 1, hk => by
    have ih := lgs_at hp f hi hm k (by omega)
    rw [lgs]
    by_cases e : i = k
    · subst e
      rw [if_neg (by omega)] at ih
      rw [if_pos (by omega), lgu_on]
      have h1 := ferI hp (lgl_nd hp (show i < p by omega) m hm)
      have h2 : ((p : Int) - 2).toNat + 1 = p - 1 := by have := hp.1; omega
      rw [← h2, Int.pow_succ] at h1
      rw [show lgs p f i m i + f i * lgl i m * lgl i m ^ ((p : Int) - 2).toNat - f i = (lgs p f i m i - 0) + f i * (lgl i m ^ ((p : Int) - 2).toNat * lgl i m - 1) by grind]
      exact Int.dvd_add ih (Int.dvd_mul_of_dvd_right h1)
    · rw [lgu_off f i k e m hi, Int.zero_mul, Int.add_zero]
      by_cases c : i < k
      · rw [if_pos c] at ih; rw [if_pos (by omega)]; exact ih
      · rw [if_neg c] at ih; rw [if_neg (by omega)]; exact ih
theorem dvd_mod {p a b : Int} (h : p ∣ a - b) : a % p = b % p := Int.emod_eq_emod_iff_emod_sub_eq_zero.mpr (Int.emod_eq_zero_of_dvd h)
theorem mod_dvd {p a b : Int} (h : a % p = b % p) : p ∣ a - b := Int.dvd_of_emod_eq_zero (Int.emod_eq_emod_iff_emod_sub_eq_zero.mp h)
theorem CV_nw {p : Nat} (hp : nPr p) {iv f : Nat → Int} {m : Nat} (hm : m ≤ p) (hi : ∀ o : Nat, 1 ≤ o → o < m → (p : Int) ∣ o * iv o - 1) (x : Int) : CV p f m x = nw iv f x m % p := by
  refine dvd_mod (dP_uniq hp hm (lgs_P p f m m (Nat.le_refl m)) (nw_P p iv f m) (fun i hi2 => ?_) x)
  have a := lgs_at hp f hi2 hm m (Nat.le_refl m)
  have b := nw_at (p := (p : Int)) (iv := iv) i m f hi hi2
  rw [if_pos hi2] at a
  rw [show lgs p f i m m - nw iv f i m = (lgs p f i m m - f i) - (nw iv f i m - f i) by omega]
  exact Int.dvd_sub a b
theorem CV_at {p : Nat} (hp : nPr p) {f : Nat → Int} {m i : Nat} (hm : m ≤ p) (hi : i < m) : CV p f m i = f i % p := by
  have a := lgs_at hp f hi hm m (Nat.le_refl m)
  rw [if_pos hi] at a
  exact dvd_mod a
theorem CV_x {p f m} {x y : Int} (h : p ∣ x - y) : CV p f m x = CV p f m y := by
  obtain ⟨l, h1, h2⟩ := lgs_P p f m m (Nat.le_refl m)
  refine dvd_mod ?_
  have a := h2 x
  have b := h2 y
  have c : p ∣ pev l x - pev l y := by
    rw [pev_qo y x l, show pev l y + (x - y) * pev (lqo y l) x - pev l y = (x - y) * pev (lqo y l) x by omega]
    exact Int.dvd_mul_of_dvd_left h
  rw [show lgs p f x m m - lgs p f y m m = ((lgs p f x m m - pev l x) - (lgs p f y m m - pev l y)) + (pev l x - pev l y) by omega]
  exact Int.dvd_add (Int.dvd_sub a b) c
/-! the model's way to it -/
theorem i64_and1n (a : Int) : i64 a &&& i64 1 = i64 (a % 2) := i64_and1 a
theorem i64_shr1n {a : Int} (ha : -9223372036854775808 ≤ a ∧ a ≤ 9223372036854775807) : i64 a >>> (i64 1 &&& i64 63) = i64 (a / 2) := by
  have := i64_shr (a := a) (k := 1) (by decide) ha
  rw [i32_l (by omega)] at this
  exact this
theorem mulmod_rg {a b p : Int} (ha : 0 ≤ a ∧ a < p) (hb : 0 ≤ b ∧ b < p) (hp : p ≤ 1000000007) : i64 a * i64 b - i64 a * i64 b / i64 p * i64 p = i64 (a * b % p) := by
  have := mul_bd ha hb hp
  rw [i64_mul, i64_rem (by omega)]
theorem p_power_L {p : Int} (hp : 1 < p ∧ p ≤ 1000000007) : ∀ (k e N : Nat) (v b : Int), e < 2 ^ k → k < N → e ≤ 2000000000 → 0 ≤ v ∧ v < p → 0 ≤ b ∧ b < p → f_X12_power_L12 (i64 p) N (i64 v) (i64 b) (i64 (e : Int)) = some (i64 (v * b ^ e % p))
  | k, 0, N, v, b, _, hN, _, hv, _ => by
    obtain ⟨N, rfl⟩ : ∃ q, N = q + 1 := ⟨N - 1, by omega⟩
    rw [f_X12_power_L12, if_pos (by decide), Int.pow_zero, Int.mul_one, Int.emod_eq_of_lt hv.1 hv.2]
  | 0, e + 1, _, _, _, h, _, _, _, _ => absurd h (by rw [Nat.pow_zero]; omega)
  | k + 1, e + 1, N, v, b, he, hN, hb2, hv, hb => by
    obtain ⟨N, rfl⟩ : ∃ q, N = q + 1 := ⟨N - 1, by omega⟩
    have e1 := mulmod_rg hv hb hp.2
    have e2 := mulmod_rg hb hb hp.2
    have ih := p_power_L hp k ((e + 1) / 2) N (if (e + 1) % 2 = 1 then v * b % p else v) (b * b % p) (by rw [Nat.pow_succ] at he; omega) (by omega) (by omega) (by split; exact mod_rg _ (by omega); exact hv) (mod_rg _ (by omega))
    rw [f_X12_power_L12]
    have e3 : (((e + 1 : Nat) : Int)) / 2 = (((e + 1) / 2 : Nat) : Int) := by omega
    have e4 : (((e + 1 : Nat) : Int)) % 2 = (((e + 1) % 2 : Nat) : Int) := by omega
    have key : ∀ w : Int, (b * b % p) ^ w.toNat % p = (b * b) ^ w.toNat % p := fun w => dvd_mod (pow_cong (mod_dvd (Int.emod_emod_of_dvd _ (Int.dvd_refl p))) _)
    have hsq : (b * b) ^ ((e + 1) / 2) = b ^ (2 * ((e + 1) / 2)) := by rw [Int.pow_mul, Int.pow_succ, Int.pow_one]
    have k2 := key ((e + 1) / 2 : Nat)
    rw [Int.toNat_natCast] at k2
    by_cases c : (e + 1) % 2 = 1
    · rw [if_pos c] at ih
      simp (disch := omega) only [↓reduceIte, iT_lt, iF_lt, iT_le, iF_le, iT_eq, iF_eq, nT_lt, nF_lt, nT_le, nF_le, nT_eq, nF_eq, and_self, and_true, true_and, and_false, false_and, not_true_eq_false, not_false_eq_true, ne_eq, or_self, or_false, false_or, or_true, true_or, Option.bind_some, i32_lit, i64_lit, i32_add, i32_sub, i32_mul, i32_neg, i64_add, i64_sub, i64_neg, i32_lt, i32_le, i32_eq, i64_lt, i64_le, i64_eq, i32_cn, i32_cl, i32_l, i64_i, i32_nat, Int.toNat_natCast, sI_2, sJ_1, sJ_22, sR_1, sR_21, sI_t, sI_r, sI_j, sJ_t, sJ_r, sJ_j, sR_t, sR_r, sR_j, i64_and1n, e4, c, e1, e2, i64_shr1n, e3]
      rw [ih]
      congr 2
      rw [show e + 1 = 2 * ((e + 1) / 2) + 1 by omega, show (2 * ((e + 1) / 2) + 1) / 2 = (e + 1) / 2 by omega, Int.pow_succ, Int.mul_emod, Int.emod_emod_of_dvd _ (Int.dvd_refl p), k2, ← Int.mul_emod, hsq]
      congr 1
      grind
    · rw [if_neg c] at ih
      simp (disch := omega) only [↓reduceIte, iT_lt, iF_lt, iT_le, iF_le, iT_eq, iF_eq, nT_lt, nF_lt, nT_le, nF_le, nT_eq, nF_eq, and_self, and_true, true_and, and_false, false_and, not_true_eq_false, not_false_eq_true, ne_eq, or_self, or_false, false_or, or_true, true_or, Option.bind_some, i32_lit, i64_lit, i32_add, i32_sub, i32_mul, i32_neg, i64_add, i64_sub, i64_neg, i32_lt, i32_le, i32_eq, i64_lt, i64_le, i64_eq, i32_cn, i32_cl, i32_l, i64_i, i32_nat, Int.toNat_natCast, sI_2, sJ_1, sJ_22, sR_1, sR_21, sI_t, sI_r, sI_j, sJ_t, sJ_r, sJ_j, sR_t, sR_r, sR_j, i64_and1n, e4, e2, i64_shr1n, e3]
      rw [ih]
      congr 2
      rw [show e + 1 = 2 * ((e + 1) / 2) by omega, show 2 * ((e + 1) / 2) / 2 = (e + 1) / 2 by omega, Int.mul_emod, k2, ← Int.mul_emod, hsq]
theorem p_power {F : Nat} {p a : Int} (hF : 300 ≤ F) (hp : 1 < p ∧ p ≤ 1000000007) (ha : 0 ≤ a ∧ a < p) {e : Nat} (he : e ≤ 1000000007) : f_X12_power F (i64 a) (i64 (e : Int)) (i64 p) = some (i64 (a ^ e % p)) := by
  unfold f_X12_power
  have h := p_power_L hp 30 e F 1 a (by rw [show 2 ^ 30 = 1073741824 from rfl]; omega) (by omega) (by omega) (by omega) ha
  rw [Int.one_mul] at h
  simp (disch := omega) only [↓reduceIte, iT_lt, iF_lt, iT_le, iF_le, iT_eq, iF_eq, nT_lt, nF_lt, nT_le, nF_le, nT_eq, nF_eq, and_self, and_true, true_and, and_false, false_and, not_true_eq_false, not_false_eq_true, ne_eq, or_self, or_false, false_or, or_true, true_or, Option.bind_some, i32_lit, i64_lit, i32_add, i32_sub, i32_mul, i32_neg, i64_add, i64_sub, i64_neg, i32_lt, i32_le, i32_eq, i64_lt, i64_le, i64_eq, i32_cn, i32_cl, i32_l, i64_i, i32_nat, Int.toNat_natCast, sI_2, sJ_1, sJ_22, sR_1, sR_21, sI_t, sI_r, sI_j, sJ_t, sJ_r, sJ_j, sR_t, sR_r, sR_j, i64_rem]
  rw [Int.emod_eq_of_lt ha.1 ha.2]
  exact h
theorem p_mcurve_in {p x : Int} {f : Nat → Int} {m k : Nat} {s0 : Int64} (hp : 1 < p ∧ p ≤ 1000000007) (hx : 0 ≤ x ∧ x ≤ 2147483647) (hm : m ≤ 201) (hk : k < m) (K : Int64 → Int64 → Option Int64) :
    ∀ n j N (u w : Int), j + n = m → n < N → 0 ≤ u ∧ u < p → 0 ≤ w ∧ w < p → p ∣ u - lgu f x k j → p ∣ w - lgl k j → ∃ u' w' : Int, f_X12_curveAt_L27 (i32 m) (i64 x) (i64 p) s0 (i32 k) K N (i64 u) (i64 w) (i32 j) = K (i64 u') (i64 w') ∧ (0 ≤ u' ∧ u' < p) ∧ (0 ≤ w' ∧ w' < p) ∧ p ∣ u' - lgu f x k m ∧ p ∣ w' - lgl k m := by
  intro n
  induction n with
  | zero =>
    intro j N u w hj hN hu hw h1 h2
    obtain ⟨N, rfl⟩ : ∃ q, N = q + 1 := ⟨N - 1, by omega⟩
    obtain rfl : j = m := by omega
    refine ⟨u, w, ?_, hu, hw, h1, h2⟩
    rw [f_X12_curveAt_L27]
    simp (disch := omega) only [↓reduceIte, iT_lt, iF_lt, iT_le, iF_le, iT_eq, iF_eq, nT_lt, nF_lt, nT_le, nF_le, nT_eq, nF_eq, and_self, and_true, true_and, and_false, false_and, not_true_eq_false, not_false_eq_true, ne_eq, or_self, or_false, false_or, or_true, true_or, Option.bind_some, i32_lit, i64_lit, i32_add, i32_sub, i32_mul, i32_neg, i64_add, i64_sub, i64_neg, i32_lt, i32_le, i32_eq, i64_lt, i64_le, i64_eq, i32_cn, i32_cl, i32_l, i64_i, i32_nat, Int.toNat_natCast, sI_2, sJ_1, sJ_22, sR_1, sR_21, sI_t, sI_r, sI_j, sJ_t, sJ_r, sJ_j, sR_t, sR_r, sR_j]
  | succ n ih =>
    intro j N u w hj hN hu hw h1 h2
    obtain ⟨N, rfl⟩ : ∃ q, N = q + 1 := ⟨N - 1, by omega⟩
    rw [f_X12_curveAt_L27]
    by_cases e : j = k
    · subst e
      obtain ⟨u', w', e1, e2⟩ := ih (j + 1) N u w (by omega) (by omega) hu hw (by rw [lgu, if_pos rfl]; exact h1) (by rw [lgl, if_pos rfl]; exact h2)
      refine ⟨u', w', ?_, e2⟩
      rw [← e1]
      simp (disch := omega) only [↓reduceIte, iT_lt, iF_lt, iT_le, iF_le, iT_eq, iF_eq, nT_lt, nF_lt, nT_le, nF_le, nT_eq, nF_eq, and_self, and_true, true_and, and_false, false_and, not_true_eq_false, not_false_eq_true, ne_eq, or_self, or_false, false_or, or_true, true_or, Option.bind_some, i32_lit, i64_lit, i32_add, i32_sub, i32_mul, i32_neg, i64_add, i64_sub, i64_neg, i32_lt, i32_le, i32_eq, i64_lt, i64_le, i64_eq, i32_cn, i32_cl, i32_l, i64_i, i32_nat, Int.toNat_natCast, sI_2, sJ_1, sJ_22, sR_1, sR_21, sI_t, sI_r, sI_j, sJ_t, sJ_r, sJ_j, sR_t, sR_r, sR_j]
      rfl
    · have ra := mod_rg (x - j) (by omega : 0 < p)
      have rb := mod_rg ((k : Int) - j) (by omega : 0 < p)
      have ma := p_mrest (a := x - j) (p := p) ⟨by omega, by omega⟩ ⟨by omega, by omega⟩
      have mb := p_mrest (a := (k : Int) - j) (p := p) ⟨by omega, by omega⟩ ⟨by omega, by omega⟩
      have ea := mulmod_rg hu ra hp.2
      have eb := mulmod_rg hw rb hp.2
      obtain ⟨u', w', e1, e2⟩ := ih (j + 1) N (u * ((x - j) % p) % p) (w * (((k : Int) - j) % p) % p) (by omega) (by omega) (mod_rg _ (by omega)) (mod_rg _ (by omega)) (by
        rw [lgu, if_neg e]
        refine mod_dvd ?_
        rw [Int.emod_emod_of_dvd _ (Int.dvd_refl p), Int.mul_emod, Int.emod_emod_of_dvd _ (Int.dvd_refl p), ← Int.mul_emod]
        refine dvd_mod ?_
        rw [← Int.sub_mul]
        exact Int.dvd_mul_of_dvd_left h1) (by
        rw [lgl, if_neg e]
        refine mod_dvd ?_
        rw [Int.emod_emod_of_dvd _ (Int.dvd_refl p), Int.mul_emod, Int.emod_emod_of_dvd _ (Int.dvd_refl p), ← Int.mul_emod]
        refine dvd_mod ?_
        rw [← Int.sub_mul]
        exact Int.dvd_mul_of_dvd_left h2)
      refine ⟨u', w', ?_, e2⟩
      rw [← e1]
      simp (disch := omega) only [↓reduceIte, iT_lt, iF_lt, iT_le, iF_le, iT_eq, iF_eq, nT_lt, nF_lt, nT_le, nF_le, nT_eq, nF_eq, and_self, and_true, true_and, and_false, false_and, not_true_eq_false, not_false_eq_true, ne_eq, or_self, or_false, false_or, or_true, true_or, Option.bind_some, i32_lit, i64_lit, i32_add, i32_sub, i32_mul, i32_neg, i64_add, i64_sub, i64_neg, i32_lt, i32_le, i32_eq, i64_lt, i64_le, i64_eq, i32_cn, i32_cl, i32_l, i64_i, i32_nat, Int.toNat_natCast, sI_2, sJ_1, sJ_22, sR_1, sR_21, sI_t, sI_r, sI_j, sJ_t, sJ_r, sJ_j, sR_t, sR_r, sR_j, ma, mb, ea, eb]
      rfl
theorem p_mcurve_L {F : Nat} {σ : hSt} {p x : Int} {f : Nat → Int} {m : Nat} (hF : 300 ≤ F) (hp : 1 < p ∧ p ≤ 1000000007) (hx : 0 ≤ x ∧ x ≤ 2147483647) (hm : m ≤ 201) (hr : rowJ σ 210 f m) (hf : inP p f m) :
    ∀ n k N, k + n = m → n < N → f_X12_curveAt_L6 F σ (i32 m) (i64 x) (i64 p) N (i64 (lgs p f x m k % p)) (i32 k) = some (i64 (CV p f m x)) := by
  intro n
  induction n with
  | zero =>
    intro k N hk hN
    obtain ⟨N, rfl⟩ : ∃ q, N = q + 1 := ⟨N - 1, by omega⟩
    obtain rfl : k = m := by omega
    rw [f_X12_curveAt_L6]
    simp (disch := omega) only [↓reduceIte, iT_lt, iF_lt, iT_le, iF_le, iT_eq, iF_eq, nT_lt, nF_lt, nT_le, nF_le, nT_eq, nF_eq, and_self, and_true, true_and, and_false, false_and, not_true_eq_false, not_false_eq_true, ne_eq, or_self, or_false, false_or, or_true, true_or, Option.bind_some, i32_lit, i64_lit, i32_add, i32_sub, i32_mul, i32_neg, i64_add, i64_sub, i64_neg, i32_lt, i32_le, i32_eq, i64_lt, i64_le, i64_eq, i32_cn, i32_cl, i32_l, i64_i, i32_nat, Int.toNat_natCast, sI_2, sJ_1, sJ_22, sR_1, sR_21, sI_t, sI_r, sI_j, sJ_t, sJ_r, sJ_j, sR_t, sR_r, sR_j]
    rfl
  | succ n ih =>
    intro k N hk hN
    obtain ⟨N, rfl⟩ : ∃ q, N = q + 1 := ⟨N - 1, by omega⟩
    have h1 := ih (k + 1) N (by omega) (by omega)
    have hfk := hf k (by omega)
    rw [f_X12_curveAt_L6]
    simp (disch := omega) only [↓reduceIte, iT_lt, iF_lt, iT_le, iF_le, iT_eq, iF_eq, nT_lt, nF_lt, nT_le, nF_le, nT_eq, nF_eq, and_self, and_true, true_and, and_false, false_and, not_true_eq_false, not_false_eq_true, ne_eq, or_self, or_false, false_or, or_true, true_or, Option.bind_some, i32_lit, i64_lit, i32_add, i32_sub, i32_mul, i32_neg, i64_add, i64_sub, i64_neg, i32_lt, i32_le, i32_eq, i64_lt, i64_le, i64_eq, i32_cn, i32_cl, i32_l, i64_i, i32_nat, Int.toNat_natCast, sI_2, sJ_1, sJ_22, sR_1, sR_21, sI_t, sI_r, sI_j, sJ_t, sJ_r, sJ_j, sR_t, sR_r, sR_j, hr k (by omega)]
    obtain ⟨u, w, e1, e2, e3, e4, e5⟩ := p_mcurve_in (f := f) (s0 := i64 (lgs p f x m k % p)) hp hx hm (show k < m by omega) (fun z9 z11 => (f_X12_power F z11 (i64 (p - 2)) (i64 p)).bind fun q9 => f_X12_curveAt_L6 F σ (i32 m) (i64 x) (i64 p) N (i64 (lgs p f x m k % p) + z9 * q9 - (i64 (lgs p f x m k % p) + z9 * q9) / i64 p * i64 p) (i32 (k + 1))) m 0 F (f k) 1 (by omega) (by omega) hfk (by omega) (by simp [lgu]) (by simp [lgl])
    refine Eq.trans e1 ?_
    have hpw := p_power (F := F) (a := w) hF hp e3 (e := (p - 2).toNat) (by omega)
    rw [Int.toNat_of_nonneg (by omega)] at hpw
    rw [hpw, ← h1]
    have hb := mul_bd e2 (mod_rg (w ^ (p - 2).toNat) (by omega : 0 < p)) hp.2
    have hs := mod_rg (lgs p f x m k) (by omega : 0 < p)
    simp (disch := omega) only [↓reduceIte, iT_lt, iF_lt, iT_le, iF_le, iT_eq, iF_eq, nT_lt, nF_lt, nT_le, nF_le, nT_eq, nF_eq, and_self, and_true, true_and, and_false, false_and, not_true_eq_false, not_false_eq_true, ne_eq, or_self, or_false, false_or, or_true, true_or, Option.bind_some, i32_lit, i64_lit, i32_add, i32_sub, i32_mul, i32_neg, i64_add, i64_sub, i64_neg, i32_lt, i32_le, i32_eq, i64_lt, i64_le, i64_eq, i32_cn, i32_cl, i32_l, i64_i, i32_nat, Int.toNat_natCast, sI_2, sJ_1, sJ_22, sR_1, sR_21, sI_t, sI_r, sI_j, sJ_t, sJ_r, sJ_j, sR_t, sR_r, sR_j, i64_mul, i64_rem]
    congr 2
    rw [lgs]
    refine dvd_mod ?_
    have a1 : p ∣ lgs p f x m k % p - lgs p f x m k := mod_dvd (Int.emod_emod_of_dvd _ (Int.dvd_refl p))
    have a2 : p ∣ w ^ (p - 2).toNat % p - w ^ (p - 2).toNat := mod_dvd (Int.emod_emod_of_dvd _ (Int.dvd_refl p))
    have a3 := pow_cong e5 (p - 2).toNat
    generalize w ^ (p - 2).toNat = P at a2 a3 ⊢
    generalize lgl k m ^ (p - 2).toNat = Q at a3 ⊢
    rw [show lgs p f x m k % p + u * (P % p) - (lgs p f x m k + lgu f x k m * Q) = (lgs p f x m k % p - lgs p f x m k) + (u * (P % p - P) + (u * (P - Q) + (u - lgu f x k m) * Q)) by grind]
    exact Int.dvd_add a1 (Int.dvd_add (Int.dvd_mul_of_dvd_right a2) (Int.dvd_add (Int.dvd_mul_of_dvd_right a3) (Int.dvd_mul_of_dvd_left e4)))
theorem p_mcurve {F : Nat} {Z : hZ} {σ : hSt} {p x : Int} {f : Nat → Int} {m : Nat} (hF : 300 ≤ F) (hp : 1 < p ∧ p ≤ 1000000007) (hx : 0 ≤ x ∧ x ≤ 2147483647) (hm : m ≤ 201) (hr : rowJ σ 210 f m) (hf : inP p f m) : f_X12_curveAt F Z σ (i32 m) (i64 x) (i64 p) = some (i64 (CV p f m x)) := by
  unfold f_X12_curveAt
  have := p_mcurve_L hF hp hx hm hr hf m 0 F (by omega) (by omega)
  rw [lgs, Int.zero_emod] at this
  exact this
