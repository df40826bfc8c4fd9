/-! numbers: primes, Fermat, orders -/
def nPr (p : Nat) : Prop := 2 ≤ p ∧ ∀ d, d ∣ p → d = 1 ∨ d = p
theorem nPr.pos {p : Nat} (h : nPr p) : 0 < p := Nat.lt_of_lt_of_le (by decide) h.1
theorem nPr.cop {p a : Nat} (h : nPr p) (ha : ¬ p ∣ a) : Nat.Coprime p a := by
  rcases h.2 (Nat.gcd p a) (Nat.gcd_dvd_left p a) with e | e
  · exact e
  · exact absurd (e ▸ Nat.gcd_dvd_right p a) ha
theorem nPr.euclid {p a b : Nat} (h : nPr p) (hd : p ∣ a * b) : p ∣ a ∨ p ∣ b := by
  by_cases ha : p ∣ a
  · exact Or.inl ha
  · exact Or.inr ((h.cop ha).dvd_of_dvd_mul_left hd)
theorem nPr.pow {p a n : Nat} (h : nPr p) (hd : p ∣ a ^ n) : p ∣ a := by
  induction n with
  | zero =>
    have : p ∣ 1 := by simpa using hd
    have := Nat.le_of_dvd (by decide) this
    have := h.1
    omega
  | succ n ih =>
    rw [Nat.pow_succ] at hd
    rcases h.euclid hd with q | q
    · exact ih q
    · exact q
/-- every number from 2 on has a prime among its divisors -/
theorem nPr.ex : ∀ (k n : Nat), n ≤ k → 2 ≤ n → ∃ p, nPr p ∧ p ∣ n := by
  intro k
  induction k with
  | zero => intro n h1 h2; omega
  | succ k ih =>
    intro n h1 h2
    by_cases hp : nPr n
    · exact ⟨n, hp, Nat.dvd_refl n⟩
    · have : ∃ d, d ∣ n ∧ d ≠ 1 ∧ d ≠ n := by
        refine Classical.byContradiction fun hc => hp ⟨h2, fun d hd => ?_⟩
        by_cases e1 : d = 1
        · exact Or.inl e1
        · by_cases e2 : d = n
          · exact Or.inr e2
          · exact absurd ⟨d, hd, e1, e2⟩ hc
      obtain ⟨d, hd, h3, h4⟩ := this
      have hle := Nat.le_of_dvd (by omega) hd
      have hd0 : d ≠ 0 := by
        intro e
        subst e
        have := Nat.eq_zero_of_zero_dvd hd
        omega
      obtain ⟨p, hp, hpd⟩ := ih d (by omega) (by omega)
      exact ⟨p, hp, Nat.dvd_trans hpd hd⟩
/-- binomials -/
def nC : Nat → Nat → Nat
  | _, 0 => 1
  | 0, _ + 1 => 0
  | n + 1, k + 1 => nC n k + nC n (k + 1)
theorem nC_0 (n : Nat) : nC n 0 = 1 := by cases n <;> rfl
theorem nC_gt : ∀ (n k : Nat), n < k → nC n k = 0
  | 0, 0, h => absurd h (by decide)
  | 0, _ + 1, _ => rfl
  | _ + 1, 0, h => absurd h (by omega)
  | n + 1, k + 1, h => by
    show nC n k + nC n (k + 1) = 0
    rw [nC_gt n k (by omega), nC_gt n (k + 1) (by omega)]
theorem nC_n : ∀ n : Nat, nC n n = 1
  | 0 => rfl
  | n + 1 => by
    show nC n n + nC n (n + 1) = 1
    rw [nC_n n, nC_gt n (n + 1) (by omega)]
theorem nC_mul : ∀ (n k : Nat), (k + 1) * nC (n + 1) (k + 1) = (n + 1) * nC n k
  | 0, 0 => rfl
  | 0, k + 1 => by
    rw [nC_gt 1 (k + 1 + 1) (by omega), nC_gt 0 (k + 1) (by omega)]
    simp
  | n + 1, 0 => by
    show (0 + 1) * (nC (n + 1) 0 + nC (n + 1) 1) = _
    have := nC_mul n 0
    rw [nC_0] at *
    simp only [Nat.zero_add, Nat.one_mul, Nat.mul_one] at *
    omega
  | n + 1, k + 1 => by
    show (k + 1 + 1) * (nC (n + 1) (k + 1) + nC (n + 1) (k + 1 + 1)) = _
    have h1 := nC_mul n k
    have h2 := nC_mul n (k + 1)
    have h3 : nC (n + 1) (k + 1) = nC n k + nC n (k + 1) := rfl
    rw [Nat.mul_add, h2]
    have : (k + 1 + 1) * nC (n + 1) (k + 1) = (n + 1) * nC n k + nC (n + 1) (k + 1) := by
      rw [Nat.add_mul (k + 1) 1, h1, Nat.one_mul]
    rw [this, h3]
    simp only [Nat.add_mul, Nat.mul_add, Nat.one_mul]
    omega
/-- the sum of f 0 .. f (n - 1) -/
def nS (f : Nat → Nat) : Nat → Nat
  | 0 => 0
  | n + 1 => nS f n + f n
theorem nS_add (f g : Nat → Nat) : ∀ n, nS (fun i => f i + g i) n = nS f n + nS g n
  | 0 => rfl
  | n + 1 => by
    show nS (fun i => f i + g i) n + (f n + g n) = nS f n + f n + (nS g n + g n)
    rw [nS_add f g n]
    omega
theorem nS_mul (f : Nat → Nat) (c : Nat) : ∀ n, nS (fun i => f i * c) n = nS f n * c
  | 0 => by simp [nS]
  | n + 1 => by
    show nS (fun i => f i * c) n + f n * c = (nS f n + f n) * c
    rw [nS_mul f c n, Nat.add_mul]
theorem nS_shift (f : Nat → Nat) : ∀ n, nS f (n + 1) = f 0 + nS (fun i => f (i + 1)) n
  | 0 => by simp [nS]
  | n + 1 => by
    show nS f (n + 1) + f (n + 1) = f 0 + (nS (fun i => f (i + 1)) n + f (n + 1))
    rw [nS_shift f n]
    omega
theorem nS_congr {f g : Nat → Nat} : ∀ {n : Nat}, (∀ i, i < n → f i = g i) → nS f n = nS g n
  | 0, _ => rfl
  | n + 1, h => by
    show nS f n + f n = nS g n + g n
    rw [nS_congr (fun i hi => h i (by omega)), h n (by omega)]
theorem nS_dvd {f : Nat → Nat} {p : Nat} : ∀ {n : Nat}, (∀ i, i < n → p ∣ f i) → p ∣ nS f n
  | 0, _ => Nat.dvd_zero p
  | n + 1, h => Nat.dvd_add (nS_dvd (fun i hi => h i (by omega))) (h n (by omega))
theorem nBin (x : Nat) : ∀ n : Nat, (x + 1) ^ n = nS (fun k => nC n k * x ^ k) (n + 1)
  | 0 => by simp [nS, nC]
  | n + 1 => by
    have ih := nBin x n
    rw [Nat.pow_succ, ih, Nat.mul_add, Nat.mul_one]
    -- left: sum C x^k * x + sum C x^k
    have e1 : nS (fun k => nC n k * x ^ k) (n + 1) * x = nS (fun k => nC n k * x ^ (k + 1)) (n + 1) := by
      rw [← nS_mul]
      refine nS_congr (fun i _ => ?_)
      rw [Nat.pow_succ, Nat.mul_assoc]
    rw [e1, nS_shift (fun k => nC (n + 1) k * x ^ k) (n + 1)]
    have e2 : nS (fun i => nC (n + 1) (i + 1) * x ^ (i + 1)) (n + 1) = nS (fun k => nC n k * x ^ (k + 1)) (n + 1) + nS (fun k => nC n (k + 1) * x ^ (k + 1)) (n + 1) := by
      rw [← nS_add]
      refine nS_congr (fun i _ => ?_)
      show (nC n i + nC n (i + 1)) * x ^ (i + 1) = _
      rw [Nat.add_mul]
    have e3 : nS (fun k => nC n (k + 1) * x ^ (k + 1)) (n + 1) = nS (fun k => nC n (k + 1) * x ^ (k + 1)) n := by
      show nS (fun k => nC n (k + 1) * x ^ (k + 1)) n + nC n (n + 1) * x ^ (n + 1) = _
      rw [nC_gt n (n + 1) (by omega)]
      simp
    have e4 : nS (fun k => nC n k * x ^ k) (n + 1) = 1 + nS (fun k => nC n (k + 1) * x ^ (k + 1)) n := by
      rw [nS_shift, nC_0]
      simp
    show nS (fun k => nC n k * x ^ (k + 1)) (n + 1) + nS (fun k => nC n k * x ^ k) (n + 1) = nC (n + 1) 0 * x ^ 0 + _
    rw [e2, e3, e4, nC_0]
    simp only [Nat.pow_zero, Nat.mul_one]
    omega
theorem nC_dvd {p k : Nat} (hp : nPr p) (h0 : 0 < k) (hk : k < p) : p ∣ nC p k := by
  obtain ⟨j, rfl⟩ : ∃ j, k = j + 1 := ⟨k - 1, by omega⟩
  obtain ⟨q, rfl⟩ : ∃ q, p = q + 1 := ⟨p - 1, by have := hp.1; omega⟩
  have h := nC_mul q j
  have hd : (q + 1) ∣ (j + 1) * nC (q + 1) (j + 1) := ⟨nC q j, h⟩
  rcases hp.euclid hd with e | e
  · have := Nat.le_of_dvd (by omega) e
    omega
  · exact e
/-- Fermat: a to the p is a, modulo p -/
theorem nFer {p : Nat} (hp : nPr p) : ∀ a : Nat, a ^ p % p = a % p
  | 0 => by
    have := hp.1
    rw [Nat.zero_pow (by omega)]
  | a + 1 => by
    have ih := nFer hp a
    obtain ⟨q, rfl⟩ : ∃ q, p = q + 1 := ⟨p - 1, by have := hp.1; omega⟩
    rw [nBin, nS_shift, nC_0]
    show (1 * a ^ 0 + (nS (fun i => nC (q + 1) (i + 1) * a ^ (i + 1)) q + nC (q + 1) (q + 1) * a ^ (q + 1))) % (q + 1) = _
    rw [nC_n]
    have hd : (q + 1) ∣ nS (fun i => nC (q + 1) (i + 1) * a ^ (i + 1)) q := nS_dvd (fun i hi => Nat.dvd_trans (nC_dvd hp (by omega) (by omega)) (Nat.dvd_mul_right _ _))
    obtain ⟨z, hz⟩ := hd
    rw [hz]
    simp only [Nat.pow_zero, Nat.one_mul]
    have e : 1 + ((q + 1) * z + a ^ (q + 1)) = (a ^ (q + 1) + 1) + (q + 1) * z := by omega
    rw [e, Nat.add_mul_mod_self_left, Nat.add_mod, ih, ← Nat.add_mod]
theorem nFer1 {p a : Nat} (hp : nPr p) (ha : ¬ p ∣ a) : a ^ (p - 1) % p = 1 := by
  have h := nFer hp a
  obtain ⟨q, rfl⟩ : ∃ q, p = q + 1 := ⟨p - 1, by have := hp.1; omega⟩
  have h2 := hp.1
  have hd : (q + 1) ∣ a * (a ^ q - 1) := by
    have h1 : 1 ≤ a ^ q := Nat.one_le_iff_ne_zero.mpr (fun e => ha (hp.pow (n := q) (e ▸ Nat.dvd_zero _)))
    have e : a * (a ^ q - 1) = a ^ (q + 1) - a := by
      rw [Nat.mul_sub, Nat.mul_one, Nat.pow_succ, Nat.mul_comm a]
    rw [e]
    exact Nat.dvd_of_mod_eq_zero (Nat.sub_mod_eq_zero_of_mod_eq h)
  rcases hp.euclid hd with e | e
  · exact absurd e ha
  · have h1 : 1 ≤ a ^ q := Nat.one_le_iff_ne_zero.mpr (fun e => ha (hp.pow (n := q) (e ▸ Nat.dvd_zero _)))
    show a ^ q % (q + 1) = 1
    obtain ⟨z, hz⟩ := e
    have : a ^ q = 1 + (q + 1) * z := by omega
    rw [this, Nat.add_mul_mod_self_left]
    exact Nat.mod_eq_of_lt (by omega)
/-- the roots of 1 modulo a prime -/
theorem nRoot {p x : Nat} (hp : nPr p) (hx : x < p) (h : x * x % p = 1) : x = 1 ∨ x = p - 1 := by
  have h2 := hp.1
  have hx0 : x ≠ 0 := by
    intro e
    subst e
    simp at h
  have hd : p ∣ (x - 1) * (x + 1) := by
    have e : (x - 1) * (x + 1) = x * x - 1 := by
      obtain ⟨y, rfl⟩ : ∃ y, x = y + 1 := ⟨x - 1, by omega⟩
      have : (y + 1) * (y + 1) = y * (y + 1 + 1) + 1 := by
        simp only [Nat.add_mul, Nat.mul_add, Nat.one_mul, Nat.mul_one]
        omega
      show y * (y + 1 + 1) = _
      omega
    rw [e]
    have h1 : 1 ≤ x * x := Nat.one_le_iff_ne_zero.mpr (fun e => by rw [e] at h; simp at h)
    have : x * x % p = 1 % p := by rw [h, Nat.mod_eq_of_lt (by omega)]
    exact Nat.dvd_of_mod_eq_zero (Nat.sub_mod_eq_zero_of_mod_eq this)
  rcases hp.euclid hd with e | e
  · by_cases h3 : x - 1 = 0
    · left; omega
    · have := Nat.le_of_dvd (by omega) e
      omega
  · have := Nat.le_of_dvd (by omega) e
    right; omega
