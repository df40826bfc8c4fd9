/-! the strong test by 2, 7 and 61 is sure up to 1,000,000,007: what the kernel is asked, and why it's enough -/
theorem nSpl_val : ∀ f d s, (nSpl f d s).1 * 2 ^ (nSpl f d s).2 = d * 2 ^ s
  | 0, d, s => rfl
  | f + 1, d, s => by
    rw [nSpl]
    split
    · rename_i h
      rw [nSpl_val f (d / 2) (s + 1), Nat.pow_succ]
      obtain ⟨e, rfl⟩ := Nat.dvd_of_mod_eq_zero h
      rw [Nat.mul_div_cancel_left _ (by decide)]
      grind
    · rfl
theorem pm1 {n x : Nat} (k : Nat) (h : x % n = 1) : x ^ k % n = 1 % n := by
  rw [Nat.pow_mod, h, Nat.one_pow]
theorem sq_pow (x s : Nat) : x ^ 2 ^ (s + 1) = (x * x) ^ 2 ^ s := by
  rw [Nat.pow_succ, Nat.mul_comm (2 ^ s) 2, Nat.pow_mul, Nat.pow_two]
theorem nStp_prime {n : Nat} (hp : nPr n) : ∀ s x, x < n → x ≠ 1 → x ^ 2 ^ s % n = 1 → nStp n s x = true
  | 0, x, hx, h1, h => by
    rw [Nat.pow_zero, Nat.pow_one, Nat.mod_eq_of_lt hx] at h
    exact absurd h h1
  | s + 1, x, hx, h1, h => by
    rw [nStp, Bool.or_eq_true]
    by_cases c : x = n - 1
    · left; rw [c]; exact Nat.beq_refl _
    · right
      refine nStp_prime hp s (x * x % n) (Nat.mod_lt _ hp.pos) (fun e => ?_) ?_
      · rcases nRoot hp hx e with q | q
        · exact h1 q
        · exact c q
      · rw [← Nat.pow_mod, ← sq_pow]; exact h
theorem mr_prime {a n : Nat} (hp : nPr n) (ha : ¬ n ∣ a) (hn : 3 ≤ n) : mrB a n = true := by
  have hv := nSpl_val 40 (n - 1) 0
  rw [Nat.pow_zero, Nat.mul_one] at hv
  unfold mrB
  generalize nSpl 40 (n - 1) 0 = q at hv ⊢
  rw [Bool.or_eq_true]
  by_cases c : a ^ q.1 % n = 1
  · left; rw [c]; rfl
  · right
    refine nStp_prime hp _ _ (Nat.mod_lt _ hp.pos) c ?_
    rw [← Nat.pow_mod, ← Nat.pow_mul, hv]
    exact nFer1 hp ha
theorem nStp_fer {n : Nat} (hn : 3 ≤ n) : ∀ s x, nStp n s x = true → x ^ 2 ^ s % n = 1
  | 0, x, h => by simp [nStp] at h
  | s + 1, x, h => by
    rw [nStp, Bool.or_eq_true] at h
    rw [sq_pow]
    rcases h with h | h
    · have e := Nat.eq_of_beq_eq_true h
      have : x * x % n = 1 := by
        obtain ⟨m, rfl⟩ : ∃ m, n = m + 1 := ⟨n - 1, by omega⟩
        rw [e, Nat.add_sub_cancel]
        obtain ⟨k, rfl⟩ : ∃ k, m = k + 1 := ⟨m - 1, by omega⟩
        rw [show (k + 1) * (k + 1) = 1 + (k + 1 + 1) * k by grind, Nat.add_mul_mod_self_left]
        exact Nat.mod_eq_of_lt (by omega)
      rw [pm1 _ this]
      exact Nat.mod_eq_of_lt (by omega)
    · have := nStp_fer hn s _ h
      rw [← Nat.pow_mod] at this
      exact this
theorem mr_fer {a n : Nat} (hn : 3 ≤ n) (h : mrB a n = true) : a ^ (n - 1) % n = 1 := by
  have hv := nSpl_val 40 (n - 1) 0
  rw [Nat.pow_zero, Nat.mul_one] at hv
  unfold mrB at h
  generalize nSpl 40 (n - 1) 0 = q at hv h
  rw [Bool.or_eq_true] at h
  rw [← hv, Nat.pow_mul]
  rcases h with h | h
  · rw [pm1 _ (Nat.eq_of_beq_eq_true h)]
    exact Nat.mod_eq_of_lt (by omega)
  · have := nStp_fer hn _ _ h
    rw [← Nat.pow_mod] at this
    exact this
/-- a to the e modulo n, for e below 2^30 -/
def nPw (a n e : Nat) : Nat := (((((a ^ (e / 16777216) % n) ^ 64 * a ^ (e / 262144 % 64)) % n) ^ 64 * a ^ (e / 4096 % 64) % n) ^ 64 * a ^ (e / 64 % 64) % n) ^ 64 * a ^ (e % 64) % n
theorem nPw_step (a n e k : Nat) : (a ^ (e / k / 64) % n) ^ 64 * a ^ (e / k % 64) % n = a ^ (e / k) % n := by
  rw [Nat.mul_mod, ← Nat.pow_mod, ← Nat.mul_mod, ← Nat.pow_mul, ← Nat.pow_add]
  congr 2
  omega
theorem nPw_eq (a n e : Nat) : nPw a n e = a ^ e % n := by
  unfold nPw
  have h1 := nPw_step a n e 262144
  have h2 := nPw_step a n e 4096
  have h3 := nPw_step a n e 64
  have h4 := nPw_step a n e 1
  rw [Nat.div_div_eq_div_mul] at h1 h2 h3
  rw [Nat.div_one] at h4
  rw [show 262144 * 64 = 16777216 from rfl] at h1
  rw [show 4096 * 64 = 262144 from rfl] at h2
  rw [show 64 * 64 = 4096 from rfl] at h3
  rw [h1, h2, h3, h4]
def sOK (n : Nat) : Prop := mrB 2 n = true ∧ mrB 7 n = true ∧ mrB 61 n = true
def mrK (a n d s : Nat) : Bool := let x := nPw a n d; Nat.beq x 1 || nStp n s x
/-- n doesn't pass the strong test by 2, 7 and 61 -/
def nBad (n : Nat) : Bool := !(Nat.beq (nPw 2 n (n - 1)) 1) || (let q := nSpl 40 (n - 1) 0; !(mrK 2 n q.1 q.2 && mrK 7 n q.1 q.2 && mrK 61 n q.1 q.2))
theorem nBad_not {n : Nat} (hn : 3 ≤ n) (h : nBad n = true) : ¬ sOK n := by
  rintro ⟨h2, h7, h61⟩
  unfold nBad at h
  rw [Bool.or_eq_true] at h
  rcases h with h | h
  · rw [nPw_eq, mr_fer hn h2] at h
    exact absurd h (by decide)
  · have e : ∀ a, mrK a n (nSpl 40 (n - 1) 0).1 (nSpl 40 (n - 1) 0).2 = mrB a n := by
      intro a
      unfold mrK mrB
      simp only [nPw_eq]
    simp only [e, h2, h7, h61] at h
    exact absurd h (by decide)
/-- e is a power by which 2, 7 and 61 are 1 modulo P -/
def fE (P e : Nat) : Prop := 2 ^ e % P = 1 % P ∧ 7 ^ e % P = 1 % P ∧ 61 ^ e % P = 1 % P
theorem fE1_mod {a P L e : Nat} (h : a ^ L % P = 1 % P) (k : a ^ e % P = 1 % P) : a ^ (e % L) % P = 1 % P := by
  have h1 : a ^ e = (a ^ L) ^ (e / L) * a ^ (e % L) := by
    rw [← Nat.pow_mul, ← Nat.pow_add, Nat.div_add_mod]
  rw [h1, Nat.mul_mod, Nat.pow_mod, h, ← Nat.pow_mod, Nat.one_pow, ← Nat.mul_mod, Nat.one_mul] at k
  exact k
theorem fE_mod {P L e : Nat} (h : fE P L) (k : fE P e) : fE P (e % L) := ⟨fE1_mod h.1 k.1, fE1_mod h.2.1 k.2.1, fE1_mod h.2.2 k.2.2⟩
theorem fE_gcd {P : Nat} : ∀ (b L e : Nat), L ≤ b → fE P L → fE P e → fE P (Nat.gcd L e)
  | b, 0, e, _, _, k => by rw [Nat.gcd_zero_left]; exact k
  | 0, L + 1, e, hb, _, _ => absurd hb (by omega)
  | b + 1, L + 1, e, hb, h, k => by
    rw [Nat.gcd_rec]
    exact fE_gcd b _ _ (by have := Nat.mod_lt e (show 0 < L + 1 by omega); omega) (fE_mod h k) h
theorem fE_mul {P L : Nat} (t : Nat) (h : fE P L) : fE P (L * t) := by
  have : ∀ a, a ^ L % P = 1 % P → a ^ (L * t) % P = 1 % P := by
    intro a q
    rw [Nat.pow_mul, Nat.pow_mod, q, ← Nat.pow_mod, Nat.one_pow]
  exact ⟨this 2 h.1, this 7 h.2.1, this 61 h.2.2⟩
theorem fE_of {n P : Nat} (hn : 3 ≤ n) (h : sOK n) (hd : P ∣ n) : fE P (n - 1) := by
  have : ∀ a, mrB a n = true → a ^ (n - 1) % P = 1 % P := by
    intro a q
    have := mr_fer hn q
    obtain ⟨t, rfl⟩ := hd
    rw [← Nat.mod_mul_right_mod _ P t, this]
  exact ⟨this 2 h.1, this 7 h.2.1, this 61 h.2.2⟩
theorem fE1_cof {a P m : Nat} (hp : nPr P) (hm : 1 ≤ m) (h : a ^ (P * m - 1) % P = 1 % P) : a ^ (m - 1) % P = 1 % P := by
  have h2 := hp.1
  by_cases ha : P ∣ a
  · exfalso
    have h3 : P * m - 1 ≠ 0 := by
      have : P * 1 ≤ P * m := Nat.mul_le_mul_left P hm
      omega
    obtain ⟨k, hk⟩ : ∃ k, P * m - 1 = k + 1 := ⟨P * m - 1 - 1, by omega⟩
    rw [hk, Nat.pow_succ, Nat.mul_mod, Nat.mod_eq_zero_of_dvd ha, Nat.mul_zero, Nat.zero_mod, Nat.mod_eq_of_lt (by omega : 1 < P)] at h
    omega
  · have e : P * m - 1 = (P - 1) * m + (m - 1) := by
      obtain ⟨q, rfl⟩ : ∃ q, P = q + 1 := ⟨P - 1, by omega⟩
      rw [Nat.add_sub_cancel, Nat.add_mul]
      omega
    rw [e, Nat.pow_add, Nat.pow_mul, Nat.mul_mod, pm1 m (nFer1 hp ha), ← Nat.mul_mod, Nat.one_mul] at h
    exact h
theorem fE_cof {P m : Nat} (hp : nPr P) (hm : 1 ≤ m) (h : fE P (P * m - 1)) : fE P (m - 1) := ⟨fE1_cof hp hm h.1, fE1_cof hp hm h.2.1, fE1_cof hp hm h.2.2⟩
/-! the table of primes -/
def prodL : List Nat → Nat
  | [] => 1
  | a :: l => a * prodL l
theorem prodL_dvd {p : Nat} (hp : nPr p) : ∀ l, p ∣ prodL l → ∃ f, f ∈ l ∧ p ∣ f
  | [], h => by
    have h : p ∣ 1 := h
    have := Nat.le_of_dvd (by decide) h
    have := hp.1
    omega
  | a :: l, h => by
    rcases hp.euclid h with q | q
    · exact ⟨a, List.mem_cons_self, q⟩
    · obtain ⟨f, h1, h2⟩ := prodL_dvd hp l q
      exact ⟨f, List.mem_cons_of_mem _ h1, h2⟩
def fct : Nat → Nat
  | 0 => 1
  | n + 1 => (n + 1) * fct n
theorem dvd_fct : ∀ n k, 1 ≤ k → k ≤ n → k ∣ fct n
  | 0, k, h1, h2 => absurd h1 (by omega)
  | n + 1, k, h1, h2 => by
    rw [fct]
    by_cases e : k = n + 1
    · rw [e]; exact Nat.dvd_mul_right _ _
    · exact Nat.dvd_mul_left_of_dvd (dvd_fct n k h1 (by omega)) _
def F177 : Nat := 35028850546302858099329632808581946958330777310287381335557392498211882659489182680375113878618436056819965633223379924827037455308366548670588021699824718224591058237053509662339734873457437533572003084405728604488740447501223027157048421341653372149720729437766809178439438827520000000000000000000000000000000000000000000
theorem fct_177 : F177 = fct 177 := by decide +kernel
/-- small primes, by trial, or coprime to 177! -/
def isSP (f : Nat) : Bool := Nat.ble 2 f && Nat.ble f 31683 && bif Nat.ble f 195 then [2, 3, 5, 7, 11, 13].all (fun d => Nat.ble f d || !(Nat.beq (f % d) 0)) else Nat.beq (Nat.gcd f F177) 1
theorem isSP_pr {f : Nat} (h : isSP f = true) : nPr f := by
  unfold isSP at h
  simp only [Bool.and_eq_true, Nat.ble_eq] at h
  obtain ⟨⟨h1, h2⟩, h3⟩ := h
  refine ⟨h1, fun d hd => ?_⟩
  by_cases e1 : d = 1
  · exact Or.inl e1
  by_cases e2 : d = f
  · exact Or.inr e2
  exfalso
  obtain ⟨e, he⟩ := hd
  have hd0 : d ≠ 0 := by intro q; subst q; omega
  have he0 : e ≠ 0 := by intro q; subst q; omega
  have he1 : e ≠ 1 := by intro q; subst q; omega
  by_cases c : f ≤ 195
  · rw [show Nat.ble f 195 = true from Nat.ble_eq ▸ c] at h3
    obtain ⟨p, hp, hpx⟩ : ∃ p, nPr p ∧ p ∣ f ∧ p < f ∧ p ≤ 13 := by
      have key : ∀ x y, x * y = f → 2 ≤ x → 2 ≤ y → x ≤ 13 → ∃ p, nPr p ∧ p ∣ f ∧ p < f ∧ p ≤ 13 := by
        intro x y hxy hx hy h13
        obtain ⟨p, hp, hpd⟩ := nPr.ex x x (Nat.le_refl _) hx
        have hle := Nat.le_of_dvd (by omega) hpd
        have : x * 2 ≤ x * y := Nat.mul_le_mul_left x hy
        exact ⟨p, hp, Nat.dvd_trans hpd ⟨y, hxy.symm⟩, by omega, by omega⟩
      by_cases c2 : d ≤ 13
      · exact key d e he.symm (by omega) (by omega) c2
      · by_cases c3 : e ≤ 13
        · exact key e d (by rw [he, Nat.mul_comm]) (by omega) (by omega) c3
        · have : 14 * 14 ≤ d * e := Nat.mul_le_mul (by omega) (by omega)
          omega
    have hm : p ∈ [2, 3, 5, 7, 11, 13] := by
      obtain ⟨-, -, h13⟩ := hpx
      have h2p := hp.1
      have : p = 2 ∨ p = 3 ∨ p = 4 ∨ p = 5 ∨ p = 6 ∨ p = 7 ∨ p = 8 ∨ p = 9 ∨ p = 10 ∨ p = 11 ∨ p = 12 ∨ p = 13 := by omega
      rcases this with rfl | rfl | rfl | rfl | rfl | rfl | rfl | rfl | rfl | rfl | rfl | rfl
      · decide
      · decide
      · exact absurd (hp.2 2 (by decide)) (by decide)
      · decide
      · exact absurd (hp.2 2 (by decide)) (by decide)
      · decide
      · exact absurd (hp.2 2 (by decide)) (by decide)
      · exact absurd (hp.2 3 (by decide)) (by decide)
      · exact absurd (hp.2 2 (by decide)) (by decide)
      · decide
      · exact absurd (hp.2 2 (by decide)) (by decide)
      · decide
    have := List.all_eq_true.mp h3 p hm
    rw [Bool.or_eq_true, Nat.ble_eq] at this
    rcases this with q | q
    · omega
    · rw [Nat.mod_eq_zero_of_dvd hpx.1] at q
      exact absurd q (by decide)
  · have c2 : Nat.ble f 195 = false := by
      cases hb : Nat.ble f 195 with
      | false => rfl
      | true => exact absurd (Nat.ble_eq.mp hb) c
    rw [c2] at h3
    have hg := Nat.eq_of_beq_eq_true h3
    have key : ∀ x, x ∣ f → 2 ≤ x → x ≤ 177 → False := by
      intro x hx h2x h177
      have h4 : x ∣ Nat.gcd f F177 := Nat.dvd_gcd hx (by rw [fct_177]; exact dvd_fct 177 x (by omega) h177)
      rw [hg] at h4
      have := Nat.le_of_dvd (by decide) h4
      omega
    by_cases c3 : d ≤ 177
    · exact key d ⟨e, he⟩ (by omega) c3
    · by_cases c4 : e ≤ 177
      · exact key e ⟨d, by rw [he, Nat.mul_comm]⟩ (by omega) c4
      · have : 178 * 178 ≤ d * e := Nat.mul_le_mul (by omega) (by omega)
        omega
def one3 (P e : Nat) : Bool := Nat.beq (2 ^ e % P) 1 && Nat.beq (7 ^ e % P) 1 && Nat.beq (61 ^ e % P) 1
def okE (e : Nat × Nat × List Nat) : Bool := Nat.ble 3 e.1 && one3 e.1 e.2.1 && Nat.beq (prodL e.2.2) e.2.1 && e.2.2.all (fun f => isSP f && !(one3 e.1 (e.2.1 / f)))
theorem one3_fE {P e : Nat} (hP : 2 ≤ P) : one3 P e = true ↔ fE P e := by
  unfold one3 fE
  rw [Nat.mod_eq_of_lt (show 1 < P by omega)]
  simp only [Bool.and_eq_true, Nat.beq_eq, and_assoc]
/-- what is a power by which all three are 1 is a multiple of L -/
theorem okE_dvd {P L : Nat} {fs : List Nat} (h : okE (P, L, fs) = true) {e : Nat} (he : fE P e) : L ∣ e := by
  unfold okE at h
  simp only [Bool.and_eq_true, Nat.ble_eq] at h
  obtain ⟨⟨⟨h1, h2⟩, h3⟩, h4⟩ := h
  have h3 := Nat.eq_of_beq_eq_true h3
  have hg := fE_gcd L L e (Nat.le_refl _) ((one3_fE (by omega)).mp h2) he
  by_cases c : Nat.gcd L e = L
  · rw [← c]; exact Nat.gcd_dvd_right L e
  · exfalso
    have hL0 : L ≠ 0 := by
      intro q
      rw [q] at h3
      -- a product of primes isn't 0
      have : ∀ l : List Nat, (∀ f, f ∈ l → isSP f = true) → prodL l ≠ 0 := by
        intro l
        induction l with
        | nil => intro _; decide
        | cons a l ih =>
          intro hl
          have ha := (isSP_pr (hl a List.mem_cons_self)).1
          have hb := ih (fun f hf => hl f (List.mem_cons_of_mem _ hf))
          rw [prodL]
          exact Nat.mul_ne_zero (by omega) hb
      exact this fs (fun f hf => by have := List.all_eq_true.mp h4 f hf; simp only [Bool.and_eq_true] at this; exact this.1) h3
    obtain ⟨t, ht⟩ := Nat.gcd_dvd_left L e
    have ht1 : t ≠ 1 := by intro q; rw [q, Nat.mul_one] at ht; exact c ht.symm
    have ht0 : t ≠ 0 := by intro q; rw [q, Nat.mul_zero] at ht; exact hL0 ht
    obtain ⟨p, hp, hpt⟩ := nPr.ex t t (Nat.le_refl _) (by omega)
    obtain ⟨f, hf, hpf⟩ := prodL_dvd hp fs (by rw [h3, ht]; exact Nat.dvd_mul_left_of_dvd hpt _)
    have h5 := List.all_eq_true.mp h4 f hf
    simp only [Bool.and_eq_true, Bool.not_eq_true'] at h5
    have hfp := isSP_pr h5.1
    have epf : p = f := by
      rcases hfp.2 p hpf with q | q
      · have := hp.1; omega
      · exact q
    subst epf
    obtain ⟨u, rfl⟩ := hpt
    have h6 : L / p = Nat.gcd L e * u := by
      have : L = p * (Nat.gcd L e * u) := by rw [← Nat.mul_assoc, Nat.mul_comm p, Nat.mul_assoc]; exact ht
      have h7 := Nat.mul_div_cancel_left (Nat.gcd L e * u) hp.pos
      rw [← this] at h7
      exact h7
    have h8 := (one3_fE (P := P) (by omega)).mpr (h6 ▸ fE_mul u hg)
    rw [h8] at h5
    exact absurd h5.2 (by decide)
