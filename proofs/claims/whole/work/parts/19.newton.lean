/-! the class's curve: Newton's differences -/
def ivOK (p : Nat) (σ : hSt) (iv : Nat → Int) (m : Nat) : Prop := ∀ o : Nat, 1 ≤ o → o < m → σ.2.1 11 o = i64 (iv o) ∧ 0 ≤ iv o ∧ iv o < p ∧ (p : Int) ∣ o * iv o - 1
theorem p_inv_L {p m : Nat} (hp : nPr p) (hp2 : p ≤ 1000000007) (hm : m ≤ 101 ∧ m ≤ p) :
    ∀ n i N (σ : hSt) (iv : Nat → Int), i + n = max m 1 → n < N → 1 ≤ i → ivOK p σ iv i → ∃ (σ' : hSt) (iv' : Nat → Int), f_X3_fillInverses_L3 (i32 m) (i64 p) N σ (i32 i) = some ((), σ') ∧ fr [11] σ σ' ∧ ivOK p σ' iv' m := by
  intro n
  have hp1 := hp.1
  induction n with
  | zero =>
    intro i N σ iv hi hN h1 h
    obtain ⟨N, rfl⟩ : ∃ q, N = q + 1 := ⟨N - 1, by omega⟩
    refine ⟨σ, iv, ?_, fr_rf _ _, fun o a b => h o a (by omega)⟩
    rw [f_X3_fillInverses_L3]
    simp (disch := omega) only [↓reduceIte, iT_lt, iF_lt, iT_le, iF_le, iT_eq, iF_eq, nT_lt, nF_lt, nT_le, nF_le, nT_eq, nF_eq, and_self, and_true, true_and, and_false, false_and, not_true_eq_false, not_false_eq_true, ne_eq, or_self, or_false, false_or, or_true, true_or, Option.bind_some, i32_lit, i64_lit, i32_add, i32_sub, i32_mul, i32_neg, i64_add, i64_sub, i64_neg, i32_lt, i32_le, i32_eq, i64_lt, i64_le, i64_eq, i32_cn, i32_cl, i32_l, i64_i, i32_nat, Int.toNat_natCast, sI_2, sJ_1, sJ_22, sR_1, sR_21, sI_t, sI_r, sI_j, sJ_t, sJ_r, sJ_j, sR_t, sR_r, sR_j]
  | succ n ih =>
    intro i N σ iv hi hN h1 h
    obtain ⟨N, rfl⟩ : ∃ q, N = q + 1 := ⟨N - 1, by omega⟩
    have hr := p_rest (a := (p : Int)) (p := (i : Int)) ⟨by omega, by omega⟩ ⟨by omega, by omega⟩
    have hq := mod_rg (p : Int) (show (0 : Int) < i by omega)
    have step : ∀ v : Int, 0 ≤ v ∧ v < p → (p : Int) ∣ i * v - 1 → ∃ (σ' : hSt) (iv' : Nat → Int), f_X3_fillInverses_L3 (i32 m) (i64 p) N (sJ σ 11 i (i64 v)) (i32 ((i + 1 : Nat) : Int)) = some ((), σ') ∧ fr [11] σ σ' ∧ ivOK p σ' iv' m := by
      intro v hv hd
      obtain ⟨σ', iv', e1, e2, e3⟩ := ih (i + 1) N (sJ σ 11 i (i64 v)) (uI iv i v) (by omega) (by omega) (by omega) (fun o a b => by
        by_cases e : o = i
        · rw [sJ_t _ _ ⟨rfl, e⟩, uI_t _ _ e, e]; exact ⟨rfl, hv.1, hv.2, hd⟩
        · rw [sJ_j _ _ (by omega), uI_f _ _ (by omega)]; exact h o a (by omega))
      exact ⟨σ', iv', e1, fr_tr (fr_sJ σ _ (by rw [cd_a rfl]; decide)) e2, e3⟩
    have hj1 : (i32 (i : Int) + 1) = i32 ((i + 1 : Nat) : Int) := by rw [i32_lit, i32_add]; rfl
    rw [f_X3_fillInverses_L3, hj1]
    by_cases c : i = 1
    · subst c
      have s := step 1 ⟨by omega, by omega⟩ (by simp)
      simp (disch := omega) only [↓reduceIte, iT_lt, iF_lt, iT_le, iF_le, iT_eq, iF_eq, nT_lt, nF_lt, nT_le, nF_le, nT_eq, nF_eq, and_self, and_true, true_and, and_false, false_and, not_true_eq_false, not_false_eq_true, ne_eq, or_self, or_false, false_or, or_true, true_or, Option.bind_some, i32_lit, i64_lit, i32_add, i32_sub, i32_mul, i32_neg, i64_add, i64_sub, i64_neg, i32_lt, i32_le, i32_eq, i64_lt, i64_le, i64_eq, i32_cn, i32_cl, i32_l, i64_i, i32_nat, Int.toNat_natCast, sI_2, sJ_1, sJ_22, sR_1, sR_21, sI_t, sI_r, sI_j, sJ_t, sJ_r, sJ_j, sR_t, sR_r, sR_j, hr]
      exact s
    · have hr0 : (p : Int) % i ≠ 0 := by
        intro e
        have h2 : i ∣ p := Int.natCast_dvd_natCast.mp (Int.dvd_of_emod_eq_zero e)
        rcases hp.2 i h2 with q | q <;> omega
      have hl := h ((p : Int) % i).toNat (by omega) (by omega)
      have hd0 := Int.emod_add_mul_ediv (p : Int) i
      have hd1 : 1 ≤ (p : Int) / i := by
        rcases Int.lt_or_le ((p : Int) / i) 1 with q | q
        · exfalso
          have : (p : Int) / i = 0 := by have := Int.ediv_nonneg (a := (p : Int)) (b := (i : Int)) (by omega) (by omega); omega
          rw [this] at hd0
          omega
        · exact q
      have hd2 : (p : Int) / i ≤ p := Int.ediv_le_self _ (by omega)
      have hrN : (((p : Int) % i).toNat : Int) = (p : Int) % i := Int.toNat_of_nonneg hq.1
      rw [hrN] at hl
      have ht := p_times (a := (p : Int) - p / i) (b := iv ((p : Int) % i).toNat) (p := (p : Int)) ⟨by omega, by omega⟩ ⟨hl.2.1, hl.2.2.1⟩ (by omega)
      have s := step (((p : Int) - p / i) * iv ((p : Int) % i).toNat % p) (mod_rg _ (by omega)) (by
        have a1 : (p : Int) ∣ ((p : Int) - p / i) * iv ((p : Int) % i).toNat % p - ((p : Int) - p / i) * iv ((p : Int) % i).toNat := mod_dvd (Int.emod_emod_of_dvd _ (Int.dvd_refl _))
        have a2 := hl.2.2.2
        generalize iv ((p : Int) % i).toNat = w at a1 a2 ⊢
        generalize (p : Int) % i = r at a2 hd0
        generalize (p : Int) / i = q at a1 hd0 ⊢
        rw [show (i : Int) * (((p : Int) - q) * w % p) - 1 = i * (((p : Int) - q) * w % p - ((p : Int) - q) * w) + ((p : Int) * (i * w - w) + (r * w - 1)) by grind]
        exact Int.dvd_add (Int.dvd_mul_of_dvd_right a1) (Int.dvd_add (Int.dvd_mul_right _ _) a2))
      simp (disch := omega) only [↓reduceIte, iT_lt, iF_lt, iT_le, iF_le, iT_eq, iF_eq, nT_lt, nF_lt, nT_le, nF_le, nT_eq, nF_eq, and_self, and_true, true_and, and_false, false_and, not_true_eq_false, not_false_eq_true, ne_eq, or_self, or_false, false_or, or_true, true_or, Option.bind_some, i32_lit, i64_lit, i32_add, i32_sub, i32_mul, i32_neg, i64_add, i64_sub, i64_neg, i32_lt, i32_le, i32_eq, i64_lt, i64_le, i64_eq, i32_cn, i32_cl, i32_l, i64_i, i32_nat, Int.toNat_natCast, sI_2, sJ_1, sJ_22, sR_1, sR_21, sI_t, sI_r, sI_j, sJ_t, sJ_r, sJ_j, sR_t, sR_r, sR_j, hr, i64_div, hl.1, ht]
      exact s
theorem p_inv {F p m : Nat} {Z : hZ} (hF : 300 ≤ F) (hp : nPr p) (hp2 : p ≤ 1000000007) (hm : m ≤ 101 ∧ m ≤ p) (σ : hSt) : ∃ (σ' : hSt) (iv : Nat → Int), f_X3_fillInverses F Z σ (i32 m) (i64 p) = some ((), σ') ∧ fr [11] σ σ' ∧ ivOK p σ' iv m := by
  unfold f_X3_fillInverses
  exact p_inv_L hp hp2 hm (max m 1 - 1) 1 F σ (fun _ => 0) (by omega) (by omega) (by omega) (fun o a b => absurd b (by omega))
theorem p_cp_L {r m : Nat} {p x : Int64} {f : Nat → Int} (hr : r ≠ 10) (hm : m ≤ 101 ∧ m ≤ jlen r) (hj : jlen r ≤ 101) (K : hSt → Option (Int64 × hSt)) :
    ∀ n i N (σ : hSt), i + n = m → n < N → rowJ σ r f m → rowJ σ 10 f i → ∃ σ', f_X3_curveAt_L41 r p x (i32 m) K N σ (i32 i) = K σ' ∧ fr [10] σ σ' ∧ rowJ σ' 10 f m := by
  intro n
  induction n with
  | zero =>
    intro i N σ hi hN h1 h2
    obtain ⟨N, rfl⟩ : ∃ q, N = q + 1 := ⟨N - 1, by omega⟩
    obtain rfl : i = m := by omega
    refine ⟨σ, ?_, fr_rf _ _, h2⟩
    rw [f_X3_curveAt_L41]
    simp (disch := omega) only [↓reduceIte, iT_lt, iF_lt, iT_le, iF_le, iT_eq, iF_eq, nT_lt, nF_lt, nT_le, nF_le, nT_eq, nF_eq, and_self, and_true, true_and, and_false, false_and, not_true_eq_false, not_false_eq_true, ne_eq, or_self, or_false, false_or, or_true, true_or, Option.bind_some, i32_lit, i64_lit, i32_add, i32_sub, i32_mul, i32_neg, i64_add, i64_sub, i64_neg, i32_lt, i32_le, i32_eq, i64_lt, i64_le, i64_eq, i32_cn, i32_cl, i32_l, i64_i, i32_nat, Int.toNat_natCast, sI_2, sJ_1, sJ_22, sR_1, sR_21, sI_t, sI_r, sI_j, sJ_t, sJ_r, sJ_j, sR_t, sR_r, sR_j]
  | succ n ih =>
    intro i N σ hi hN h1 h2
    obtain ⟨N, rfl⟩ : ∃ q, N = q + 1 := ⟨N - 1, by omega⟩
    obtain ⟨σ', e1, e2, e3⟩ := ih (i + 1) N (sJ σ 10 i (i64 (f i))) (by omega) (by omega) (fun o ho => by rw [sJ_r _ _ (by omega)]; exact h1 o ho) (fun o ho => by
      by_cases e : o = i
      · rw [sJ_t _ _ ⟨rfl, e⟩, e]
      · rw [sJ_j _ _ (by omega)]; exact h2 o (by omega))
    refine ⟨σ', ?_, fr_tr (fr_sJ σ _ (by rw [cd_a rfl]; decide)) e2, e3⟩
    rw [← e1, f_X3_curveAt_L41]
    simp (disch := omega) only [↓reduceIte, iT_lt, iF_lt, iT_le, iF_le, iT_eq, iF_eq, nT_lt, nF_lt, nT_le, nF_le, nT_eq, nF_eq, and_self, and_true, true_and, and_false, false_and, not_true_eq_false, not_false_eq_true, ne_eq, or_self, or_false, false_or, or_true, true_or, Option.bind_some, i32_lit, i64_lit, i32_add, i32_sub, i32_mul, i32_neg, i64_add, i64_sub, i64_neg, i32_lt, i32_le, i32_eq, i64_lt, i64_le, i64_eq, i32_cn, i32_cl, i32_l, i64_i, i32_nat, Int.toNat_natCast, sI_2, sJ_1, sJ_22, sR_1, sR_21, sI_t, sI_r, sI_j, sJ_t, sJ_r, sJ_j, sR_t, sR_r, sR_j, h1 i (by omega)]
    rfl
/-- a row of differences: the first ones of order o + 1, the others of order o -/
theorem p_df_L {m o : Nat} {p : Int} {x t b : Int64} {f : Nat → Int} (hp : 1 < p ∧ p ≤ 1000000007) (hm : m ≤ 101) (ho : o < m) (K : hSt → Option (Int64 × hSt)) :
    ∀ n i N (σ : hSt), i + n + 1 = m - o → n < N → (∀ j, j < i → σ.2.1 10 j = i64 (dl f (o + 1) j % p)) → (∀ j, i ≤ j → j < m - o → σ.2.1 10 j = i64 (dl f o j % p)) → ∃ σ', f_X3_curveAt_L111 (i64 p) x (i32 m) t b (i32 o) K N σ (i32 i) = K σ' ∧ fr [10] σ σ' ∧ ∀ j, j < m - (o + 1) → σ'.2.1 10 j = i64 (dl f (o + 1) j % p) := by
  intro n
  induction n with
  | zero =>
    intro i N σ hi hN h1 h2
    obtain ⟨N, rfl⟩ : ∃ q, N = q + 1 := ⟨N - 1, by omega⟩
    refine ⟨σ, ?_, fr_rf _ _, fun j hj => h1 j (by omega)⟩
    rw [f_X3_curveAt_L111]
    simp (disch := omega) only [↓reduceIte, iT_lt, iF_lt, iT_le, iF_le, iT_eq, iF_eq, nT_lt, nF_lt, nT_le, nF_le, nT_eq, nF_eq, and_self, and_true, true_and, and_false, false_and, not_true_eq_false, not_false_eq_true, ne_eq, or_self, or_false, false_or, or_true, true_or, Option.bind_some, i32_lit, i64_lit, i32_add, i32_sub, i32_mul, i32_neg, i64_add, i64_sub, i64_neg, i32_lt, i32_le, i32_eq, i64_lt, i64_le, i64_eq, i32_cn, i32_cl, i32_l, i64_i, i32_nat, Int.toNat_natCast, sI_2, sJ_1, sJ_22, sR_1, sR_21, sI_t, sI_r, sI_j, sJ_t, sJ_r, sJ_j, sR_t, sR_r, sR_j]
  | succ n ih =>
    intro i N σ hi hN h1 h2
    obtain ⟨N, rfl⟩ : ∃ q, N = q + 1 := ⟨N - 1, by omega⟩
    have ra := mod_rg (dl f o (i + 1)) (by omega : 0 < p)
    have rb := mod_rg (dl f o i) (by omega : 0 < p)
    have mm := p_minus ra rb hp.2
    rw [← Int.sub_emod] at mm
    obtain ⟨σ', e1, e2, e3⟩ := ih (i + 1) N (sJ σ 10 i (i64 (dl f (o + 1) i % p))) (by omega) (by omega) (fun j hj => by
      by_cases e : j = i
      · rw [sJ_t _ _ ⟨rfl, e⟩, e]
      · rw [sJ_j _ _ (by omega)]; exact h1 j (by omega)) (fun j ha hb => by rw [sJ_j _ _ (by omega)]; exact h2 j (by omega) hb)
    refine ⟨σ', ?_, fr_tr (fr_sJ σ _ (by rw [cd_a rfl]; decide)) e2, e3⟩
    have g1 := h2 (i + 1) (by omega) (by omega)
    have g2 := h2 i (by omega) (by omega)
    have ec : (i : Int) + 1 = ((i + 1 : Nat) : Int) := rfl
    rw [← e1, f_X3_curveAt_L111]
    simp (disch := omega) only [↓reduceIte, iT_lt, iF_lt, iT_le, iF_le, iT_eq, iF_eq, nT_lt, nF_lt, nT_le, nF_le, nT_eq, nF_eq, and_self, and_true, true_and, and_false, false_and, not_true_eq_false, not_false_eq_true, ne_eq, or_self, or_false, false_or, or_true, true_or, Option.bind_some, i32_lit, i64_lit, i32_add, i32_sub, i32_mul, i32_neg, i64_add, i64_sub, i64_neg, i32_lt, i32_le, i32_eq, i64_lt, i64_le, i64_eq, i32_cn, i32_cl, i32_l, i64_i, i32_nat, Int.toNat_natCast, sI_2, sJ_1, sJ_22, sR_1, sR_21, sI_t, sI_r, sI_j, sJ_t, sJ_r, sJ_j, sR_t, sR_r, sR_j, ec, g1, g2, mm]
    rfl
theorem p_nw_L {F p m : Nat} {x : Int} {iv f : Nat → Int} (hF : 300 ≤ F) (hp : nPr p) (hp2 : p ≤ 1000000007) (hm : m ≤ 101 ∧ m ≤ p) (hx : 0 ≤ x ∧ x ≤ 2147483647) :
    ∀ n o N (σ : hSt) (b : Int), o + n = m → n < N → ivOK p σ iv m → (∀ j, j < m - o → σ.2.1 10 j = i64 (dl f o j % p)) → 0 ≤ b ∧ b < p → (o < m → (p : Int) ∣ b - fal x o * jv iv o) → ∃ σ', f_X3_curveAt_L81 F (i64 p) (i64 x) (i32 m) N σ (i64 (nw iv f x o % p)) (i64 b) (i32 o) = some (i64 (nw iv f x m % p), σ') ∧ fr [10] σ σ' := by
  intro n
  have hp1 := hp.1
  induction n with
  | zero =>
    intro o N σ b ho hN hiv hd hb hbd
    obtain ⟨N, rfl⟩ : ∃ q, N = q + 1 := ⟨N - 1, by omega⟩
    obtain rfl : o = m := by omega
    refine ⟨σ, ?_, fr_rf _ _⟩
    rw [f_X3_curveAt_L81]
    simp (disch := omega) only [↓reduceIte, iT_lt, iF_lt, iT_le, iF_le, iT_eq, iF_eq, nT_lt, nF_lt, nT_le, nF_le, nT_eq, nF_eq, and_self, and_true, true_and, and_false, false_and, not_true_eq_false, not_false_eq_true, ne_eq, or_self, or_false, false_or, or_true, true_or, Option.bind_some, i32_lit, i64_lit, i32_add, i32_sub, i32_mul, i32_neg, i64_add, i64_sub, i64_neg, i32_lt, i32_le, i32_eq, i64_lt, i64_le, i64_eq, i32_cn, i32_cl, i32_l, i64_i, i32_nat, Int.toNat_natCast, sI_2, sJ_1, sJ_22, sR_1, sR_21, sI_t, sI_r, sI_j, sJ_t, sJ_r, sJ_j, sR_t, sR_r, sR_j]
  | succ n ih =>
    intro o N σ b ho hN hiv hd hb hbd
    obtain ⟨N, rfl⟩ : ∃ q, N = q + 1 := ⟨N - 1, by omega⟩
    have hpI : (0 : Int) < p := by omega
    have d0 := hd 0 (by omega)
    have t1 := p_times hb (mod_rg (dl f o 0) hpI) (by omega)
    have t2 := p_plus (mod_rg (nw iv f x o) hpI) (mod_rg (b * (dl f o 0 % p)) hpI) (by omega)
    have e9 : (nw iv f x o % p + b * (dl f o 0 % p) % p) % p = nw iv f x (o + 1) % p := by
      rw [nw]
      refine dvd_mod ?_
      have a1 : (p : Int) ∣ nw iv f x o % p - nw iv f x o := mod_dvd (Int.emod_emod_of_dvd _ (Int.dvd_refl _))
      have a2 : (p : Int) ∣ b * (dl f o 0 % p) % p - b * (dl f o 0 % p) := mod_dvd (Int.emod_emod_of_dvd _ (Int.dvd_refl _))
      have a3 : (p : Int) ∣ dl f o 0 % p - dl f o 0 := mod_dvd (Int.emod_emod_of_dvd _ (Int.dvd_refl _))
      have a4 := hbd (by omega)
      rw [show nw iv f x o % p + b * (dl f o 0 % p) % p - (nw iv f x o + fal x o * jv iv o * dl f o 0) = (nw iv f x o % p - nw iv f x o) + ((b * (dl f o 0 % p) % p - b * (dl f o 0 % p)) + (b * (dl f o 0 % p - dl f o 0) + (b - fal x o * jv iv o) * dl f o 0)) by grind]
      exact Int.dvd_add a1 (Int.dvd_add a2 (Int.dvd_add (Int.dvd_mul_of_dvd_right a3) (Int.dvd_mul_of_dvd_left a4)))
    rw [e9] at t2
    rw [f_X3_curveAt_L81]
    have dl1 := fun (K : hSt → Option (Int64 × hSt)) => p_df_L (m := m) (o := o) (p := (p : Int)) (x := i64 x) (t := i64 (nw iv f x (o + 1) % p)) (b := i64 b) (f := f) ⟨by omega, by omega⟩ hm.1 (by omega) K (m - o - 1) 0 F σ (by omega) (by omega) (fun j hj => absurd hj (Nat.not_lt_zero j)) (fun j _ hj => hd j hj)
    have ec : (o : Int) + 1 = ((o + 1 : Nat) : Int) := rfl
    by_cases c : m = o + 1
    · obtain ⟨σ1, a1, a2, a3⟩ := dl1 (fun σ1 => f_X3_curveAt_L81 F (i64 p) (i64 x) (i32 m) N σ1 (i64 (nw iv f x (o + 1) % p)) (i64 b) (i32 ((o + 1 : Nat) : Int)))
      have hiv1 : ivOK p σ1 iv m := by unfold ivOK; rw [fr_J a2 11 rfl (by decide)]; exact hiv
      obtain ⟨σ2, b1, b2⟩ := ih (o + 1) N σ1 b (by omega) (by omega) hiv1 a3 hb (fun h => absurd h (by omega))
      refine ⟨σ2, ?_, fr_tr a2 b2⟩
      rw [← b1]
      refine Eq.trans ?_ a1
      simp (disch := omega) only [↓reduceIte, iT_lt, iF_lt, iT_le, iF_le, iT_eq, iF_eq, nT_lt, nF_lt, nT_le, nF_le, nT_eq, nF_eq, and_self, and_true, true_and, and_false, false_and, not_true_eq_false, not_false_eq_true, ne_eq, or_self, or_false, false_or, or_true, true_or, Option.bind_some, i32_lit, i64_lit, i32_add, i32_sub, i32_mul, i32_neg, i64_add, i64_sub, i64_neg, i32_lt, i32_le, i32_eq, i64_lt, i64_le, i64_eq, i32_cn, i32_cl, i32_l, i64_i, i32_nat, Int.toNat_natCast, sI_2, sJ_1, sJ_22, sR_1, sR_21, sI_t, sI_r, sI_j, sJ_t, sJ_r, sJ_j, sR_t, sR_r, sR_j, Int.toNat_zero, d0, t1, t2]
      rfl
    · have hiv2 := hiv (o + 1) (by omega) (by omega)
      have r3 := mod_rg (x - o) hpI
      have t3 := p_rest (a := x - o) (p := (p : Int)) ⟨by omega, by omega⟩ ⟨by omega, by omega⟩
      have t4 := p_times hb r3 (by omega)
      have t5 := p_times (mod_rg (b * ((x - o) % p)) hpI) ⟨hiv2.2.1, hiv2.2.2.1⟩ (by omega)
      obtain ⟨σ1, a1, a2, a3⟩ := dl1 (fun σ1 => (f_X3_times (i64 (b * ((x - o) % p) % p)) (σ1.2.1 11 (o + 1)) (i64 p)).bind fun q19 => f_X3_curveAt_L81 F (i64 p) (i64 x) (i32 m) N σ1 (i64 (nw iv f x (o + 1) % p)) q19 (i32 ((o + 1 : Nat) : Int)))
      have hiv1 : ivOK p σ1 iv m := by unfold ivOK; rw [fr_J a2 11 rfl (by decide)]; exact hiv
      obtain ⟨σ2, b1, b2⟩ := ih (o + 1) N σ1 (b * ((x - o) % p) % p * iv (o + 1) % p) (by omega) (by omega) hiv1 a3 (mod_rg _ hpI) (fun h => by
        rw [fal, jv]
        have a4 := hbd (by omega)
        have a5 : (p : Int) ∣ b * ((x - o) % p) % p * iv (o + 1) % p - b * (x - o) * iv (o + 1) := by
          refine mod_dvd ?_
          rw [Int.emod_emod_of_dvd _ (Int.dvd_refl _), Int.mul_emod, Int.emod_emod_of_dvd _ (Int.dvd_refl _), Int.mul_emod b, Int.emod_emod_of_dvd _ (Int.dvd_refl _), ← Int.mul_emod b, ← Int.mul_emod]
        rw [show b * ((x - o) % p) % p * iv (o + 1) % p - fal x o * (x - o) * (jv iv o * iv (o + 1)) = (b * ((x - o) % p) % p * iv (o + 1) % p - b * (x - o) * iv (o + 1)) + (b - fal x o * jv iv o) * ((x - o) * iv (o + 1)) by grind]
        exact Int.dvd_add a5 (Int.dvd_mul_of_dvd_left a4))
      refine ⟨σ2, ?_, fr_tr a2 b2⟩
      have h7 := (hiv1 (o + 1) (by omega) (by omega)).1
      rw [← b1]
      refine Eq.trans ?_ (a1.trans ?_)
      · simp (disch := omega) only [↓reduceIte, iT_lt, iF_lt, iT_le, iF_le, iT_eq, iF_eq, nT_lt, nF_lt, nT_le, nF_le, nT_eq, nF_eq, and_self, and_true, true_and, and_false, false_and, not_true_eq_false, not_false_eq_true, ne_eq, or_self, or_false, false_or, or_true, true_or, Option.bind_some, i32_lit, i64_lit, i32_add, i32_sub, i32_mul, i32_neg, i64_add, i64_sub, i64_neg, i32_lt, i32_le, i32_eq, i64_lt, i64_le, i64_eq, i32_cn, i32_cl, i32_l, i64_i, i32_nat, Int.toNat_natCast, sI_2, sJ_1, sJ_22, sR_1, sR_21, sI_t, sI_r, sI_j, sJ_t, sJ_r, sJ_j, sR_t, sR_r, sR_j, Int.toNat_zero, d0, t1, t2, t3, t4]
        rfl
      · show (f_X3_times _ (σ1.2.1 11 (o + 1)) _).bind _ = _
        rw [h7, t5]
        rfl
theorem p_nwS {F p m r : Nat} {Z : hZ} {x : Int} {f : Nat → Int} (hF : 300 ≤ F) (hp : nPr p) (hp2 : p ≤ 1000000007) (hm : m ≤ 101 ∧ m ≤ p ∧ m ≤ jlen r) (hj : jlen r ≤ 101) (hr : r ≠ 10) (hx : 0 ≤ x ∧ x < p) (σ : hSt) (hf : rowJ σ r f m) (hfp : inP p f m) :
    ∃ σ', f_X3_curveAt F Z σ r (i32 m) (i64 p) (i64 x) = some (i64 (CV p f m x), σ') ∧ fr [10, 11] σ σ' := by
  have hp1 := hp.1
  unfold f_X3_curveAt
  have es : (if (if (101 : Int32) < Int32.ofNat (jlen r) then (101 : Int32) else Int32.ofNat (jlen r)) < i32 m then (if (101 : Int32) < Int32.ofNat (jlen r) then (101 : Int32) else Int32.ofNat (jlen r)) else i32 m) = i32 m := by
    simp (disch := omega) only [↓reduceIte, iT_lt, iF_lt, iT_le, iF_le, iT_eq, iF_eq, nT_lt, nF_lt, nT_le, nF_le, nT_eq, nF_eq, and_self, and_true, true_and, and_false, false_and, not_true_eq_false, not_false_eq_true, ne_eq, or_self, or_false, false_or, or_true, true_or, Option.bind_some, i32_lit, i64_lit, i32_add, i32_sub, i32_mul, i32_neg, i64_add, i64_sub, i64_neg, i32_lt, i32_le, i32_eq, i64_lt, i64_le, i64_eq, i32_cn, i32_cl, i32_l, i64_i, i32_nat, Int.toNat_natCast, sI_2, sJ_1, sJ_22, sR_1, sR_21, sI_t, sI_r, sI_j, sJ_t, sJ_r, sJ_j, sR_t, sR_r, sR_j]
  simp only [es]
  by_cases c : (m : Int) ≤ x
  · obtain ⟨σ1, a1, a2, a3⟩ := p_cp_L (p := i64 p) (x := i64 x) hr ⟨hm.1, hm.2.2⟩ hj (fun σ1 => (f_X3_fillInverses F Z σ1 (i32 m) (i64 p)).bind fun q21 => f_X3_curveAt_L81 F (i64 p) (i64 x) (i32 m) F q21.2 (i64 0) (i64 1) (i32 0)) m 0 F σ (by omega) (by omega) hf (fun o ho => absurd ho (Nat.not_lt_zero o))
    obtain ⟨σ2, iv, b1, b2, b3⟩ := p_inv (Z := Z) hF hp hp2 ⟨hm.1, hm.2.1⟩ σ1
    obtain ⟨σ3, c1, c2⟩ := p_nw_L (x := x) (iv := iv) (f := f) hF hp hp2 ⟨hm.1, hm.2.1⟩ ⟨by omega, by omega⟩ m 0 F σ2 1 (by omega) (by omega) b3 (fun j hj => by
      rw [fr_J b2 10 rfl (by decide), a3 j hj, dl, Int.emod_eq_of_lt (hfp j hj).1 (hfp j hj).2]) (by omega) (fun _ => by simp [fal, jv])
    refine ⟨σ3, ?_, fr_tr (fr_tr (fr_mono a2 (by decide)) (fr_mono b2 (by decide))) (fr_mono c2 (by decide))⟩
    rw [CV_nw hp hm.2.1 (fun o a b => (b3 o a b).2.2.2)]
    rw [nw, Int.zero_emod] at c1
    rw [← c1]
    simp (disch := omega) only [↓reduceIte, iT_lt, iF_lt, iT_le, iF_le, iT_eq, iF_eq, nT_lt, nF_lt, nT_le, nF_le, nT_eq, nF_eq, and_self, and_true, true_and, and_false, false_and, not_true_eq_false, not_false_eq_true, ne_eq, or_self, or_false, false_or, or_true, true_or, Option.bind_some, i32_lit, i64_lit, i32_add, i32_sub, i32_mul, i32_neg, i64_add, i64_sub, i64_neg, i32_lt, i32_le, i32_eq, i64_lt, i64_le, i64_eq, i32_cn, i32_cl, i32_l, i64_i, i32_nat, Int.toNat_natCast, sI_2, sJ_1, sJ_22, sR_1, sR_21, sI_t, sI_r, sI_j, sJ_t, sJ_r, sJ_j, sR_t, sR_r, sR_j]
    refine a1.trans ?_
    rw [b1]
    rfl
  · refine ⟨σ, ?_, fr_rf _ _⟩
    have hh := hf x.toNat (by omega)
    simp (disch := omega) only [↓reduceIte, iT_lt, iF_lt, iT_le, iF_le, iT_eq, iF_eq, nT_lt, nF_lt, nT_le, nF_le, nT_eq, nF_eq, and_self, and_true, true_and, and_false, false_and, not_true_eq_false, not_false_eq_true, ne_eq, or_self, or_false, false_or, or_true, true_or, Option.bind_some, i32_lit, i64_lit, i32_add, i32_sub, i32_mul, i32_neg, i64_add, i64_sub, i64_neg, i32_lt, i32_le, i32_eq, i64_lt, i64_le, i64_eq, i32_cn, i32_cl, i32_l, i64_i, i32_nat, Int.toNat_natCast, sI_2, sJ_1, sJ_22, sR_1, sR_21, sI_t, sI_r, sI_j, sJ_t, sJ_r, sJ_j, sR_t, sR_r, sR_j, hh]
    have := CV_at hp hm.2.1 (f := f) (i := x.toNat) (by omega)
    rw [Int.toNat_of_nonneg (by omega)] at this
    rw [this, Int.emod_eq_of_lt (hfp x.toNat (by omega)).1 (hfp x.toNat (by omega)).2]
