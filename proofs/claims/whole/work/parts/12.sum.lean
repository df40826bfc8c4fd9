/-! the model's WORTH -/
def mSg (τ : hSt) (s : Nat) (c : Nat → Int) (n : Nat) : Prop := s < 21 ∧ τ.1 203 s = i32 (n : Nat) ∧ ∀ j, j < n → τ.1 202 (200 * s + j) = i32 (c j)
theorem mSg_fr {W : List Nat} {τ υ : hSt} {s n : Nat} {c : Nat → Int} (h : fr W τ υ) (h1 : 202 ∉ W) (h2 : 203 ∉ W) (q : mSg τ s c n) : mSg υ s c n := by
  refine ⟨q.1, ?_, fun j hj => ?_⟩
  · rw [fr_I h 203 rfl h2]; exact q.2.1
  · rw [fr_I h 202 rfl h1]; exact q.2.2 j hj
theorem p_mrest {a p : Int} (hp : 0 < p ∧ p ≤ 9223372036854775807) (ha : -4611686018427387904 ≤ a ∧ a ≤ 4611686018427387904) : f_X12_rest (i64 a) (i64 p) = some (i64 (a % p)) := by
  unfold f_X12_rest
  have e1 : i64 a - i64 a / i64 p * i64 p = i64 (a.tmod p) := by
    rw [i64_tdiv (by omega), i64_mul, i64_sub]
    have := Int.tmod_def a p
    rw [this, Int.mul_comm p]
  have h8 : a % p = (a.tmod p) % p := by
    have := Int.tmod_def a p
    rw [show a.tmod p = a + p * (-(a.tdiv p)) by rw [Int.mul_neg]; omega, Int.add_mul_emod_self_left]
  simp only [e1]
  by_cases h : 0 ≤ a
  · have := mod_rg a hp.1
    rw [Int.tmod_eq_emod_of_nonneg h]
    simp (disch := omega) only [↓reduceIte, iT_lt, iF_lt, iT_le, iF_le, iT_eq, iF_eq, nT_lt, nF_lt, nT_le, nF_le, nT_eq, nF_eq, and_self, and_true, true_and, and_false, false_and, not_true_eq_false, not_false_eq_true, ne_eq, or_self, or_false, false_or, or_true, true_or, Option.bind_some, i32_lit, i64_lit, i32_add, i32_sub, i32_mul, i32_neg, i64_add, i64_sub, i64_neg, i32_lt, i32_le, i32_eq, i64_lt, i64_le, i64_eq, i32_cn, i32_cl, i32_l, i64_i, i32_nat, Int.toNat_natCast, sI_2, sJ_1, sJ_22, sR_1, sR_21, sI_t, sI_r, sI_j, sJ_t, sJ_r, sJ_j, sR_t, sR_r, sR_j]
  · have h3 : a.tmod p = -((-a) % p) := by
      rw [← Int.tmod_eq_emod_of_nonneg (by omega : 0 ≤ -a), Int.neg_tmod, Int.neg_neg]
    have h4 := mod_rg (-a) hp.1
    by_cases h6 : 0 ≤ a.tmod p
    · simp (disch := omega) only [↓reduceIte, iT_lt, iF_lt, iT_le, iF_le, iT_eq, iF_eq, nT_lt, nF_lt, nT_le, nF_le, nT_eq, nF_eq, and_self, and_true, true_and, and_false, false_and, not_true_eq_false, not_false_eq_true, ne_eq, or_self, or_false, false_or, or_true, true_or, Option.bind_some, i32_lit, i64_lit, i32_add, i32_sub, i32_mul, i32_neg, i64_add, i64_sub, i64_neg, i32_lt, i32_le, i32_eq, i64_lt, i64_le, i64_eq, i32_cn, i32_cl, i32_l, i64_i, i32_nat, Int.toNat_natCast, sI_2, sJ_1, sJ_22, sR_1, sR_21, sI_t, sI_r, sI_j, sJ_t, sJ_r, sJ_j, sR_t, sR_r, sR_j]
      rw [h8, Int.emod_eq_of_lt h6 (by omega)]
    · simp (disch := omega) only [↓reduceIte, iT_lt, iF_lt, iT_le, iF_le, iT_eq, iF_eq, nT_lt, nF_lt, nT_le, nF_le, nT_eq, nF_eq, and_self, and_true, true_and, and_false, false_and, not_true_eq_false, not_false_eq_true, ne_eq, or_self, or_false, false_or, or_true, true_or, Option.bind_some, i32_lit, i64_lit, i32_add, i32_sub, i32_mul, i32_neg, i64_add, i64_sub, i64_neg, i32_lt, i32_le, i32_eq, i64_lt, i64_le, i64_eq, i32_cn, i32_cl, i32_l, i64_i, i32_nat, Int.toNat_natCast, sI_2, sJ_1, sJ_22, sR_1, sR_21, sI_t, sI_r, sI_j, sJ_t, sJ_r, sJ_j, sR_t, sR_r, sR_j]
      rw [h8, ← Int.add_emod_right, Int.emod_eq_of_lt (by omega) (by omega)]
theorem p_mworth_L {s n : Nat} {p : Int} {pt c : Nat → Int} (hw : wf c n) (hp : 1 < p ∧ p ≤ 1000000007) (hpt : inP p pt 6) :
    ∀ k j N τ, j + k = n → k < N → mSg τ s c n → rowJ τ 208 pt 6 → rowJ τ 207 (wS p pt c j) (hg c j) → ∃ υ, f_X12_worthAt_L6 (i32 s) (i64 p) N τ (i32 (hg c j : Nat)) (i32 (j : Nat)) = some (i64 (Wv p pt c n), υ) ∧ fr [207] τ υ := by
  intro k
  induction k with
  | zero =>
    intro j N τ hj hN hs h9 h8
    obtain ⟨N, rfl⟩ : ∃ q, N = q + 1 := ⟨N - 1, by omega⟩
    obtain rfl : j = n := by omega
    have := hw.1
    have h1 := hs.1
    have h0 := h8 0 (by rw [hw.2.2.2]; exact Nat.one_pos)
    refine ⟨τ, ?_, fr_rf _ _⟩
    rw [f_X12_worthAt_L6]
    simp (disch := omega) only [↓reduceIte, iT_lt, iF_lt, iT_le, iF_le, iT_eq, iF_eq, nT_lt, nF_lt, nT_le, nF_le, nT_eq, nF_eq, and_self, and_true, true_and, and_false, false_and, not_true_eq_false, not_false_eq_true, ne_eq, or_self, or_false, false_or, or_true, true_or, Option.bind_some, i32_lit, i64_lit, i32_add, i32_sub, i32_mul, i32_neg, i64_add, i64_sub, i64_neg, i32_lt, i32_le, i32_eq, i64_lt, i64_le, i64_eq, i32_cn, i32_cl, i32_l, i64_i, i32_nat, Int.toNat_natCast, sI_2, sJ_1, sJ_22, sR_1, sR_21, sI_t, sI_r, sI_j, sJ_t, sJ_r, sJ_j, sR_t, sR_r, sR_j, hs.2.1, Int.toNat_zero, h0]
    rfl
  | succ k ih =>
    intro j N τ hj hN hs h9 h8
    obtain ⟨N, rfl⟩ : ∃ q, N = q + 1 := ⟨N - 1, by omega⟩
    have hn := hw.1
    have hs1 := hs.1
    have h2 := hw.2.1 j (by omega)
    have hh := hw.2.2.1 j (by omega)
    have hR := wS_rg (by omega) hw hpt j (by omega)
    rw [f_X12_worthAt_L6]
    have hc := hs.2.2 j (by omega)
    have hidx : (200 * (s : Int) + (j : Int)).toNat = 200 * s + j := by omega
    have step : ∀ (v : Int64) (q : Nat) (w : Int), v = i64 w → (∀ i, i < hg c (j + 1) → wS p pt c (j + 1) i = uI (wS p pt c j) q w i) → (hg c (j + 1) ≤ hg c j ∨ hg c (j + 1) = q + 1 ∧ q = hg c j) → ∃ υ, f_X12_worthAt_L6 (i32 s) (i64 p) N (sJ τ 207 q v) (i32 (hg c (j + 1) : Nat)) (i32 ((j + 1 : Nat) : Int)) = some (i64 (Wv p pt c n), υ) ∧ fr [207] τ υ := by
      intro v q w hv hf hq
      have hfr : fr [207] τ (sJ τ 207 q v) := fr_sJ τ v (by rw [cd_a rfl]; decide)
      obtain ⟨υ, e1, e2⟩ := ih (j + 1) N (sJ τ 207 q v) (by omega) (by omega) (mSg_fr hfr (by decide) (by decide) hs) (fun i hi => by rw [sJ_r _ _ (by omega)]; exact h9 i hi) (fun i hi => by
        rw [hf i hi]
        by_cases e : i = q
        · rw [sJ_t _ _ ⟨rfl, e⟩, uI_t _ _ e, hv]
        · rw [sJ_j _ _ (by omega), uI_f _ _ (by omega)]; exact h8 i (by omega))
      exact ⟨υ, e1, fr_tr hfr e2⟩
    have hj1 : (i32 (j : Int) + 1) = i32 ((j + 1 : Nat) : Int) := by rw [i32_lit, i32_add]; rfl
    rw [hj1]
    by_cases c1 : c j < 6
    · have hg1 : hg c (j + 1) = hg c j + 1 := by simp (disch := omega) only [↓reduceIte, iT_lt, iF_lt, iT_le, iF_le, iT_eq, iF_eq, nT_lt, nF_lt, nT_le, nF_le, nT_eq, nF_eq, and_self, and_true, true_and, and_false, false_and, not_true_eq_false, not_false_eq_true, ne_eq, or_self, or_false, false_or, or_true, true_or, Option.bind_some, i32_lit, i64_lit, i32_add, i32_sub, i32_mul, i32_neg, i64_add, i64_sub, i64_neg, i32_lt, i32_le, i32_eq, i64_lt, i64_le, i64_eq, i32_cn, i32_cl, i32_l, i64_i, i32_nat, Int.toNat_natCast, hg]
      have s := step (i64 (pt (c j).toNat)) (hg c j) (pt (c j).toNat) rfl (fun i hi => by simp (disch := omega) only [↓reduceIte, iT_lt, iF_lt, iT_le, iF_le, iT_eq, iF_eq, nT_lt, nF_lt, nT_le, nF_le, nT_eq, nF_eq, and_self, and_true, true_and, and_false, false_and, not_true_eq_false, not_false_eq_true, ne_eq, or_self, or_false, false_or, or_true, true_or, Option.bind_some, i32_lit, i64_lit, i32_add, i32_sub, i32_mul, i32_neg, i64_add, i64_sub, i64_neg, i32_lt, i32_le, i32_eq, i64_lt, i64_le, i64_eq, i32_cn, i32_cl, i32_l, i64_i, i32_nat, Int.toNat_natCast, wS]) (Or.inr ⟨hg1, rfl⟩)
      rw [hg1] at s
      have h99 := h9 (c j).toNat (by omega)
      simp (disch := omega) only [↓reduceIte, iT_lt, iF_lt, iT_le, iF_le, iT_eq, iF_eq, nT_lt, nF_lt, nT_le, nF_le, nT_eq, nF_eq, and_self, and_true, true_and, and_false, false_and, not_true_eq_false, not_false_eq_true, ne_eq, or_self, or_false, false_or, or_true, true_or, Option.bind_some, i32_lit, i64_lit, i32_add, i32_sub, i32_mul, i32_neg, i64_add, i64_sub, i64_neg, i32_lt, i32_le, i32_eq, i64_lt, i64_le, i64_eq, i32_cn, i32_cl, i32_l, i64_i, i32_nat, Int.toNat_natCast, sI_2, sJ_1, sJ_22, sR_1, sR_21, sI_t, sI_r, sI_j, sJ_t, sJ_r, sJ_j, sR_t, sR_r, sR_j, hs.2.1, hidx, hc, h99]
      exact s
    · by_cases c2 : c j = 6
      · have hg1 : hg c (j + 1) = hg c j := by simp (disch := omega) only [↓reduceIte, iT_lt, iF_lt, iT_le, iF_le, iT_eq, iF_eq, nT_lt, nF_lt, nT_le, nF_le, nT_eq, nF_eq, and_self, and_true, true_and, and_false, false_and, not_true_eq_false, not_false_eq_true, ne_eq, or_self, or_false, false_or, or_true, true_or, Option.bind_some, i32_lit, i64_lit, i32_add, i32_sub, i32_mul, i32_neg, i64_add, i64_sub, i64_neg, i32_lt, i32_le, i32_eq, i64_lt, i64_le, i64_eq, i32_cn, i32_cl, i32_l, i64_i, i32_nat, Int.toNat_natCast, hg]
        have h3 := h2.2.2.1 c2
        have s := step (i64 ((1 - wS p pt c j (hg c j - 1)) % p)) (hg c j - 1) _ rfl (fun i hi => by simp (disch := omega) only [↓reduceIte, iT_lt, iF_lt, iT_le, iF_le, iT_eq, iF_eq, nT_lt, nF_lt, nT_le, nF_le, nT_eq, nF_eq, and_self, and_true, true_and, and_false, false_and, not_true_eq_false, not_false_eq_true, ne_eq, or_self, or_false, false_or, or_true, true_or, Option.bind_some, i32_lit, i64_lit, i32_add, i32_sub, i32_mul, i32_neg, i64_add, i64_sub, i64_neg, i32_lt, i32_le, i32_eq, i64_lt, i64_le, i64_eq, i32_cn, i32_cl, i32_l, i64_i, i32_nat, Int.toNat_natCast, wS]) (Or.inl (by omega))
        rw [hg1] at s
        have h88 := h8 (hg c j - 1) (by omega)
        have hr := hR (hg c j - 1) (by omega)
        have e1 : ((hg c j : Nat) : Int) - 1 = ((hg c j - 1 : Nat) : Int) := by omega
        have hm := p_mrest (a := 1 - wS p pt c j (hg c j - 1)) (p := p) ⟨by omega, by omega⟩ ⟨by omega, by omega⟩
        simp (disch := omega) only [↓reduceIte, iT_lt, iF_lt, iT_le, iF_le, iT_eq, iF_eq, nT_lt, nF_lt, nT_le, nF_le, nT_eq, nF_eq, and_self, and_true, true_and, and_false, false_and, not_true_eq_false, not_false_eq_true, ne_eq, or_self, or_false, false_or, or_true, true_or, Option.bind_some, i32_lit, i64_lit, i32_add, i32_sub, i32_mul, i32_neg, i64_add, i64_sub, i64_neg, i32_lt, i32_le, i32_eq, i64_lt, i64_le, i64_eq, i32_cn, i32_cl, i32_l, i64_i, i32_nat, Int.toNat_natCast, sI_2, sJ_1, sJ_22, sR_1, sR_21, sI_t, sI_r, sI_j, sJ_t, sJ_r, sJ_j, sR_t, sR_r, sR_j, hs.2.1, hidx, hc, e1, h88, hm]
        exact s
      · have h3 := h2.2.2.2 (by omega)
        have hg1 : hg c (j + 1) = hg c j - 1 := by simp (disch := omega) only [↓reduceIte, iT_lt, iF_lt, iT_le, iF_le, iT_eq, iF_eq, nT_lt, nF_lt, nT_le, nF_le, nT_eq, nF_eq, and_self, and_true, true_and, and_false, false_and, not_true_eq_false, not_false_eq_true, ne_eq, or_self, or_false, false_or, or_true, true_or, Option.bind_some, i32_lit, i64_lit, i32_add, i32_sub, i32_mul, i32_neg, i64_add, i64_sub, i64_neg, i32_lt, i32_le, i32_eq, i64_lt, i64_le, i64_eq, i32_cn, i32_cl, i32_l, i64_i, i32_nat, Int.toNat_natCast, hg]
        have hu := h8 (hg c j - 2) (by omega)
        have hv := h8 (hg c j - 1) (by omega)
        have hur := hR (hg c j - 2) (by omega)
        have hvr := hR (hg c j - 1) (by omega)
        have e1 : ((hg c j : Nat) : Int) - 1 = ((hg c j - 1 : Nat) : Int) := by omega
        have e2 : ((hg c j : Nat) : Int) - 2 = ((hg c j - 2 : Nat) : Int) := by omega
        have e3 : ((hg c j : Nat) : Int) + -1 = ((hg c j - 1 : Nat) : Int) := by omega
        have e4 : ((hg c j - 1 : Nat) : Int) - 1 = ((hg c j - 2 : Nat) : Int) := by omega
        have hb := mul_bd hur hvr hp.2
        have hm := mod_rg (wS p pt c j (hg c j - 2) * wS p pt c j (hg c j - 1)) (by omega : 0 < p)
        by_cases c3 : c j = 7
        · have s := step (i64 (wS p pt c j (hg c j - 2) * wS p pt c j (hg c j - 1) % p)) (hg c j - 2) _ rfl (fun i hi => by simp (disch := omega) only [↓reduceIte, iT_lt, iF_lt, iT_le, iF_le, iT_eq, iF_eq, nT_lt, nF_lt, nT_le, nF_le, nT_eq, nF_eq, and_self, and_true, true_and, and_false, false_and, not_true_eq_false, not_false_eq_true, ne_eq, or_self, or_false, false_or, or_true, true_or, Option.bind_some, i32_lit, i64_lit, i32_add, i32_sub, i32_mul, i32_neg, i64_add, i64_sub, i64_neg, i32_lt, i32_le, i32_eq, i64_lt, i64_le, i64_eq, i32_cn, i32_cl, i32_l, i64_i, i32_nat, Int.toNat_natCast, wS]) (Or.inl (by omega))
          rw [hg1] at s
          simp (disch := omega) only [↓reduceIte, iT_lt, iF_lt, iT_le, iF_le, iT_eq, iF_eq, nT_lt, nF_lt, nT_le, nF_le, nT_eq, nF_eq, and_self, and_true, true_and, and_false, false_and, not_true_eq_false, not_false_eq_true, ne_eq, or_self, or_false, false_or, or_true, true_or, Option.bind_some, i32_lit, i64_lit, i32_add, i32_sub, i32_mul, i32_neg, i64_add, i64_sub, i64_neg, i32_lt, i32_le, i32_eq, i64_lt, i64_le, i64_eq, i32_cn, i32_cl, i32_l, i64_i, i32_nat, Int.toNat_natCast, sI_2, sJ_1, sJ_22, sR_1, sR_21, sI_t, sI_r, sI_j, sJ_t, sJ_r, sJ_j, sR_t, sR_r, sR_j, hs.2.1, hidx, hc, e1, e2, e3, e4, hu, hv, i64_mul, i64_rem]
          exact s
        · have s := step (i64 ((wS p pt c j (hg c j - 2) + wS p pt c j (hg c j - 1) - wS p pt c j (hg c j - 2) * wS p pt c j (hg c j - 1)) % p)) (hg c j - 2) _ rfl (fun i hi => by simp (disch := omega) only [↓reduceIte, iT_lt, iF_lt, iT_le, iF_le, iT_eq, iF_eq, nT_lt, nF_lt, nT_le, nF_le, nT_eq, nF_eq, and_self, and_true, true_and, and_false, false_and, not_true_eq_false, not_false_eq_true, ne_eq, or_self, or_false, false_or, or_true, true_or, Option.bind_some, i32_lit, i64_lit, i32_add, i32_sub, i32_mul, i32_neg, i64_add, i64_sub, i64_neg, i32_lt, i32_le, i32_eq, i64_lt, i64_le, i64_eq, i32_cn, i32_cl, i32_l, i64_i, i32_nat, Int.toNat_natCast, wS]) (Or.inl (by omega))
          rw [hg1] at s
          have ha := p_mrest (a := wS p pt c j (hg c j - 2) + wS p pt c j (hg c j - 1) - wS p pt c j (hg c j - 2) * wS p pt c j (hg c j - 1) % p) (p := p) ⟨by omega, by omega⟩ ⟨by omega, by omega⟩
          rw [Int.sub_emod_emod] at ha
          simp (disch := omega) only [↓reduceIte, iT_lt, iF_lt, iT_le, iF_le, iT_eq, iF_eq, nT_lt, nF_lt, nT_le, nF_le, nT_eq, nF_eq, and_self, and_true, true_and, and_false, false_and, not_true_eq_false, not_false_eq_true, ne_eq, or_self, or_false, false_or, or_true, true_or, Option.bind_some, i32_lit, i64_lit, i32_add, i32_sub, i32_mul, i32_neg, i64_add, i64_sub, i64_neg, i32_lt, i32_le, i32_eq, i64_lt, i64_le, i64_eq, i32_cn, i32_cl, i32_l, i64_i, i32_nat, Int.toNat_natCast, sI_2, sJ_1, sJ_22, sR_1, sR_21, sI_t, sI_r, sI_j, sJ_t, sJ_r, sJ_j, sR_t, sR_r, sR_j, hs.2.1, hidx, hc, e1, e2, e3, e4, hu, hv, i64_mul, i64_rem, ha]
          exact s
theorem p_mworth {Z : hZ} {s n F : Nat} {p : Int} {pt c : Nat → Int} (hF : 300 ≤ F) (τ : hSt) (hs : mSg τ s c n) (hw : wf c n) (hp : 1 < p ∧ p ≤ 1000000007) (hpt : inP p pt 6) (h9 : rowJ τ 208 pt 6) : ∃ υ, f_X12_worthAt F Z τ (i32 s) (i64 p) = some (i64 (Wv p pt c n), υ) ∧ fr [207] τ υ := by
  unfold f_X12_worthAt
  have hn := hw.1
  exact p_mworth_L hw hp hpt n 0 F τ (by omega) (by omega) hs h9 (fun i hi => absurd hi (Nat.not_lt_zero i))
