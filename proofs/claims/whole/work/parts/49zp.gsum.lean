/-! worth and sums where the point is set for the names alone -/
theorem pg_worthOf_L {Z : hZ} {r n nm : Nat} {p : Int} {pt c : Nat → Int} (hs : sgn Z r c n) (hw : wf c n) (hc0 : nmB c n nm) (hp : 1 < p ∧ p ≤ 1000000007) (hpt : inP p pt 6) (K : hSt → Int32 → Option (Int64 × hSt)) :
    ∀ k j N σ, j + k = n → k < N → rowJ σ 9 pt nm → rowJ σ 8 (wS p pt c j) (hg c j) → ∃ σ', f_X3_worthOf_L17 Z r (i64 p) (i32 n) K N σ (i32 (hg c j : Nat)) (i32 (j : Nat)) = K σ' (i32 (hg c n : Nat)) ∧ fr [8] σ σ' ∧ rowJ σ' 8 (wS p pt c n) (hg c n) := by
  intro k
  induction k with
  | zero =>
    intro j N σ hj hN h9 h8
    obtain ⟨N, rfl⟩ : ∃ q, N = q + 1 := ⟨N - 1, by omega⟩
    obtain rfl : j = n := by omega
    have := hw.1
    refine ⟨σ, ?_, fr_rf _ _, h8⟩
    rw [f_X3_worthOf_L17]
    simp (disch := omega) only [↓reduceIte, iT_lt, iF_lt, iT_le, iF_le, iT_eq, iF_eq, nT_lt, nF_lt, nT_le, nF_le, nT_eq, nF_eq, and_self, and_true, true_and, and_false, false_and, not_true_eq_false, not_false_eq_true, ne_eq, or_self, or_false, false_or, or_true, true_or, Option.bind_some, i32_lit, i64_lit, i32_add, i32_sub, i32_mul, i32_neg, i64_add, i64_sub, i64_neg, i32_lt, i32_le, i32_eq, i64_lt, i64_le, i64_eq, i32_cn, i32_cl, i32_l, i64_i, i32_nat, Int.toNat_natCast, sI_2, sJ_1, sJ_22, sR_1, sR_21, sI_t, sI_r, sI_j, sJ_t, sJ_r, sJ_j, sR_t, sR_r, sR_j]
  | succ k ih =>
    intro j N σ hj hN h9 h8
    obtain ⟨N, rfl⟩ : ∃ q, N = q + 1 := ⟨N - 1, by omega⟩
    have hn := hw.1
    have h2 := hw.2.1 j (by omega)
    have hh := hw.2.2.1 j (by omega)
    have hR := wS_rg (by omega) hw hpt j (by omega)
    rw [f_X3_worthOf_L17]
    have hc : Z.2.2.1 (r + 1000) j = i32 (c j) := hs.2 j (by omega)
    have step : ∀ (v : Int64) (q : Nat) (w : Int), v = i64 w → (∀ i, i < hg c (j + 1) → wS p pt c (j + 1) i = uI (wS p pt c j) q w i) → (hg c (j + 1) ≤ hg c j ∨ hg c (j + 1) = q + 1 ∧ q = hg c j) → ∃ σ', f_X3_worthOf_L17 Z r (i64 p) (i32 n) K N (sJ σ 8 q v) (i32 (hg c (j + 1) : Nat)) (i32 ((j + 1 : Nat) : Int)) = K σ' (i32 (hg c n : Nat)) ∧ fr [8] σ σ' ∧ rowJ σ' 8 (wS p pt c n) (hg c n) := by
      intro v q w hv hf hq
      obtain ⟨σ', e1, e2, e3⟩ := ih (j + 1) N (sJ σ 8 q v) (by omega) (by omega) (fun i hi => by rw [sJ_r _ _ (by omega)]; exact h9 i hi) (fun i hi => by
        rw [hf i hi]
        by_cases e : i = q
        · rw [sJ_t _ _ ⟨rfl, e⟩, uI_t _ _ e, hv]
        · rw [sJ_j _ _ (by omega), uI_f _ _ (by omega)]; exact h8 i (by omega))
      exact ⟨σ', e1, fr_tr (fr_sJ σ v (by rw [cd_a rfl]; decide)) e2, e3⟩
    have hj1 : (i32 (j : Int) + 1) = i32 ((j + 1 : Nat) : Int) := by rw [i32_lit, i32_add]; rfl
    rw [hj1]
    by_cases c1 : c j < 6
    · have hg1 : hg c (j + 1) = hg c j + 1 := by simp (disch := omega) only [↓reduceIte, iT_lt, iF_lt, iT_le, iF_le, iT_eq, iF_eq, nT_lt, nF_lt, nT_le, nF_le, nT_eq, nF_eq, and_self, and_true, true_and, and_false, false_and, not_true_eq_false, not_false_eq_true, ne_eq, or_self, or_false, false_or, or_true, true_or, Option.bind_some, i32_lit, i64_lit, i32_add, i32_sub, i32_mul, i32_neg, i64_add, i64_sub, i64_neg, i32_lt, i32_le, i32_eq, i64_lt, i64_le, i64_eq, i32_cn, i32_cl, i32_l, i64_i, i32_nat, Int.toNat_natCast, hg]
      have s := step (i64 (pt (c j).toNat)) (hg c j) (pt (c j).toNat) rfl (fun i hi => by simp (disch := omega) only [↓reduceIte, iT_lt, iF_lt, iT_le, iF_le, iT_eq, iF_eq, nT_lt, nF_lt, nT_le, nF_le, nT_eq, nF_eq, and_self, and_true, true_and, and_false, false_and, not_true_eq_false, not_false_eq_true, ne_eq, or_self, or_false, false_or, or_true, true_or, Option.bind_some, i32_lit, i64_lit, i32_add, i32_sub, i32_mul, i32_neg, i64_add, i64_sub, i64_neg, i32_lt, i32_le, i32_eq, i64_lt, i64_le, i64_eq, i32_cn, i32_cl, i32_l, i64_i, i32_nat, Int.toNat_natCast, wS]) (Or.inr ⟨hg1, rfl⟩)
      rw [hg1] at s
      have h99 := h9 (c j).toNat (by have := hc0.2 j (by omega) c1; omega)
      simp (disch := omega) only [↓reduceIte, iT_lt, iF_lt, iT_le, iF_le, iT_eq, iF_eq, nT_lt, nF_lt, nT_le, nF_le, nT_eq, nF_eq, and_self, and_true, true_and, and_false, false_and, not_true_eq_false, not_false_eq_true, ne_eq, or_self, or_false, false_or, or_true, true_or, Option.bind_some, i32_lit, i64_lit, i32_add, i32_sub, i32_mul, i32_neg, i64_add, i64_sub, i64_neg, i32_lt, i32_le, i32_eq, i64_lt, i64_le, i64_eq, i32_cn, i32_cl, i32_l, i64_i, i32_nat, Int.toNat_natCast, sI_2, sJ_1, sJ_22, sR_1, sR_21, sI_t, sI_r, sI_j, sJ_t, sJ_r, sJ_j, sR_t, sR_r, sR_j, hc, hs.1, h99]
      exact s
    · by_cases c2 : c j = 6
      · have hg1 : hg c (j + 1) = hg c j := by simp (disch := omega) only [↓reduceIte, iT_lt, iF_lt, iT_le, iF_le, iT_eq, iF_eq, nT_lt, nF_lt, nT_le, nF_le, nT_eq, nF_eq, and_self, and_true, true_and, and_false, false_and, not_true_eq_false, not_false_eq_true, ne_eq, or_self, or_false, false_or, or_true, true_or, Option.bind_some, i32_lit, i64_lit, i32_add, i32_sub, i32_mul, i32_neg, i64_add, i64_sub, i64_neg, i32_lt, i32_le, i32_eq, i64_lt, i64_le, i64_eq, i32_cn, i32_cl, i32_l, i64_i, i32_nat, Int.toNat_natCast, hg]
        have h3 := h2.2.2.1 c2
        have s := step (i64 ((1 - wS p pt c j (hg c j - 1)) % p)) (hg c j - 1) _ rfl (fun i hi => by simp (disch := omega) only [↓reduceIte, iT_lt, iF_lt, iT_le, iF_le, iT_eq, iF_eq, nT_lt, nF_lt, nT_le, nF_le, nT_eq, nF_eq, and_self, and_true, true_and, and_false, false_and, not_true_eq_false, not_false_eq_true, ne_eq, or_self, or_false, false_or, or_true, true_or, Option.bind_some, i32_lit, i64_lit, i32_add, i32_sub, i32_mul, i32_neg, i64_add, i64_sub, i64_neg, i32_lt, i32_le, i32_eq, i64_lt, i64_le, i64_eq, i32_cn, i32_cl, i32_l, i64_i, i32_nat, Int.toNat_natCast, wS]) (Or.inl (by omega))
        rw [hg1] at s
        have h88 := h8 (hg c j - 1) (by omega)
        have hr := hR (hg c j - 1) (by omega)
        have e1 : ((hg c j : Nat) : Int) - 1 = ((hg c j - 1 : Nat) : Int) := by omega
        have hm := p_minus (a := 1) (p := p) ⟨by omega, by omega⟩ hr hp.2
        simp (disch := omega) only [↓reduceIte, iT_lt, iF_lt, iT_le, iF_le, iT_eq, iF_eq, nT_lt, nF_lt, nT_le, nF_le, nT_eq, nF_eq, and_self, and_true, true_and, and_false, false_and, not_true_eq_false, not_false_eq_true, ne_eq, or_self, or_false, false_or, or_true, true_or, Option.bind_some, i32_lit, i64_lit, i32_add, i32_sub, i32_mul, i32_neg, i64_add, i64_sub, i64_neg, i32_lt, i32_le, i32_eq, i64_lt, i64_le, i64_eq, i32_cn, i32_cl, i32_l, i64_i, i32_nat, Int.toNat_natCast, sI_2, sJ_1, sJ_22, sR_1, sR_21, sI_t, sI_r, sI_j, sJ_t, sJ_r, sJ_j, sR_t, sR_r, sR_j, hc, hs.1, e1, h88, hm]
        exact s
      · have h3 := h2.2.2.2 (by omega)
        have hg1 : hg c (j + 1) = hg c j - 1 := by simp (disch := omega) only [↓reduceIte, iT_lt, iF_lt, iT_le, iF_le, iT_eq, iF_eq, nT_lt, nF_lt, nT_le, nF_le, nT_eq, nF_eq, and_self, and_true, true_and, and_false, false_and, not_true_eq_false, not_false_eq_true, ne_eq, or_self, or_false, false_or, or_true, true_or, Option.bind_some, i32_lit, i64_lit, i32_add, i32_sub, i32_mul, i32_neg, i64_add, i64_sub, i64_neg, i32_lt, i32_le, i32_eq, i64_lt, i64_le, i64_eq, i32_cn, i32_cl, i32_l, i64_i, i32_nat, Int.toNat_natCast, hg]
        have hu := h8 (hg c j - 2) (by omega)
        have hv := h8 (hg c j - 1) (by omega)
        have hur := hR (hg c j - 2) (by omega)
        have hvr := hR (hg c j - 1) (by omega)
        have e1 : ((hg c j : Nat) : Int) - 1 = ((hg c j - 1 : Nat) : Int) := by omega
        have e2 : ((hg c j - 1 : Nat) : Int) - 1 = ((hg c j - 2 : Nat) : Int) := by omega
        have e3 : ((hg c j : Nat) : Int) + -1 = ((hg c j - 1 : Nat) : Int) := by omega
        have ht := p_times hur hvr hp.2
        by_cases c3 : c j = 7
        · have s := step (i64 (wS p pt c j (hg c j - 2) * wS p pt c j (hg c j - 1) % p)) (hg c j - 2) _ rfl (fun i hi => by simp (disch := omega) only [↓reduceIte, iT_lt, iF_lt, iT_le, iF_le, iT_eq, iF_eq, nT_lt, nF_lt, nT_le, nF_le, nT_eq, nF_eq, and_self, and_true, true_and, and_false, false_and, not_true_eq_false, not_false_eq_true, ne_eq, or_self, or_false, false_or, or_true, true_or, Option.bind_some, i32_lit, i64_lit, i32_add, i32_sub, i32_mul, i32_neg, i64_add, i64_sub, i64_neg, i32_lt, i32_le, i32_eq, i64_lt, i64_le, i64_eq, i32_cn, i32_cl, i32_l, i64_i, i32_nat, Int.toNat_natCast, wS]) (Or.inl (by omega))
          rw [hg1] at s
          simp (disch := omega) only [↓reduceIte, iT_lt, iF_lt, iT_le, iF_le, iT_eq, iF_eq, nT_lt, nF_lt, nT_le, nF_le, nT_eq, nF_eq, and_self, and_true, true_and, and_false, false_and, not_true_eq_false, not_false_eq_true, ne_eq, or_self, or_false, false_or, or_true, true_or, Option.bind_some, i32_lit, i64_lit, i32_add, i32_sub, i32_mul, i32_neg, i64_add, i64_sub, i64_neg, i32_lt, i32_le, i32_eq, i64_lt, i64_le, i64_eq, i32_cn, i32_cl, i32_l, i64_i, i32_nat, Int.toNat_natCast, sI_2, sJ_1, sJ_22, sR_1, sR_21, sI_t, sI_r, sI_j, sJ_t, sJ_r, sJ_j, sR_t, sR_r, sR_j, hc, hs.1, e1, e2, e3, hu, hv, ht]
          exact s
        · have s := step (i64 ((wS p pt c j (hg c j - 2) + wS p pt c j (hg c j - 1) - wS p pt c j (hg c j - 2) * wS p pt c j (hg c j - 1)) % p)) (hg c j - 2) _ rfl (fun i hi => by simp (disch := omega) only [↓reduceIte, iT_lt, iF_lt, iT_le, iF_le, iT_eq, iF_eq, nT_lt, nF_lt, nT_le, nF_le, nT_eq, nF_eq, and_self, and_true, true_and, and_false, false_and, not_true_eq_false, not_false_eq_true, ne_eq, or_self, or_false, false_or, or_true, true_or, Option.bind_some, i32_lit, i64_lit, i32_add, i32_sub, i32_mul, i32_neg, i64_add, i64_sub, i64_neg, i32_lt, i32_le, i32_eq, i64_lt, i64_le, i64_eq, i32_cn, i32_cl, i32_l, i64_i, i32_nat, Int.toNat_natCast, wS]) (Or.inl (by omega))
          rw [hg1] at s
          have ha := p_plus hur hvr hp.2
          have hb := p_minus (mod_rg (wS p pt c j (hg c j - 2) + wS p pt c j (hg c j - 1)) (by omega : 0 < p)) (mod_rg (wS p pt c j (hg c j - 2) * wS p pt c j (hg c j - 1)) (by omega : 0 < p)) hp.2
          rw [← Int.sub_emod] at hb
          simp (disch := omega) only [↓reduceIte, iT_lt, iF_lt, iT_le, iF_le, iT_eq, iF_eq, nT_lt, nF_lt, nT_le, nF_le, nT_eq, nF_eq, and_self, and_true, true_and, and_false, false_and, not_true_eq_false, not_false_eq_true, ne_eq, or_self, or_false, false_or, or_true, true_or, Option.bind_some, i32_lit, i64_lit, i32_add, i32_sub, i32_mul, i32_neg, i64_add, i64_sub, i64_neg, i32_lt, i32_le, i32_eq, i64_lt, i64_le, i64_eq, i32_cn, i32_cl, i32_l, i64_i, i32_nat, Int.toNat_natCast, sI_2, sJ_1, sJ_22, sR_1, sR_21, sI_t, sI_r, sI_j, sJ_t, sJ_r, sJ_j, sR_t, sR_r, sR_j, hc, hs.1, e1, e2, e3, hu, hv, ht, ha, hb]
          exact s
theorem pg_worthOf {Z : hZ} {r n nm F : Nat} {p : Int} {pt c : Nat → Int} (hF : 300 ≤ F) (hs : sgn Z r c n) (hw : wf c n) (hc0 : nmB c n nm) (hp : 1 < p ∧ p ≤ 1000000007) (hpt : inP p pt 6) (σ : hSt) (h9 : rowJ σ 9 pt nm) : ∃ σ', f_X3_worthOf F Z σ r (i64 p) = some (i64 (Wv p pt c n), σ') ∧ fr [8] σ σ' := by
  unfold f_X3_worthOf
  have hn := hw.1
  rw [hs.1, i32_nat]
  obtain ⟨σ', e1, e2, e3⟩ := pg_worthOf_L hs hw hc0 hp hpt _ n 0 F σ (by omega) (by omega) h9 (fun i hi => absurd hi (Nat.not_lt_zero i))
  refine ⟨σ', ?_, e2⟩
  refine Eq.trans e1 ?_
  have h8 := e3 0 (by rw [hw.2.2.2]; exact Nat.one_pos)
  rw [hw.2.2.2]
  simp (disch := omega) only [↓reduceIte, iT_lt, iF_lt, iT_le, iF_le, iT_eq, iF_eq, nT_lt, nF_lt, nT_le, nF_le, nT_eq, nF_eq, and_self, and_true, true_and, and_false, false_and, not_true_eq_false, not_false_eq_true, ne_eq, or_self, or_false, false_or, or_true, true_or, Option.bind_some, i32_lit, i64_lit, i32_add, i32_sub, i32_mul, i32_neg, i64_add, i64_sub, i64_neg, i32_lt, i32_le, i32_eq, i64_lt, i64_le, i64_eq, i32_cn, i32_cl, i32_l, i64_i, i32_nat, Int.toNat_natCast, sI_2, sJ_1, sJ_22, sR_1, sR_21, sI_t, sI_r, sI_j, sJ_t, sJ_r, sJ_j, sR_t, sR_r, sR_j]
  show some (σ'.2.1 8 0, σ') = _
  rw [h8]; rfl
theorem pg_mworth_L {s n nm : Nat} {p : Int} {pt c : Nat → Int} (hw : wf c n) (hc0 : nmB c n nm) (hp : 1 < p ∧ p ≤ 1000000007) (hpt : inP p pt 6) :
    ∀ k j N τ, j + k = n → k < N → mSg τ s c n → rowJ τ 208 pt nm → rowJ τ 207 (wS p pt c j) (hg c j) → ∃ υ, f_X12_worthAt_L6 (i32 s) (i64 p) N τ (i32 (hg c j : Nat)) (i32 (j : Nat)) = some (i64 (Wv p pt c n), υ) ∧ fr [207] τ υ := by
  intro k
  induction k with
  | zero =>
    intro j N τ hj hN hs h9 h8
    obtain ⟨N, rfl⟩ : ∃ q, N = q + 1 := ⟨N - 1, by omega⟩
    obtain rfl : j = n := by omega
    have := hw.1
    have h1 := hs.1
    have h0 := h8 0 (by rw [hw.2.2.2]; exact Nat.one_pos)
    refine ⟨τ, ?_, fr_rf _ _⟩
    rw [f_X12_worthAt_L6]
    simp (disch := omega) only [↓reduceIte, iT_lt, iF_lt, iT_le, iF_le, iT_eq, iF_eq, nT_lt, nF_lt, nT_le, nF_le, nT_eq, nF_eq, and_self, and_true, true_and, and_false, false_and, not_true_eq_false, not_false_eq_true, ne_eq, or_self, or_false, false_or, or_true, true_or, Option.bind_some, i32_lit, i64_lit, i32_add, i32_sub, i32_mul, i32_neg, i64_add, i64_sub, i64_neg, i32_lt, i32_le, i32_eq, i64_lt, i64_le, i64_eq, i32_cn, i32_cl, i32_l, i64_i, i32_nat, Int.toNat_natCast, sI_2, sJ_1, sJ_22, sR_1, sR_21, sI_t, sI_r, sI_j, sJ_t, sJ_r, sJ_j, sR_t, sR_r, sR_j, hs.2.1, Int.toNat_zero, h0]
    rfl
  | succ k ih =>
    intro j N τ hj hN hs h9 h8
    obtain ⟨N, rfl⟩ : ∃ q, N = q + 1 := ⟨N - 1, by omega⟩
    have hn := hw.1
    have hs1 := hs.1
    have h2 := hw.2.1 j (by omega)
    have hh := hw.2.2.1 j (by omega)
    have hR := wS_rg (by omega) hw hpt j (by omega)
    rw [f_X12_worthAt_L6]
    have hc := hs.2.2 j (by omega)
    have hidx : (200 * (s : Int) + (j : Int)).toNat = 200 * s + j := by omega
    have step : ∀ (v : Int64) (q : Nat) (w : Int), v = i64 w → (∀ i, i < hg c (j + 1) → wS p pt c (j + 1) i = uI (wS p pt c j) q w i) → (hg c (j + 1) ≤ hg c j ∨ hg c (j + 1) = q + 1 ∧ q = hg c j) → ∃ υ, f_X12_worthAt_L6 (i32 s) (i64 p) N (sJ τ 207 q v) (i32 (hg c (j + 1) : Nat)) (i32 ((j + 1 : Nat) : Int)) = some (i64 (Wv p pt c n), υ) ∧ fr [207] τ υ := by
      intro v q w hv hf hq
      have hfr : fr [207] τ (sJ τ 207 q v) := fr_sJ τ v (by rw [cd_a rfl]; decide)
      obtain ⟨υ, e1, e2⟩ := ih (j + 1) N (sJ τ 207 q v) (by omega) (by omega) (mSg_fr hfr (by decide) (by decide) hs) (fun i hi => by rw [sJ_r _ _ (by omega)]; exact h9 i hi) (fun i hi => by
        rw [hf i hi]
        by_cases e : i = q
        · rw [sJ_t _ _ ⟨rfl, e⟩, uI_t _ _ e, hv]
        · rw [sJ_j _ _ (by omega), uI_f _ _ (by omega)]; exact h8 i (by omega))
      exact ⟨υ, e1, fr_tr hfr e2⟩
    have hj1 : (i32 (j : Int) + 1) = i32 ((j + 1 : Nat) : Int) := by rw [i32_lit, i32_add]; rfl
    rw [hj1]
    by_cases c1 : c j < 6
    · have hg1 : hg c (j + 1) = hg c j + 1 := by simp (disch := omega) only [↓reduceIte, iT_lt, iF_lt, iT_le, iF_le, iT_eq, iF_eq, nT_lt, nF_lt, nT_le, nF_le, nT_eq, nF_eq, and_self, and_true, true_and, and_false, false_and, not_true_eq_false, not_false_eq_true, ne_eq, or_self, or_false, false_or, or_true, true_or, Option.bind_some, i32_lit, i64_lit, i32_add, i32_sub, i32_mul, i32_neg, i64_add, i64_sub, i64_neg, i32_lt, i32_le, i32_eq, i64_lt, i64_le, i64_eq, i32_cn, i32_cl, i32_l, i64_i, i32_nat, Int.toNat_natCast, hg]
      have s := step (i64 (pt (c j).toNat)) (hg c j) (pt (c j).toNat) rfl (fun i hi => by simp (disch := omega) only [↓reduceIte, iT_lt, iF_lt, iT_le, iF_le, iT_eq, iF_eq, nT_lt, nF_lt, nT_le, nF_le, nT_eq, nF_eq, and_self, and_true, true_and, and_false, false_and, not_true_eq_false, not_false_eq_true, ne_eq, or_self, or_false, false_or, or_true, true_or, Option.bind_some, i32_lit, i64_lit, i32_add, i32_sub, i32_mul, i32_neg, i64_add, i64_sub, i64_neg, i32_lt, i32_le, i32_eq, i64_lt, i64_le, i64_eq, i32_cn, i32_cl, i32_l, i64_i, i32_nat, Int.toNat_natCast, wS]) (Or.inr ⟨hg1, rfl⟩)
      rw [hg1] at s
      have h99 := h9 (c j).toNat (by have := hc0.2 j (by omega) c1; omega)
      simp (disch := omega) only [↓reduceIte, iT_lt, iF_lt, iT_le, iF_le, iT_eq, iF_eq, nT_lt, nF_lt, nT_le, nF_le, nT_eq, nF_eq, and_self, and_true, true_and, and_false, false_and, not_true_eq_false, not_false_eq_true, ne_eq, or_self, or_false, false_or, or_true, true_or, Option.bind_some, i32_lit, i64_lit, i32_add, i32_sub, i32_mul, i32_neg, i64_add, i64_sub, i64_neg, i32_lt, i32_le, i32_eq, i64_lt, i64_le, i64_eq, i32_cn, i32_cl, i32_l, i64_i, i32_nat, Int.toNat_natCast, sI_2, sJ_1, sJ_22, sR_1, sR_21, sI_t, sI_r, sI_j, sJ_t, sJ_r, sJ_j, sR_t, sR_r, sR_j, hs.2.1, hidx, hc, h99]
      exact s
    · by_cases c2 : c j = 6
      · have hg1 : hg c (j + 1) = hg c j := by simp (disch := omega) only [↓reduceIte, iT_lt, iF_lt, iT_le, iF_le, iT_eq, iF_eq, nT_lt, nF_lt, nT_le, nF_le, nT_eq, nF_eq, and_self, and_true, true_and, and_false, false_and, not_true_eq_false, not_false_eq_true, ne_eq, or_self, or_false, false_or, or_true, true_or, Option.bind_some, i32_lit, i64_lit, i32_add, i32_sub, i32_mul, i32_neg, i64_add, i64_sub, i64_neg, i32_lt, i32_le, i32_eq, i64_lt, i64_le, i64_eq, i32_cn, i32_cl, i32_l, i64_i, i32_nat, Int.toNat_natCast, hg]
        have h3 := h2.2.2.1 c2
        have s := step (i64 ((1 - wS p pt c j (hg c j - 1)) % p)) (hg c j - 1) _ rfl (fun i hi => by simp (disch := omega) only [↓reduceIte, iT_lt, iF_lt, iT_le, iF_le, iT_eq, iF_eq, nT_lt, nF_lt, nT_le, nF_le, nT_eq, nF_eq, and_self, and_true, true_and, and_false, false_and, not_true_eq_false, not_false_eq_true, ne_eq, or_self, or_false, false_or, or_true, true_or, Option.bind_some, i32_lit, i64_lit, i32_add, i32_sub, i32_mul, i32_neg, i64_add, i64_sub, i64_neg, i32_lt, i32_le, i32_eq, i64_lt, i64_le, i64_eq, i32_cn, i32_cl, i32_l, i64_i, i32_nat, Int.toNat_natCast, wS]) (Or.inl (by omega))
        rw [hg1] at s
        have h88 := h8 (hg c j - 1) (by omega)
        have hr := hR (hg c j - 1) (by omega)
        have e1 : ((hg c j : Nat) : Int) - 1 = ((hg c j - 1 : Nat) : Int) := by omega
        have hm := p_mrest (a := 1 - wS p pt c j (hg c j - 1)) (p := p) ⟨by omega, by omega⟩ ⟨by omega, by omega⟩
        simp (disch := omega) only [↓reduceIte, iT_lt, iF_lt, iT_le, iF_le, iT_eq, iF_eq, nT_lt, nF_lt, nT_le, nF_le, nT_eq, nF_eq, and_self, and_true, true_and, and_false, false_and, not_true_eq_false, not_false_eq_true, ne_eq, or_self, or_false, false_or, or_true, true_or, Option.bind_some, i32_lit, i64_lit, i32_add, i32_sub, i32_mul, i32_neg, i64_add, i64_sub, i64_neg, i32_lt, i32_le, i32_eq, i64_lt, i64_le, i64_eq, i32_cn, i32_cl, i32_l, i64_i, i32_nat, Int.toNat_natCast, sI_2, sJ_1, sJ_22, sR_1, sR_21, sI_t, sI_r, sI_j, sJ_t, sJ_r, sJ_j, sR_t, sR_r, sR_j, hs.2.1, hidx, hc, e1, h88, hm]
        exact s
      · have h3 := h2.2.2.2 (by omega)
        have hg1 : hg c (j + 1) = hg c j - 1 := by simp (disch := omega) only [↓reduceIte, iT_lt, iF_lt, iT_le, iF_le, iT_eq, iF_eq, nT_lt, nF_lt, nT_le, nF_le, nT_eq, nF_eq, and_self, and_true, true_and, and_false, false_and, not_true_eq_false, not_false_eq_true, ne_eq, or_self, or_false, false_or, or_true, true_or, Option.bind_some, i32_lit, i64_lit, i32_add, i32_sub, i32_mul, i32_neg, i64_add, i64_sub, i64_neg, i32_lt, i32_le, i32_eq, i64_lt, i64_le, i64_eq, i32_cn, i32_cl, i32_l, i64_i, i32_nat, Int.toNat_natCast, hg]
        have hu := h8 (hg c j - 2) (by omega)
        have hv := h8 (hg c j - 1) (by omega)
        have hur := hR (hg c j - 2) (by omega)
        have hvr := hR (hg c j - 1) (by omega)
        have e1 : ((hg c j : Nat) : Int) - 1 = ((hg c j - 1 : Nat) : Int) := by omega
        have e2 : ((hg c j : Nat) : Int) - 2 = ((hg c j - 2 : Nat) : Int) := by omega
        have e3 : ((hg c j : Nat) : Int) + -1 = ((hg c j - 1 : Nat) : Int) := by omega
        have e4 : ((hg c j - 1 : Nat) : Int) - 1 = ((hg c j - 2 : Nat) : Int) := by omega
        have hb := mul_bd hur hvr hp.2
        have hm := mod_rg (wS p pt c j (hg c j - 2) * wS p pt c j (hg c j - 1)) (by omega : 0 < p)
        by_cases c3 : c j = 7
        · have s := step (i64 (wS p pt c j (hg c j - 2) * wS p pt c j (hg c j - 1) % p)) (hg c j - 2) _ rfl (fun i hi => by simp (disch := omega) only [↓reduceIte, iT_lt, iF_lt, iT_le, iF_le, iT_eq, iF_eq, nT_lt, nF_lt, nT_le, nF_le, nT_eq, nF_eq, and_self, and_true, true_and, and_false, false_and, not_true_eq_false, not_false_eq_true, ne_eq, or_self, or_false, false_or, or_true, true_or, Option.bind_some, i32_lit, i64_lit, i32_add, i32_sub, i32_mul, i32_neg, i64_add, i64_sub, i64_neg, i32_lt, i32_le, i32_eq, i64_lt, i64_le, i64_eq, i32_cn, i32_cl, i32_l, i64_i, i32_nat, Int.toNat_natCast, wS]) (Or.inl (by omega))
          rw [hg1] at s
          simp (disch := omega) only [↓reduceIte, iT_lt, iF_lt, iT_le, iF_le, iT_eq, iF_eq, nT_lt, nF_lt, nT_le, nF_le, nT_eq, nF_eq, and_self, and_true, true_and, and_false, false_and, not_true_eq_false, not_false_eq_true, ne_eq, or_self, or_false, false_or, or_true, true_or, Option.bind_some, i32_lit, i64_lit, i32_add, i32_sub, i32_mul, i32_neg, i64_add, i64_sub, i64_neg, i32_lt, i32_le, i32_eq, i64_lt, i64_le, i64_eq, i32_cn, i32_cl, i32_l, i64_i, i32_nat, Int.toNat_natCast, sI_2, sJ_1, sJ_22, sR_1, sR_21, sI_t, sI_r, sI_j, sJ_t, sJ_r, sJ_j, sR_t, sR_r, sR_j, hs.2.1, hidx, hc, e1, e2, e3, e4, hu, hv, i64_mul, i64_rem]
          exact s
        · have s := step (i64 ((wS p pt c j (hg c j - 2) + wS p pt c j (hg c j - 1) - wS p pt c j (hg c j - 2) * wS p pt c j (hg c j - 1)) % p)) (hg c j - 2) _ rfl (fun i hi => by simp (disch := omega) only [↓reduceIte, iT_lt, iF_lt, iT_le, iF_le, iT_eq, iF_eq, nT_lt, nF_lt, nT_le, nF_le, nT_eq, nF_eq, and_self, and_true, true_and, and_false, false_and, not_true_eq_false, not_false_eq_true, ne_eq, or_self, or_false, false_or, or_true, true_or, Option.bind_some, i32_lit, i64_lit, i32_add, i32_sub, i32_mul, i32_neg, i64_add, i64_sub, i64_neg, i32_lt, i32_le, i32_eq, i64_lt, i64_le, i64_eq, i32_cn, i32_cl, i32_l, i64_i, i32_nat, Int.toNat_natCast, wS]) (Or.inl (by omega))
          rw [hg1] at s
          have ha := p_mrest (a := wS p pt c j (hg c j - 2) + wS p pt c j (hg c j - 1) - wS p pt c j (hg c j - 2) * wS p pt c j (hg c j - 1) % p) (p := p) ⟨by omega, by omega⟩ ⟨by omega, by omega⟩
          rw [Int.sub_emod_emod] at ha
          simp (disch := omega) only [↓reduceIte, iT_lt, iF_lt, iT_le, iF_le, iT_eq, iF_eq, nT_lt, nF_lt, nT_le, nF_le, nT_eq, nF_eq, and_self, and_true, true_and, and_false, false_and, not_true_eq_false, not_false_eq_true, ne_eq, or_self, or_false, false_or, or_true, true_or, Option.bind_some, i32_lit, i64_lit, i32_add, i32_sub, i32_mul, i32_neg, i64_add, i64_sub, i64_neg, i32_lt, i32_le, i32_eq, i64_lt, i64_le, i64_eq, i32_cn, i32_cl, i32_l, i64_i, i32_nat, Int.toNat_natCast, sI_2, sJ_1, sJ_22, sR_1, sR_21, sI_t, sI_r, sI_j, sJ_t, sJ_r, sJ_j, sR_t, sR_r, sR_j, hs.2.1, hidx, hc, e1, e2, e3, e4, hu, hv, i64_mul, i64_rem, ha]
          exact s
theorem pg_mworth {Z : hZ} {s n nm F : Nat} {p : Int} {pt c : Nat → Int} (hF : 300 ≤ F) (τ : hSt) (hs : mSg τ s c n) (hw : wf c n) (hc0 : nmB c n nm) (hp : 1 < p ∧ p ≤ 1000000007) (hpt : inP p pt 6) (h9 : rowJ τ 208 pt nm) : ∃ υ, f_X12_worthAt F Z τ (i32 s) (i64 p) = some (i64 (Wv p pt c n), υ) ∧ fr [207] τ υ := by
  unfold f_X12_worthAt
  have hn := hw.1
  exact pg_mworth_L hw hc0 hp hpt n 0 F τ (by omega) (by omega) hs h9 (fun i hi => absurd hi (Nat.not_lt_zero i))
theorem rowJ_ex {σ : hSt} {r i : Nat} {f : Nat → Int} {v : Int} (h : rowJ σ r f i) : rowJ (sJ σ r i (i64 v)) r (uI f i v) (i + 1) := by
  intro x hx
  by_cases e : x = i
  · rw [sJ_t _ _ ⟨rfl, e⟩, uI_t _ _ e]
  · rw [sJ_j _ _ (by omega), uI_f _ _ (by omega)]; exact h x (by omega)
theorem pg_msum {Z : hZ} {s n nm F : Nat} {p : Int} {c : Nat → Int} (hF : 300 ≤ F) (hw : wf c n) (hc : nmB c n nm) (hp : 1 < p ∧ p ≤ 1000000007) :
    ∀ k i d τ pt, i + k = nm ∨ (k = 0 ∧ nm ≤ i ∧ i ≤ 6) → k < d → mSg τ s c n → τ.1 204 s = i32 (nm : Nat) → rowJ τ 208 pt i → inP p pt 6 → ∃ υ, (G_Ms F Z d) τ (i32 s) (i32 i) (i64 p) = some (i64 (sumF p c n k i pt), υ) ∧ fr [207, 208] τ υ ∧ rowJ υ 208 pt i := by
  intro k
  induction k with
  | zero =>
    intro i d τ pt hi hd hs hn h9 hpt
    obtain ⟨d, rfl⟩ : ∃ q, d = q + 1 := ⟨d - 1, by omega⟩
    obtain ⟨υ, e1, e2⟩ := pg_mworth (Z := Z) hF τ hs hw hc hp hpt (fun x hx => h9 x (by omega))
    have := hs.1
    have := hc.1
    refine ⟨υ, ?_, fr_mono e2 (by decide), ?_⟩
    · rw [G_Ms, b_X12_sumFrom]
      simp (disch := omega) only [↓reduceIte, iT_lt, iF_lt, iT_le, iF_le, iT_eq, iF_eq, nT_lt, nF_lt, nT_le, nF_le, nT_eq, nF_eq, and_self, and_true, true_and, and_false, false_and, not_true_eq_false, not_false_eq_true, ne_eq, or_self, or_false, false_or, or_true, true_or, Option.bind_some, i32_lit, i64_lit, i32_add, i32_sub, i32_mul, i32_neg, i64_add, i64_sub, i64_neg, i32_lt, i32_le, i32_eq, i64_lt, i64_le, i64_eq, i32_cn, i32_cl, i32_l, i64_i, i32_nat, Int.toNat_natCast, sI_2, sJ_1, sJ_22, sR_1, sR_21, sI_t, sI_r, sI_j, sJ_t, sJ_r, sJ_j, sR_t, sR_r, sR_j, hn, e1]
      rfl
    · unfold rowJ; rw [fr_J e2 208 rfl (by decide)]; exact h9
  | succ k ih =>
    intro i d τ pt hi hd hs hn h9 hpt
    obtain ⟨d, rfl⟩ : ∃ q, d = q + 1 := ⟨d - 1, by omega⟩
    have hs1 := hs.1
    have hc1 := hc.1
    have f0 : fr [207, 208] τ (sJ τ 208 i (i64 0)) := fr_sJ τ _ (by rw [cd_a rfl]; decide)
    obtain ⟨υ, a1, a2, a3⟩ := ih (i + 1) d (sJ τ 208 i (i64 0)) (uI pt i 0) (by omega) (by omega) (mSg_fr f0 (by decide) (by decide) hs) hn (rowJ_ex h9) (uI_in hpt (by omega))
    have f1 : fr [207, 208] υ (sJ υ 208 i (i64 1)) := fr_sJ υ _ (by rw [cd_a rfl]; decide)
    have f2 := fr_tr (fr_tr f0 a2) f1
    have a4 : rowJ υ 208 pt i := fun x hx => by rw [a3 x (by omega), uI_f _ _ (by omega)]
    obtain ⟨υ2, b1, b2, b3⟩ := ih (i + 1) d (sJ υ 208 i (i64 1)) (uI pt i 1) (by omega) (by omega) (mSg_fr f2 (by decide) (by decide) hs) (by rw [fr_I f2 204 rfl (by decide)]; exact hn) (rowJ_ex a4) (uI_in hpt (by omega))
    have r1 := sumF_rg hp.1 hw k (i + 1) (uI_in (i := i) (v := 0) hpt (by omega))
    have r2 := sumF_rg hp.1 hw k (i + 1) (uI_in (i := i) (v := 1) hpt (by omega))
    refine ⟨υ2, ?_, fr_tr f2 b2, fun x hx => ?_⟩
    · rw [G_Ms, b_X12_sumFrom]
      have hj1 : (i32 (i : Int) + i32 1) = i32 ((i + 1 : Nat) : Int) := by rw [i32_add]; rfl
      simp (disch := omega) only [↓reduceIte, iT_lt, iF_lt, iT_le, iF_le, iT_eq, iF_eq, nT_lt, nF_lt, nT_le, nF_le, nT_eq, nF_eq, and_self, and_true, true_and, and_false, false_and, not_true_eq_false, not_false_eq_true, ne_eq, or_self, or_false, false_or, or_true, true_or, Option.bind_some, i32_lit, i64_lit, i32_add, i32_sub, i32_mul, i32_neg, i64_add, i64_sub, i64_neg, i32_lt, i32_le, i32_eq, i64_lt, i64_le, i64_eq, i32_cn, i32_cl, i32_l, i64_i, i32_nat, Int.toNat_natCast, sI_2, sJ_1, sJ_22, sR_1, sR_21, sI_t, sI_r, sI_j, sJ_t, sJ_r, sJ_j, sR_t, sR_r, sR_j, hn]
      rw [show (i : Int) + 1 = ((i + 1 : Nat) : Int) from rfl, a1]
      simp (disch := omega) only [↓reduceIte, iT_lt, iF_lt, iT_le, iF_le, iT_eq, iF_eq, nT_lt, nF_lt, nT_le, nF_le, nT_eq, nF_eq, and_self, and_true, true_and, and_false, false_and, not_true_eq_false, not_false_eq_true, ne_eq, or_self, or_false, false_or, or_true, true_or, Option.bind_some, i32_lit, i64_lit, i32_add, i32_sub, i32_mul, i32_neg, i64_add, i64_sub, i64_neg, i32_lt, i32_le, i32_eq, i64_lt, i64_le, i64_eq, i32_cn, i32_cl, i32_l, i64_i, i32_nat, Int.toNat_natCast, sI_2, sJ_1, sJ_22, sR_1, sR_21, sI_t, sI_r, sI_j, sJ_t, sJ_r, sJ_j, sR_t, sR_r, sR_j]
      rw [b1]
      simp (disch := omega) only [↓reduceIte, iT_lt, iF_lt, iT_le, iF_le, iT_eq, iF_eq, nT_lt, nF_lt, nT_le, nF_le, nT_eq, nF_eq, and_self, and_true, true_and, and_false, false_and, not_true_eq_false, not_false_eq_true, ne_eq, or_self, or_false, false_or, or_true, true_or, Option.bind_some, i32_lit, i64_lit, i32_add, i32_sub, i32_mul, i32_neg, i64_add, i64_sub, i64_neg, i32_lt, i32_le, i32_eq, i64_lt, i64_le, i64_eq, i32_cn, i32_cl, i32_l, i64_i, i32_nat, Int.toNat_natCast, sI_2, sJ_1, sJ_22, sR_1, sR_21, sI_t, sI_r, sI_j, sJ_t, sJ_r, sJ_j, sR_t, sR_r, sR_j, i64_rem, sumF]
    · rw [b3 x (by omega), uI_f _ _ (by omega)]
theorem pg_over_L30 {Z : hZ} {i f b nm : Nat} {pt : Nat → Int} {p tot : Int64} (hif : i + f ≤ nm ∨ (f = 0 ∧ i ≤ 6)) (hnm : nm ≤ 6) (hb : b < 64) (K : hSt → Option (Int64 × hSt)) :
    ∀ k t N σ, t + k = f → k < N → (∃ qt, rowJ σ 9 qt nm ∧ (∀ x, x < nm → (x < i ∨ i + f ≤ x) → qt x = pt x) ∧ ∀ x, i ≤ x → x < i + t → qt x = ((b / 2 ^ (x - i) % 2 : Nat) : Int)) → ∃ σ', f_X3_overCorners_L30 Z (i32 i) p (i32 f) tot (i32 b) K N σ (i32 t) = K σ' ∧ fr [9] σ σ' ∧ rowJ σ' 9 (ptC pt i f b) nm := by
  intro k
  induction k with
  | zero =>
    intro t N σ ht hN h
    obtain ⟨N, rfl⟩ : ∃ q, N = q + 1 := ⟨N - 1, by omega⟩
    obtain rfl : t = f := by omega
    obtain ⟨qt, h1, h2, h3⟩ := h
    refine ⟨σ, ?_, fr_rf _ _, fun x hx => ?_⟩
    · rw [f_X3_overCorners_L30]
      simp (disch := omega) only [↓reduceIte, iT_lt, iF_lt, iT_le, iF_le, iT_eq, iF_eq, nT_lt, nF_lt, nT_le, nF_le, nT_eq, nF_eq, and_self, and_true, true_and, and_false, false_and, not_true_eq_false, not_false_eq_true, ne_eq, or_self, or_false, false_or, or_true, true_or, Option.bind_some, i32_lit, i64_lit, i32_add, i32_sub, i32_mul, i32_neg, i64_add, i64_sub, i64_neg, i32_lt, i32_le, i32_eq, i64_lt, i64_le, i64_eq, i32_cn, i32_cl, i32_l, i64_i, i32_nat, Int.toNat_natCast, sI_2, sJ_1, sJ_22, sR_1, sR_21, sI_t, sI_r, sI_j, sJ_t, sJ_r, sJ_j, sR_t, sR_r, sR_j]
    · rw [h1 x hx]
      unfold ptC
      by_cases c : i ≤ x ∧ x < i + t
      · rw [if_pos c, h3 x c.1 c.2]
      · rw [if_neg c, h2 x hx (by omega)]
  | succ k ih =>
    intro t N σ ht hN h
    obtain ⟨N, rfl⟩ : ∃ q, N = q + 1 := ⟨N - 1, by omega⟩
    obtain ⟨qt, h1, h2, h3⟩ := h
    have f1 : fr [9] σ (sJ σ 9 (i + t) (i64 ((b / 2 ^ t % 2 : Nat) : Int))) := fr_sJ σ _ (by rw [cd_a rfl]; decide)
    obtain ⟨σ', e1, e2, e3⟩ := ih (t + 1) N (sJ σ 9 (i + t) (i64 ((b / 2 ^ t % 2 : Nat) : Int))) (by omega) (by omega) ⟨uI qt (i + t) ((b / 2 ^ t % 2 : Nat) : Int), rowJ_up h1, fun x hx hc => by rw [uI_f _ _ (by omega)]; exact h2 x hx hc, fun x ha hc => by
      by_cases e : x = i + t
      · rw [uI_t _ _ e, e, show i + t - i = t by omega]
      · rw [uI_f _ _ (by omega)]; exact h3 x ha (by omega)⟩
    refine ⟨σ', ?_, fr_tr f1 e2, e3⟩
    rw [← e1, f_X3_overCorners_L30, bit_i32 hb (by omega)]
    have h9 := bit_rg b t
    have hp := p_put (Z := Z) σ (i := i + t) ((b / 2 ^ t % 2 : Nat) : Int) (by omega)
    rw [Int.natCast_add] at hp
    simp (disch := omega) only [↓reduceIte, iT_lt, iF_lt, iT_le, iF_le, iT_eq, iF_eq, nT_lt, nF_lt, nT_le, nF_le, nT_eq, nF_eq, and_self, and_true, true_and, and_false, false_and, not_true_eq_false, not_false_eq_true, ne_eq, or_self, or_false, false_or, or_true, true_or, Option.bind_some, i32_lit, i64_lit, i32_add, i32_sub, i32_mul, i32_neg, i64_add, i64_sub, i64_neg, i32_lt, i32_le, i32_eq, i64_lt, i64_le, i64_eq, i32_cn, i32_cl, i32_l, i64_i, i32_nat, Int.toNat_natCast, sI_2, sJ_1, sJ_22, sR_1, sR_21, sI_t, sI_r, sI_j, sJ_t, sJ_r, sJ_j, sR_t, sR_r, sR_j, hp]
    rfl
theorem pg_over_L18 {Z : hZ} {r n nm F i f : Nat} {p : Int} {pt c : Nat → Int} (hF : 300 ≤ F) (hs : sgn Z r c n) (hw : wf c n) (hc : nmB c n nm) (hp : 1 < p ∧ p ≤ 1000000007) (hpt : inP p pt 6) (hif : i + f = nm ∨ (f = 0 ∧ i ≤ 6)) :
    ∀ k b N σ, b + k = 2 ^ f → k < N → (∃ qt, rowJ σ 9 qt nm ∧ (∀ x, x < nm → (x < i ∨ i + f ≤ x) → qt x = pt x)) → ∃ σ', f_X3_overCorners_L18 F Z r (i32 i) (i64 p) (i32 f) N σ (i64 (sB (fun b => Wv p (ptC pt i f b) c n) b % p)) (i32 b) = some (i64 (sB (fun b => Wv p (ptC pt i f b) c n) (2 ^ f) % p), σ') ∧ fr [8, 9] σ σ' ∧ ∃ qt, rowJ σ' 9 qt nm ∧ (∀ x, x < nm → (x < i ∨ i + f ≤ x) → qt x = pt x) := by
  have hnm := hc.1
  have h2f : 2 ^ f ≤ 64 := by
    have : 2 ^ f ≤ 2 ^ 6 := Nat.pow_le_pow_right (by decide) (by omega)
    simpa using this
  intro k
  induction k with
  | zero =>
    intro b N σ hb hN h
    obtain ⟨N, rfl⟩ : ∃ q, N = q + 1 := ⟨N - 1, by omega⟩
    obtain rfl : b = 2 ^ f := by omega
    refine ⟨σ, ?_, fr_rf _ _, h⟩
    rw [f_X3_overCorners_L18, sh1 (by omega), if_pos (Int32.le_refl _)]
  | succ k ih =>
    intro b N σ hb hN h
    obtain ⟨N, rfl⟩ : ∃ q, N = q + 1 := ⟨N - 1, by omega⟩
    obtain ⟨qt, h1, h2⟩ := h
    obtain ⟨σ1, a1, a2, a3⟩ := pg_over_L30 (nm := nm) (Z := Z) (i := i) (f := f) (b := b) (pt := pt) (p := i64 p) (tot := i64 (sB (fun b => Wv p (ptC pt i f b) c n) b % p)) (by omega) (by omega) (by omega) (fun σ1 => (f_X3_worthOf F Z σ1 r (i64 p)).bind fun q5 => (f_X3_plus (i64 (sB (fun b => Wv p (ptC pt i f b) c n) b % p)) q5.1 (i64 p)).bind fun q6 => f_X3_overCorners_L18 F Z r (i32 i) (i64 p) (i32 f) N q5.2 q6 (i32 b + (1 : Int32))) f 0 F σ (by omega) (by omega) ⟨qt, h1, h2, fun x ha hb => absurd hb (by omega)⟩
    have hq := ptC_in (i := i) (k := f) (b := b) hp.1 hpt
    obtain ⟨σ2, b1, b2⟩ := pg_worthOf (Z := Z) (F := F) hF hs hw hc hp hq σ1 a3
    have r1 := Wv_rg (by omega) hw hq
    have r2 := p_plus (mod_rg (sB (fun b => Wv p (ptC pt i f b) c n) b) (by omega : 0 < p)) r1 hp.2
    rw [Int.emod_add_emod] at r2
    have f2 : fr [8, 9] σ σ2 := fr_tr (fr_mono a2 (by decide)) (fr_mono b2 (by decide))
    obtain ⟨σ3, c1, c2, c3⟩ := ih (b + 1) N σ2 (by omega) (by omega) ⟨ptC pt i f b, by unfold rowJ; rw [fr_J b2 9 rfl (by decide)]; exact a3, fun x hx hh => by unfold ptC; rw [if_neg (by omega)]⟩
    refine ⟨σ3, ?_, fr_tr f2 c2, c3⟩
    rw [f_X3_overCorners_L18, sh1 (by omega)]
    rw [show ((0 : Nat) : Int) = 0 from rfl, ← i32_lit0] at a1
    simp (disch := omega) only [↓reduceIte, iT_lt, iF_lt, iT_le, iF_le, iT_eq, iF_eq, nT_lt, nF_lt, nT_le, nF_le, nT_eq, nF_eq, and_self, and_true, true_and, and_false, false_and, not_true_eq_false, not_false_eq_true, ne_eq, or_self, or_false, false_or, or_true, true_or, Option.bind_some, i32_lit, i64_lit, i32_add, i32_sub, i32_mul, i32_neg, i64_add, i64_sub, i64_neg, i32_lt, i32_le, i32_eq, i64_lt, i64_le, i64_eq, i32_cn, i32_cl, i32_l, i64_i, i32_nat, Int.toNat_natCast, sI_2, sJ_1, sJ_22, sR_1, sR_21, sI_t, sI_r, sI_j, sJ_t, sJ_r, sJ_j, sR_t, sR_r, sR_j]
    rw [i32_lit0, i32_lit 1, i32_add] at a1
    refine Eq.trans a1 ?_
    rw [b1]
    simp (disch := omega) only [↓reduceIte, iT_lt, iF_lt, iT_le, iF_le, iT_eq, iF_eq, nT_lt, nF_lt, nT_le, nF_le, nT_eq, nF_eq, and_self, and_true, true_and, and_false, false_and, not_true_eq_false, not_false_eq_true, ne_eq, or_self, or_false, false_or, or_true, true_or, Option.bind_some, i32_lit, i64_lit, i32_add, i32_sub, i32_mul, i32_neg, i64_add, i64_sub, i64_neg, i32_lt, i32_le, i32_eq, i64_lt, i64_le, i64_eq, i32_cn, i32_cl, i32_l, i64_i, i32_nat, Int.toNat_natCast, sI_2, sJ_1, sJ_22, sR_1, sR_21, sI_t, sI_r, sI_j, sJ_t, sJ_r, sJ_j, sR_t, sR_r, sR_j, r2]
    exact c1
theorem pg_over {Z : hZ} {r n nm F i : Nat} {p : Int} {pt c : Nat → Int} (hF : 300 ≤ F) (hs : sgn Z r c n) (hn : Z.2.2.1 r 2 = i32 (nm : Nat)) (hw : wf c n) (hc : nmB c n nm) (hp : 1 < p ∧ p ≤ 1000000007) (hpt : inP p pt 6) (hi : i ≤ 6) (σ : hSt) (h9 : rowJ σ 9 pt i) :
    ∃ σ', f_X3_overCorners F Z σ r (i32 i) (i64 p) = some (i64 (sumF p c n (nm - i) i pt), σ') ∧ fr [8, 9] σ σ' ∧ (i ≤ nm → rowJ σ' 9 pt i) := by
  have hnm := hc.1
  have h64 : 2 ^ (nm - i) ≤ 64 := by
    have : 2 ^ (nm - i) ≤ 2 ^ 6 := Nat.pow_le_pow_right (by decide) (by omega)
    simpa using this
  obtain ⟨σ', e1, e2, qt, e3, e4⟩ := pg_over_L18 (F := F) hF hs hw hc hp hpt (i := i) (f := nm - i) (by omega) (2 ^ (nm - i)) 0 F σ (by omega) (by omega) ⟨fun x => if x < i then pt x else (σ.2.1 9 x).toInt, fun x hx => by
    dsimp only
    by_cases e : x < i
    · rw [if_pos e]; exact h9 x e
    · rw [if_neg e]; exact (Int64.ofInt_toInt _).symm, fun x hx hh => if_pos (by omega)⟩
  refine ⟨σ', ?_, e2, fun hle x hx => by rw [e3 x (by omega), e4 x (by omega) (Or.inl hx)]⟩
  rw [sumF_B hp.1 hw _ _ _ hpt, ← e1]
  unfold f_X3_overCorners
  rw [hn, i32_sub]
  by_cases h : i < nm
  · have e : (nm : Int) - (i : Int) = ((nm - i : Nat) : Int) := by omega
    simp (disch := omega) only [↓reduceIte, iT_lt, iF_lt, iT_le, iF_le, iT_eq, iF_eq, nT_lt, nF_lt, nT_le, nF_le, nT_eq, nF_eq, and_self, and_true, true_and, and_false, false_and, not_true_eq_false, not_false_eq_true, ne_eq, or_self, or_false, false_or, or_true, true_or, Option.bind_some, i32_lit, i64_lit, i32_add, i32_sub, i32_mul, i32_neg, i64_add, i64_sub, i64_neg, i32_lt, i32_le, i32_eq, i64_lt, i64_le, i64_eq, i32_cn, i32_cl, i32_l, i64_i, i32_nat, Int.toNat_natCast, sI_2, sJ_1, sJ_22, sR_1, sR_21, sI_t, sI_r, sI_j, sJ_t, sJ_r, sJ_j, sR_t, sR_r, sR_j, e, sB, Int.zero_emod]
    rfl
  · have e : nm - i = 0 := by omega
    rw [e]
    simp (disch := omega) only [↓reduceIte, iT_lt, iF_lt, iT_le, iF_le, iT_eq, iF_eq, nT_lt, nF_lt, nT_le, nF_le, nT_eq, nF_eq, and_self, and_true, true_and, and_false, false_and, not_true_eq_false, not_false_eq_true, ne_eq, or_self, or_false, false_or, or_true, true_or, Option.bind_some, i32_lit, i64_lit, i32_add, i32_sub, i32_mul, i32_neg, i64_add, i64_sub, i64_neg, i32_lt, i32_le, i32_eq, i64_lt, i64_le, i64_eq, i32_cn, i32_cl, i32_l, i64_i, i32_nat, Int.toNat_natCast, sI_2, sJ_1, sJ_22, sR_1, sR_21, sI_t, sI_r, sI_j, sJ_t, sJ_r, sJ_j, sR_t, sR_r, sR_j, sB, Int.zero_emod]
    rfl
