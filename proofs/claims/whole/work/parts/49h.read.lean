/-! a clause's head -/
theorem p_w3 {n p w : Nat} {Z : hZ} {B : Nat → Nat} {σ : hSt} {v : Int} (h : okH B n σ p w) (hw : w + 3 ≤ 400) : ∃ σa σb σ', f_X8_write Z σ (i32 v) = some ((), σa) ∧ f_X8_write Z σa (0 : Int32) = some ((), σb) ∧ f_X8_write Z σb (0 : Int32) = some ((), σ') ∧ fr WT σ σ' ∧ σ'.1 1 5 = i32 ((w + 3 : Nat) : Int) ∧ kpW σ σ' w ∧ σ'.1 3 w = i32 v ∧ σ'.1 3 (w + 1) = 0 ∧ σ'.1 3 (w + 2) = 0 ∧ σ'.1 1 2 = i32 (n : Int) ∧ (∀ j, j < n → σ'.1 2 j = i32 (B j : Int) ∧ 1 ≤ B j ∧ B j ≤ 255) ∧ σ'.1 1 3 = i32 (p : Int) := by
  obtain ⟨a1, a2, a3, a4, a5, a6, a7⟩ := h
  refine ⟨sI (sI σ 3 w (i32 v)) 1 5 (i32 ((w + 1 : Nat) : Int)), sI (sI (sI (sI σ 3 w (i32 v)) 1 5 (i32 ((w + 1 : Nat) : Int))) 3 (w + 1) 0) 1 5 (i32 ((w + 2 : Nat) : Int)), sI (sI (sI (sI (sI (sI σ 3 w (i32 v)) 1 5 (i32 ((w + 1 : Nat) : Int))) 3 (w + 1) 0) 1 5 (i32 ((w + 2 : Nat) : Int))) 3 (w + 2) 0) 1 5 (i32 ((w + 3 : Nat) : Int)), ?_, ?_, ?_, ?_, ?_, fun j hj => ?_, ?_, ?_, ?_, ?_, fun j hj => ?_, ?_⟩
  · unfold f_X8_write
    simp (disch := omega) only [↓reduceIte, iT_lt, iF_lt, iT_le, iF_le, iT_eq, iF_eq, nT_lt, nF_lt, nT_le, nF_le, nT_eq, nF_eq, and_self, and_true, true_and, and_false, false_and, not_true_eq_false, not_false_eq_true, ne_eq, or_self, or_false, false_or, or_true, true_or, Option.bind_some, i32_lit, i64_lit, i32_add, i32_sub, i32_mul, i32_neg, i64_add, i64_sub, i64_neg, i32_lt, i32_le, i32_eq, i64_lt, i64_le, i64_eq, i32_cn, i32_cl, i32_l, i64_i, i32_nat, Int.toNat_natCast, sI_2, sJ_1, sJ_22, sR_1, sR_21, sI_t, sI_r, sI_j, sJ_t, sJ_r, sJ_j, sR_t, sR_r, sR_j, a7]
    rfl
  · unfold f_X8_write
    simp (disch := omega) only [↓reduceIte, iT_lt, iF_lt, iT_le, iF_le, iT_eq, iF_eq, nT_lt, nF_lt, nT_le, nF_le, nT_eq, nF_eq, and_self, and_true, true_and, and_false, false_and, not_true_eq_false, not_false_eq_true, ne_eq, or_self, or_false, false_or, or_true, true_or, Option.bind_some, i32_lit, i64_lit, i32_add, i32_sub, i32_mul, i32_neg, i64_add, i64_sub, i64_neg, i32_lt, i32_le, i32_eq, i64_lt, i64_le, i64_eq, i32_cn, i32_cl, i32_l, i64_i, i32_nat, Int.toNat_natCast, sI_2, sJ_1, sJ_22, sR_1, sR_21, sI_t, sI_r, sI_j, sJ_t, sJ_r, sJ_j, sR_t, sR_r, sR_j]
    rfl
  · unfold f_X8_write
    simp (disch := omega) only [↓reduceIte, iT_lt, iF_lt, iT_le, iF_le, iT_eq, iF_eq, nT_lt, nF_lt, nT_le, nF_le, nT_eq, nF_eq, and_self, and_true, true_and, and_false, false_and, not_true_eq_false, not_false_eq_true, ne_eq, or_self, or_false, false_or, or_true, true_or, Option.bind_some, i32_lit, i64_lit, i32_add, i32_sub, i32_mul, i32_neg, i64_add, i64_sub, i64_neg, i32_lt, i32_le, i32_eq, i64_lt, i64_le, i64_eq, i32_cn, i32_cl, i32_l, i64_i, i32_nat, Int.toNat_natCast, sI_2, sJ_1, sJ_22, sR_1, sR_21, sI_t, sI_r, sI_j, sJ_t, sJ_r, sJ_j, sR_t, sR_r, sR_j]
    rfl
  · have k3 : ∀ (ρ : hSt) (j : Nat) (u : Int32), fr WT ρ (sI ρ 3 j u) := fun ρ j u => fr_sI ρ _ (by rw [cd_a rfl]; decide)
    have k5 : ∀ (ρ : hSt) (u : Int32), fr WT ρ (sI ρ 1 5 u) := fun ρ u => fr_sI ρ _ (by decide)
    exact fr_tr (fr_tr (fr_tr (fr_tr (fr_tr (k3 _ _ _) (k5 _ _)) (k3 _ _ _)) (k5 _ _)) (k3 _ _ _)) (k5 _ _)
  · simp (disch := omega) only [↓reduceIte, iT_lt, iF_lt, iT_le, iF_le, iT_eq, iF_eq, nT_lt, nF_lt, nT_le, nF_le, nT_eq, nF_eq, and_self, and_true, true_and, and_false, false_and, not_true_eq_false, not_false_eq_true, ne_eq, or_self, or_false, false_or, or_true, true_or, Option.bind_some, i32_lit, i64_lit, i32_add, i32_sub, i32_mul, i32_neg, i64_add, i64_sub, i64_neg, i32_lt, i32_le, i32_eq, i64_lt, i64_le, i64_eq, i32_cn, i32_cl, i32_l, i64_i, i32_nat, Int.toNat_natCast, sI_2, sJ_1, sJ_22, sR_1, sR_21, sI_t, sI_r, sI_j, sJ_t, sJ_r, sJ_j, sR_t, sR_r, sR_j]
  · simp (disch := omega) only [↓reduceIte, iT_lt, iF_lt, iT_le, iF_le, iT_eq, iF_eq, nT_lt, nF_lt, nT_le, nF_le, nT_eq, nF_eq, and_self, and_true, true_and, and_false, false_and, not_true_eq_false, not_false_eq_true, ne_eq, or_self, or_false, false_or, or_true, true_or, Option.bind_some, i32_lit, i64_lit, i32_add, i32_sub, i32_mul, i32_neg, i64_add, i64_sub, i64_neg, i32_lt, i32_le, i32_eq, i64_lt, i64_le, i64_eq, i32_cn, i32_cl, i32_l, i64_i, i32_nat, Int.toNat_natCast, sI_2, sJ_1, sJ_22, sR_1, sR_21, sI_t, sI_r, sI_j, sJ_t, sJ_r, sJ_j, sR_t, sR_r, sR_j]
  · simp (disch := omega) only [↓reduceIte, iT_lt, iF_lt, iT_le, iF_le, iT_eq, iF_eq, nT_lt, nF_lt, nT_le, nF_le, nT_eq, nF_eq, and_self, and_true, true_and, and_false, false_and, not_true_eq_false, not_false_eq_true, ne_eq, or_self, or_false, false_or, or_true, true_or, Option.bind_some, i32_lit, i64_lit, i32_add, i32_sub, i32_mul, i32_neg, i64_add, i64_sub, i64_neg, i32_lt, i32_le, i32_eq, i64_lt, i64_le, i64_eq, i32_cn, i32_cl, i32_l, i64_i, i32_nat, Int.toNat_natCast, sI_2, sJ_1, sJ_22, sR_1, sR_21, sI_t, sI_r, sI_j, sJ_t, sJ_r, sJ_j, sR_t, sR_r, sR_j]
  · simp (disch := omega) only [↓reduceIte, iT_lt, iF_lt, iT_le, iF_le, iT_eq, iF_eq, nT_lt, nF_lt, nT_le, nF_le, nT_eq, nF_eq, and_self, and_true, true_and, and_false, false_and, not_true_eq_false, not_false_eq_true, ne_eq, or_self, or_false, false_or, or_true, true_or, Option.bind_some, i32_lit, i64_lit, i32_add, i32_sub, i32_mul, i32_neg, i64_add, i64_sub, i64_neg, i32_lt, i32_le, i32_eq, i64_lt, i64_le, i64_eq, i32_cn, i32_cl, i32_l, i64_i, i32_nat, Int.toNat_natCast, sI_2, sJ_1, sJ_22, sR_1, sR_21, sI_t, sI_r, sI_j, sJ_t, sJ_r, sJ_j, sR_t, sR_r, sR_j]
  · simp (disch := omega) only [↓reduceIte, iT_lt, iF_lt, iT_le, iF_le, iT_eq, iF_eq, nT_lt, nF_lt, nT_le, nF_le, nT_eq, nF_eq, and_self, and_true, true_and, and_false, false_and, not_true_eq_false, not_false_eq_true, ne_eq, or_self, or_false, false_or, or_true, true_or, Option.bind_some, i32_lit, i64_lit, i32_add, i32_sub, i32_mul, i32_neg, i64_add, i64_sub, i64_neg, i32_lt, i32_le, i32_eq, i64_lt, i64_le, i64_eq, i32_cn, i32_cl, i32_l, i64_i, i32_nat, Int.toNat_natCast, sI_2, sJ_1, sJ_22, sR_1, sR_21, sI_t, sI_r, sI_j, sJ_t, sJ_r, sJ_j, sR_t, sR_r, sR_j]
  · simp (disch := omega) only [↓reduceIte, iT_lt, iF_lt, iT_le, iF_le, iT_eq, iF_eq, nT_lt, nF_lt, nT_le, nF_le, nT_eq, nF_eq, and_self, and_true, true_and, and_false, false_and, not_true_eq_false, not_false_eq_true, ne_eq, or_self, or_false, false_or, or_true, true_or, Option.bind_some, i32_lit, i64_lit, i32_add, i32_sub, i32_mul, i32_neg, i64_add, i64_sub, i64_neg, i32_lt, i32_le, i32_eq, i64_lt, i64_le, i64_eq, i32_cn, i32_cl, i32_l, i64_i, i32_nat, Int.toNat_natCast, sI_2, sJ_1, sJ_22, sR_1, sR_21, sI_t, sI_r, sI_j, sJ_t, sJ_r, sJ_j, sR_t, sR_r, sR_j]; exact a4
  · simp (disch := omega) only [↓reduceIte, iT_lt, iF_lt, iT_le, iF_le, iT_eq, iF_eq, nT_lt, nF_lt, nT_le, nF_le, nT_eq, nF_eq, and_self, and_true, true_and, and_false, false_and, not_true_eq_false, not_false_eq_true, ne_eq, or_self, or_false, false_or, or_true, true_or, Option.bind_some, i32_lit, i64_lit, i32_add, i32_sub, i32_mul, i32_neg, i64_add, i64_sub, i64_neg, i32_lt, i32_le, i32_eq, i64_lt, i64_le, i64_eq, i32_cn, i32_cl, i32_l, i64_i, i32_nat, Int.toNat_natCast, sI_2, sJ_1, sJ_22, sR_1, sR_21, sI_t, sI_r, sI_j, sJ_t, sJ_r, sJ_j, sR_t, sR_r, sR_j]; exact a5 j hj
  · simp (disch := omega) only [↓reduceIte, iT_lt, iF_lt, iT_le, iF_le, iT_eq, iF_eq, nT_lt, nF_lt, nT_le, nF_le, nT_eq, nF_eq, and_self, and_true, true_and, and_false, false_and, not_true_eq_false, not_false_eq_true, ne_eq, or_self, or_false, false_or, or_true, true_or, Option.bind_some, i32_lit, i64_lit, i32_add, i32_sub, i32_mul, i32_neg, i64_add, i64_sub, i64_neg, i32_lt, i32_le, i32_eq, i64_lt, i64_le, i64_eq, i32_cn, i32_cl, i32_l, i64_i, i32_nat, Int.toNat_natCast, sI_2, sJ_1, sJ_22, sR_1, sR_21, sI_t, sI_r, sI_j, sJ_t, sJ_r, sJ_j, sR_t, sR_r, sR_j]; exact a6
/-- the sign : behind it -/
theorem p_colon {F n p w : Nat} {Z : hZ} {B : Nat → Nat} {σ : hSt} (hF : 300 ≤ F) (a1 : n ≤ 200) (a2 : p ≤ n) (hw : w ≤ 2 * p + 2) (a4 : σ.1 1 2 = i32 (n : Int)) (a5 : ∀ j, j < n → σ.1 2 j = i32 (B j : Int) ∧ 1 ≤ B j ∧ B j ≤ 255) (a6 : σ.1 1 3 = i32 (p : Int)) (a7 : σ.1 1 5 = i32 (w : Int)) : ∃ σ', fr WT σ σ' ∧ σ'.1 3 = σ.1 3 ∧ (if pk B n (sk B n p) = 58 then f_X8_expect F Z σ (58 : Int32) = some (1, σ') ∧ okH B n σ' (sk B n p + 1) w ∧ sk B n p < n else f_X8_expect F Z σ (58 : Int32) = some (0, σ') ∧ σ'.1 1 4 = i32 (sk B n p : Int)) := by
  have hs := sk_rg (B := B) a2
  have h0 : okH B n (sI σ 1 5 (i32 ((0 : Nat) : Int))) p 0 := by
    refine ⟨a1, a2, by omega, ?_, fun j hj => ?_, ?_, ?_⟩
    · simp (disch := omega) only [↓reduceIte, iT_lt, iF_lt, iT_le, iF_le, iT_eq, iF_eq, nT_lt, nF_lt, nT_le, nF_le, nT_eq, nF_eq, and_self, and_true, true_and, and_false, false_and, not_true_eq_false, not_false_eq_true, ne_eq, or_self, or_false, false_or, or_true, true_or, Option.bind_some, i32_lit, i64_lit, i32_add, i32_sub, i32_mul, i32_neg, i64_add, i64_sub, i64_neg, i32_lt, i32_le, i32_eq, i64_lt, i64_le, i64_eq, i32_cn, i32_cl, i32_l, i64_i, i32_nat, Int.toNat_natCast, sI_2, sJ_1, sJ_22, sR_1, sR_21, sI_t, sI_r, sI_j, sJ_t, sJ_r, sJ_j, sR_t, sR_r, sR_j]; exact a4
    · simp (disch := omega) only [↓reduceIte, iT_lt, iF_lt, iT_le, iF_le, iT_eq, iF_eq, nT_lt, nF_lt, nT_le, nF_le, nT_eq, nF_eq, and_self, and_true, true_and, and_false, false_and, not_true_eq_false, not_false_eq_true, ne_eq, or_self, or_false, false_or, or_true, true_or, Option.bind_some, i32_lit, i64_lit, i32_add, i32_sub, i32_mul, i32_neg, i64_add, i64_sub, i64_neg, i32_lt, i32_le, i32_eq, i64_lt, i64_le, i64_eq, i32_cn, i32_cl, i32_l, i64_i, i32_nat, Int.toNat_natCast, sI_2, sJ_1, sJ_22, sR_1, sR_21, sI_t, sI_r, sI_j, sJ_t, sJ_r, sJ_j, sR_t, sR_r, sR_j]; exact a5 j hj
    · simp (disch := omega) only [↓reduceIte, iT_lt, iF_lt, iT_le, iF_le, iT_eq, iF_eq, nT_lt, nF_lt, nT_le, nF_le, nT_eq, nF_eq, and_self, and_true, true_and, and_false, false_and, not_true_eq_false, not_false_eq_true, ne_eq, or_self, or_false, false_or, or_true, true_or, Option.bind_some, i32_lit, i64_lit, i32_add, i32_sub, i32_mul, i32_neg, i64_add, i64_sub, i64_neg, i32_lt, i32_le, i32_eq, i64_lt, i64_le, i64_eq, i32_cn, i32_cl, i32_l, i64_i, i32_nat, Int.toNat_natCast, sI_2, sJ_1, sJ_22, sR_1, sR_21, sI_t, sI_r, sI_j, sJ_t, sJ_r, sJ_j, sR_t, sR_r, sR_j]; exact a6
    · simp (disch := omega) only [↓reduceIte, iT_lt, iF_lt, iT_le, iF_le, iT_eq, iF_eq, nT_lt, nF_lt, nT_le, nF_le, nT_eq, nF_eq, and_self, and_true, true_and, and_false, false_and, not_true_eq_false, not_false_eq_true, ne_eq, or_self, or_false, false_or, or_true, true_or, Option.bind_some, i32_lit, i64_lit, i32_add, i32_sub, i32_mul, i32_neg, i64_add, i64_sub, i64_neg, i32_lt, i32_le, i32_eq, i64_lt, i64_le, i64_eq, i32_cn, i32_cl, i32_l, i64_i, i32_nat, Int.toNat_natCast, sI_2, sJ_1, sJ_22, sR_1, sR_21, sI_t, sI_r, sI_j, sJ_t, sJ_r, sJ_j, sR_t, sR_r, sR_j]
  have hr := pk_rg (q := sk B n p) h0
  have e1 : f_X8_next F Z σ = some (i32 (pk B n (sk B n p) : Int), sI σ 1 3 (i32 (sk B n p : Int))) := by
    unfold f_X8_next
    have i := p_next_L a1 a4 a5 (n - p) p F (by omega) (by omega)
    rw [← i, a6]
    by_cases c : p = 0
    · subst c
      simp (disch := omega) only [↓reduceIte, iT_lt, iF_lt, iT_le, iF_le, iT_eq, iF_eq, nT_lt, nF_lt, nT_le, nF_le, nT_eq, nF_eq, and_self, and_true, true_and, and_false, false_and, not_true_eq_false, not_false_eq_true, ne_eq, or_self, or_false, false_or, or_true, true_or, Option.bind_some, i32_lit, i64_lit, i32_add, i32_sub, i32_mul, i32_neg, i64_add, i64_sub, i64_neg, i32_lt, i32_le, i32_eq, i64_lt, i64_le, i64_eq, i32_cn, i32_cl, i32_l, i64_i, i32_nat, Int.toNat_natCast, sI_2, sJ_1, sJ_22, sR_1, sR_21, sI_t, sI_r, sI_j, sJ_t, sJ_r, sJ_j, sR_t, sR_r, sR_j]
      rfl
    · simp (disch := omega) only [↓reduceIte, iT_lt, iF_lt, iT_le, iF_le, iT_eq, iF_eq, nT_lt, nF_lt, nT_le, nF_le, nT_eq, nF_eq, and_self, and_true, true_and, and_false, false_and, not_true_eq_false, not_false_eq_true, ne_eq, or_self, or_false, false_or, or_true, true_or, Option.bind_some, i32_lit, i64_lit, i32_add, i32_sub, i32_mul, i32_neg, i64_add, i64_sub, i64_neg, i32_lt, i32_le, i32_eq, i64_lt, i64_le, i64_eq, i32_cn, i32_cl, i32_l, i64_i, i32_nat, Int.toNat_natCast, sI_2, sJ_1, sJ_22, sR_1, sR_21, sI_t, sI_r, sI_j, sJ_t, sJ_r, sJ_j, sR_t, sR_r, sR_j]
  have e58 : (58 : Int32) = i32 58 := rfl
  unfold f_X8_expect
  rw [e1, obs]
  dsimp only
  by_cases q : pk B n (sk B n p) = 58
  · have hlt := pkp_lt (show pk B n (sk B n p) ≠ 0 by omega)
    rw [if_pos (show i32 (pk B n (sk B n p) : Int) = (58 : Int32) by rw [q]; rfl)]
    refine ⟨sI σ 1 3 (i32 ((sk B n p + 1 : Nat) : Int)), fr_sI _ _ (by decide), sI_r _ _ (by omega), ?_⟩
    rw [if_pos q]
    refine ⟨?_, ⟨a1, by omega, by omega, ?_, fun j hj => ?_, ?_, ?_⟩, hlt⟩
    · simp (disch := omega) only [↓reduceIte, iT_lt, iF_lt, iT_le, iF_le, iT_eq, iF_eq, nT_lt, nF_lt, nT_le, nF_le, nT_eq, nF_eq, and_self, and_true, true_and, and_false, false_and, not_true_eq_false, not_false_eq_true, ne_eq, or_self, or_false, false_or, or_true, true_or, Option.bind_some, i32_lit, i64_lit, i32_add, i32_sub, i32_mul, i32_neg, i64_add, i64_sub, i64_neg, i32_lt, i32_le, i32_eq, i64_lt, i64_le, i64_eq, i32_cn, i32_cl, i32_l, i64_i, i32_nat, Int.toNat_natCast, sI_2, sJ_1, sJ_22, sR_1, sR_21, sI_t, sI_r, sI_j, sJ_t, sJ_r, sJ_j, sR_t, sR_r, sR_j, sI_sI]
      rfl
    · simp (disch := omega) only [↓reduceIte, iT_lt, iF_lt, iT_le, iF_le, iT_eq, iF_eq, nT_lt, nF_lt, nT_le, nF_le, nT_eq, nF_eq, and_self, and_true, true_and, and_false, false_and, not_true_eq_false, not_false_eq_true, ne_eq, or_self, or_false, false_or, or_true, true_or, Option.bind_some, i32_lit, i64_lit, i32_add, i32_sub, i32_mul, i32_neg, i64_add, i64_sub, i64_neg, i32_lt, i32_le, i32_eq, i64_lt, i64_le, i64_eq, i32_cn, i32_cl, i32_l, i64_i, i32_nat, Int.toNat_natCast, sI_2, sJ_1, sJ_22, sR_1, sR_21, sI_t, sI_r, sI_j, sJ_t, sJ_r, sJ_j, sR_t, sR_r, sR_j]; exact a4
    · simp (disch := omega) only [↓reduceIte, iT_lt, iF_lt, iT_le, iF_le, iT_eq, iF_eq, nT_lt, nF_lt, nT_le, nF_le, nT_eq, nF_eq, and_self, and_true, true_and, and_false, false_and, not_true_eq_false, not_false_eq_true, ne_eq, or_self, or_false, false_or, or_true, true_or, Option.bind_some, i32_lit, i64_lit, i32_add, i32_sub, i32_mul, i32_neg, i64_add, i64_sub, i64_neg, i32_lt, i32_le, i32_eq, i64_lt, i64_le, i64_eq, i32_cn, i32_cl, i32_l, i64_i, i32_nat, Int.toNat_natCast, sI_2, sJ_1, sJ_22, sR_1, sR_21, sI_t, sI_r, sI_j, sJ_t, sJ_r, sJ_j, sR_t, sR_r, sR_j]; exact a5 j hj
    · simp (disch := omega) only [↓reduceIte, iT_lt, iF_lt, iT_le, iF_le, iT_eq, iF_eq, nT_lt, nF_lt, nT_le, nF_le, nT_eq, nF_eq, and_self, and_true, true_and, and_false, false_and, not_true_eq_false, not_false_eq_true, ne_eq, or_self, or_false, false_or, or_true, true_or, Option.bind_some, i32_lit, i64_lit, i32_add, i32_sub, i32_mul, i32_neg, i64_add, i64_sub, i64_neg, i32_lt, i32_le, i32_eq, i64_lt, i64_le, i64_eq, i32_cn, i32_cl, i32_l, i64_i, i32_nat, Int.toNat_natCast, sI_2, sJ_1, sJ_22, sR_1, sR_21, sI_t, sI_r, sI_j, sJ_t, sJ_r, sJ_j, sR_t, sR_r, sR_j]
    · simp (disch := omega) only [↓reduceIte, iT_lt, iF_lt, iT_le, iF_le, iT_eq, iF_eq, nT_lt, nF_lt, nT_le, nF_le, nT_eq, nF_eq, and_self, and_true, true_and, and_false, false_and, not_true_eq_false, not_false_eq_true, ne_eq, or_self, or_false, false_or, or_true, true_or, Option.bind_some, i32_lit, i64_lit, i32_add, i32_sub, i32_mul, i32_neg, i64_add, i64_sub, i64_neg, i32_lt, i32_le, i32_eq, i64_lt, i64_le, i64_eq, i32_cn, i32_cl, i32_l, i64_i, i32_nat, Int.toNat_natCast, sI_2, sJ_1, sJ_22, sR_1, sR_21, sI_t, sI_r, sI_j, sJ_t, sJ_r, sJ_j, sR_t, sR_r, sR_j]; exact a7
  · rw [if_neg (show ¬ i32 (pk B n (sk B n p) : Int) = (58 : Int32) by rw [e58, i32_eq (by omega)]; omega)]
    have f0 : fr WT σ (sI σ 1 3 (i32 (sk B n p : Int))) := fr_sI σ _ (by decide)
    have f1 : fr WT (sI σ 1 3 (i32 (sk B n p : Int))) (sI (sI σ 1 3 (i32 (sk B n p : Int))) 1 4 ((sI σ 1 3 (i32 (sk B n p : Int))).1 1 3)) := fr_sI _ _ (by decide)
    refine ⟨_, fr_tr f0 f1, ?_, ?_⟩
    · simp (disch := omega) only [↓reduceIte, iT_lt, iF_lt, iT_le, iF_le, iT_eq, iF_eq, nT_lt, nF_lt, nT_le, nF_le, nT_eq, nF_eq, and_self, and_true, true_and, and_false, false_and, not_true_eq_false, not_false_eq_true, ne_eq, or_self, or_false, false_or, or_true, true_or, Option.bind_some, i32_lit, i64_lit, i32_add, i32_sub, i32_mul, i32_neg, i64_add, i64_sub, i64_neg, i32_lt, i32_le, i32_eq, i64_lt, i64_le, i64_eq, i32_cn, i32_cl, i32_l, i64_i, i32_nat, Int.toNat_natCast, sI_2, sJ_1, sJ_22, sR_1, sR_21, sI_t, sI_r, sI_j, sJ_t, sJ_r, sJ_j, sR_t, sR_r, sR_j]
    · rw [if_neg q]
      refine ⟨rfl, ?_⟩
      simp (disch := omega) only [↓reduceIte, iT_lt, iF_lt, iT_le, iF_le, iT_eq, iF_eq, nT_lt, nF_lt, nT_le, nF_le, nT_eq, nF_eq, and_self, and_true, true_and, and_false, false_and, not_true_eq_false, not_false_eq_true, ne_eq, or_self, or_false, false_or, or_true, true_or, Option.bind_some, i32_lit, i64_lit, i32_add, i32_sub, i32_mul, i32_neg, i64_add, i64_sub, i64_neg, i32_lt, i32_le, i32_eq, i64_lt, i64_le, i64_eq, i32_cn, i32_cl, i32_l, i64_i, i32_nat, Int.toNat_natCast, sI_2, sJ_1, sJ_22, sR_1, sR_21, sI_t, sI_r, sI_j, sJ_t, sJ_r, sJ_j, sR_t, sR_r, sR_j]
theorem p_rew {Z : hZ} {σ : hSt} {j : Nat} {v : Int32} (hj : j < 400) : f_X8_rewrite Z σ (i32 (j : Int)) v = some ((), sI σ 3 j v) := by
  unfold f_X8_rewrite
  simp (disch := omega) only [↓reduceIte, iT_lt, iF_lt, iT_le, iF_le, iT_eq, iF_eq, nT_lt, nF_lt, nT_le, nF_le, nT_eq, nF_eq, and_self, and_true, true_and, and_false, false_and, not_true_eq_false, not_false_eq_true, ne_eq, or_self, or_false, false_or, or_true, true_or, Option.bind_some, i32_lit, i64_lit, i32_add, i32_sub, i32_mul, i32_neg, i64_add, i64_sub, i64_neg, i32_lt, i32_le, i32_eq, i64_lt, i64_le, i64_eq, i32_cn, i32_cl, i32_l, i64_i, i32_nat, Int.toNat_natCast, sI_2, sJ_1, sJ_22, sR_1, sR_21, sI_t, sI_r, sI_j, sJ_t, sJ_r, sJ_j, sR_t, sR_r, sR_j]
theorem okH_3 {B : Nat → Nat} {n p w j : Nat} {σ : hSt} {v : Int32} (h : okH B n σ p w) : okH B n (sI σ 3 j v) p w := by
  obtain ⟨a1, a2, a3, a4, a5, a6, a7⟩ := h
  refine ⟨a1, a2, a3, ?_, fun j hj => ?_, ?_, ?_⟩
  · rw [sI_r _ _ (by omega)]; exact a4
  · rw [sI_r _ _ (by omega)]; exact a5 j hj
  · rw [sI_r _ _ (by omega)]; exact a6
  · rw [sI_r _ _ (by omega)]; exact a7
theorem okP_3 {B : Nat → Nat} {n f j : Nat} {σ : hSt} {v : Int32} (h : okP B n σ f) : okP B n (sI σ 3 j v) f := by
  obtain ⟨a1, a2, a3, a4, a5, a6, w, a7, a8⟩ := h
  refine ⟨a1, a2, a3, ?_, fun j hj => ?_, ?_, w, a7, ?_⟩
  · rw [sI_r _ _ (by omega)]; exact a4
  · rw [sI_r _ _ (by omega)]; exact a5 j hj
  · rw [sI_r _ _ (by omega)]; exact a6
  · rw [sI_r _ _ (by omega)]; exact a8
theorem fr_3 (σ : hSt) (j : Nat) (v : Int32) : fr WT σ (sI σ 3 j v) := fr_sI σ _ (by rw [cd_a rfl]; decide)
theorem cdA_c3 {σ : hSt} {w : Nat} {a b c : Int} {l : List Int} (h0 : σ.1 3 w = i32 a) (h1 : σ.1 3 (w + 1) = i32 b) (h2 : σ.1 3 (w + 2) = i32 c) (h : cdA σ (w + 3) l) : cdA σ w (a :: b :: c :: l) := by
  intro i hi
  match i, hi with
  | 0, _ => exact h0
  | 1, _ => exact h1
  | 2, _ => exact h2
  | i + 3, hi =>
    have := h i (by simp only [List.length_cons] at hi; omega)
    rw [show w + (i + 3) = w + 3 + i by omega]
    exact this
theorem p_takeP {F n f c : Nat} {Z : hZ} {B : Nat → Nat} {σ : hSt} (hF : 300 ≤ F) (h : okP B n σ f) (hc : c ≤ 255 ∧ (c < 48 ∨ 57 < c)) : f_X8_take F Z σ (i32 (c : Int)) = some (0, σ) := by
  have hd := pk_dg h.2.2.1
  unfold f_X8_take
  rw [p_nextP hF h, obs]
  dsimp only
  rw [if_neg (by rw [i32_eq (by omega)]; omega)]
/-- a clause behind its colon -/
theorem p_tQ {F n g w : Nat} {lab : Int} {Z : hZ} {B : Nat → Nat} {σ0 σ : hSt} {o : PR} {x : Option (Int32 × hSt)} (hF : 300 ≤ F) (hg : g ≤ 1) (hw : w + 3 ≤ 400) (hk : kpW σ0 σ w) (hl : σ.1 3 w = i32 lab) (hz : σ.1 3 (w + 1) = 0) (hf : fr WT σ0 σ) (h : resT B n σ (w + 3) o x) : resT B n σ0 w (tQ B n g lab o) (x.bind fun q10 => (if q10.1 = (0 : Int32) then some ((0 : Int32), q10.2) else (f_X8_take F Z q10.2 (63 : Int32)).bind fun q12 => (if q12.1 = (0 : Int32) then (f_X8_rewrite Z q12.2 (i32 (w : Int) + (2 : Int32)) ((q12.2.1 1 5) - i32 ((w + 3 : Nat) : Int))).bind fun q14 => some ((1 : Int32), q14.2) else (f_X8_rewrite Z q12.2 (i32 (w : Int) + (1 : Int32)) ((q12.2.1 1 5) - i32 ((w + 3 : Nat) : Int))).bind fun q15 => (f_X10_total F Z q15.2 (5 + g) (0 : Int32)).bind fun q16 => (if q16.1 = (0 : Int32) then some ((0 : Int32), q16.2) else (f_X8_rewrite Z q16.2 (i32 (w : Int) + (2 : Int32)) ((q16.2.1 1 5) - (q15.2.1 1 5))).bind fun q18 => some ((1 : Int32), q18.2))))) := by
  obtain ⟨σ1, b2, b3⟩ := h
  have e1 : i32 (w : Int) + (1 : Int32) = i32 ((w + 1 : Nat) : Int) := by rw [show (1 : Int32) = i32 1 from rfl, i32_add]; rfl
  have e2 : i32 (w : Int) + (2 : Int32) = i32 ((w + 2 : Nat) : Int) := by rw [show (2 : Int32) = i32 2 from rfl, i32_add]; rfl
  have e63 : (63 : Int32) = i32 ((63 : Nat) : Int) := rfl
  rw [e1, e2, e63]
  unfold tQ
  rcases b3 with ⟨d, b1, c1, c2, c3⟩ | ⟨d, b1, b4⟩ | ⟨d, b1, b4⟩
  · rw [b1, obs]
    dsimp only
    rw [if_pos d, if_neg n10]
    have ht := p_take (Z := Z) (c := 63) hF c1 (by omega)
    have hc1 := c1.2.2.1
    by_cases q : pk B n (sk B n o.2.1) = 63
    · rw [if_pos q] at ht
      obtain ⟨σ2, t1, t2, t3, t4, t5⟩ := ht
      rw [if_pos q, t1, obs]
      dsimp only
      rw [if_neg n10, p_rew (by omega), obs]
      dsimp only
      have hlen : σ2.1 1 5 - i32 ((w + 3 : Nat) : Int) = i32 (o.2.2.length : Int) := by
        rw [t4.2.2.2.2.2.2, i32_sub]; congr 1; omega
      rw [hlen]
      have h3 := okH_3 (j := w + 1) (v := i32 (o.2.2.length : Int)) t4
      obtain ⟨σ3, u1, u2⟩ := p_total (Z := Z) (x := 0) (d := 6) hF hg rfl _ _ _ h3
      have u0 : fr WT σ0 σ3 := fr_tr hf (fr_tr b2 (fr_tr t2 (fr_tr (fr_3 _ _ _) u1)))
      rcases u2 with ⟨d2, v1, v2, v3, v4⟩ | ⟨d2, v1, v4⟩ | ⟨d2, v1, v4⟩
      · rw [if_pos d2, show f_X10_total F Z (sI σ2 3 (w + 1) (i32 (o.2.2.length : Int))) (5 + g) 0 = _ from v1, obs]
        dsimp only
        rw [if_neg n10, p_rew (by omega), obs]
        have hlen2 : σ3.1 1 5 - (sI σ2 3 (w + 1) (i32 (o.2.2.length : Int))).1 1 5 = i32 ((tT B n g 6 (sk B n o.2.1 + 1)).2.2.length : Int) := by
          rw [v2.2.2.2.2.2.2, h3.2.2.2.2.2.2, i32_sub]; congr 1; omega
        dsimp only
        rw [hlen2]
        have k2 : ∀ j, j < w + 3 + o.2.2.length → j ≠ w + 1 → σ3.1 3 j = σ1.1 3 j := by
          intro j hj hj2
          rw [v3 j hj, sI_j _ _ (by omega), t3]
        refine ⟨_, fr_tr u0 (fr_3 _ _ _), Or.inl ⟨rfl, rfl, ?_, fun j hj => ?_, ?_⟩⟩
        · have := okH_3 (j := w + 2) (v := i32 ((tT B n g 6 (sk B n o.2.1 + 1)).2.2.length : Int)) v2
          show okH B n _ (tT B n g 6 (sk B n o.2.1 + 1)).2.1 (w + (lab :: (o.2.2.length : Int) :: ((tT B n g 6 (sk B n o.2.1 + 1)).2.2.length : Int) :: (o.2.2 ++ (tT B n g 6 (sk B n o.2.1 + 1)).2.2)).length)
          rw [show w + (lab :: (o.2.2.length : Int) :: ((tT B n g 6 (sk B n o.2.1 + 1)).2.2.length : Int) :: (o.2.2 ++ (tT B n g 6 (sk B n o.2.1 + 1)).2.2)).length = w + 3 + o.2.2.length + (tT B n g 6 (sk B n o.2.1 + 1)).2.2.length by simp only [List.length_append, List.length_cons]; omega]
          exact this
        · rw [sI_j _ _ (by omega), k2 j (by omega) (by omega), c2 j (by omega), hk j hj]
        · refine cdA_c3 ?_ ?_ ?_ (cdA_app ?_ ?_)
          · rw [sI_j _ _ (by omega), k2 w (by omega) (by omega), c2 w (by omega), hl]
          · rw [sI_j _ _ (by omega), v3 (w + 1) (by omega), sI_t _ _ ⟨rfl, rfl⟩]
          · rw [sI_t _ _ ⟨rfl, rfl⟩]
          · intro i hi
            rw [sI_j _ _ (by omega), k2 _ (by omega) (by omega)]
            exact c3 i hi
          · intro i hi
            rw [sI_j _ _ (by omega)]
            exact v4 i hi
      · rw [if_neg (by rw [d2]; decide), show f_X10_total F Z (sI σ2 3 (w + 1) (i32 (o.2.2.length : Int))) (5 + g) 0 = _ from v1, obs]
        dsimp only
        rw [if_pos rfl]
        exact resT_0 u0 rfl v4
      · rw [if_neg (by rw [d2]; decide), show f_X10_total F Z (sI σ2 3 (w + 1) (i32 (o.2.2.length : Int))) (5 + g) 0 = _ from v1, obs]
        dsimp only
        rw [if_neg n10, p_rew (by omega), obs]
        exact resT_P (fr_tr u0 (fr_3 _ _ _)) rfl (okP_3 v4)
    · rw [if_neg q] at ht
      obtain ⟨σ2, t1, t2, t3, t4⟩ := ht
      rw [if_neg q, t1, obs]
      dsimp only
      have hlen : σ2.1 1 5 - i32 ((w + 3 : Nat) : Int) = i32 (o.2.2.length : Int) := by
        rw [t4.2.2.2.2.2.2, i32_sub]; congr 1; omega
      rw [if_pos rfl, p_rew (by omega), obs, hlen]
      refine ⟨_, fr_tr hf (fr_tr b2 (fr_tr t2 (fr_3 _ _ _))), Or.inl ⟨rfl, rfl, ?_, fun j hj => ?_, ?_⟩⟩
      · have := okH_3 (j := w + 2) (v := i32 (o.2.2.length : Int)) t4
        show okH B n _ (sk B n o.2.1) (w + (lab :: 0 :: (o.2.2.length : Int) :: o.2.2).length)
        rw [show w + (lab :: 0 :: (o.2.2.length : Int) :: o.2.2).length = w + 3 + o.2.2.length by simp only [List.length_cons]; omega]
        exact this
      · rw [sI_j _ _ (by omega), t3, c2 j (by omega), hk j hj]
      · refine cdA_c3 ?_ ?_ ?_ ?_
        · rw [sI_j _ _ (by omega), t3, c2 w (by omega), hl]
        · rw [sI_j _ _ (by omega), t3, c2 (w + 1) (by omega), hz]; rfl
        · rw [sI_t _ _ ⟨rfl, rfl⟩]
        · intro i hi
          rw [sI_j _ _ (by omega), t3]
          exact c3 i hi
  · rw [b1, obs]
    dsimp only
    rw [if_neg (by rw [d]; decide), if_pos rfl]
    exact resT_0 (fr_tr hf b2) rfl b4
  · rw [b1, obs]
    dsimp only
    rw [if_neg (by rw [d]; decide), if_neg n10, p_takeP hF b4 (by omega), obs]
    dsimp only
    rw [if_pos rfl, p_rew (by omega), obs]
    exact resT_P (fr_tr hf (fr_tr b2 (fr_3 _ _ _))) rfl (okP_3 b4)
theorem p_clause {F n g p w : Nat} {Z : hZ} {B : Nat → Nat} {σ : hSt} (hF : 300 ≤ F) (hg : g ≤ 1) (hw : w ≤ p) (ho : okH B n σ p w) : resT B n σ w (tK B n g p) (f_X10_clause F Z σ (5 + g)) := by
  obtain ⟨e1, h2⟩ := p_next (Z := Z) hF ho
  have hr := pk_rg (q := sk B n p) ho
  have hs := sk_rg (B := B) ho.2.1
  have f0 : fr WT σ (sI σ 1 3 (i32 (sk B n p : Int))) := fr_sI σ _ (by decide)
  have g0 : (sI σ 1 3 (i32 (sk B n p : Int))).1 3 = σ.1 3 := sI_r _ _ (by omega)
  unfold f_X10_clause tK
  rw [e1, obs]
  dsimp only
  rw [ch16 (by omega), show 5 + g - 5 = g by omega, p_ix hF (by omega) (by omega), obs]
  have hi := ixS_rg (k := 2 * g) (by omega) (pk B n (sk B n p))
  by_cases c : 0 ≤ ixS (2 * g) (pk B n (sk B n p))
  · have hlt := ix_lt hg c
    obtain ⟨σ1, s1, s2, s3, s4⟩ := p_step (Z := Z) h2 hlt
    have hn := ho.1
    obtain ⟨σa, σb, σ2, w1, w2, w3, w4, w5, w6, w7, w8, w9, w10, w11, w12⟩ := p_w3 (Z := Z) (v := (pk B n (sk B n p) : Int)) s3 (by omega)
    rw [if_pos c, if_pos (show (0 : Int32) ≤ i32 (ixS (2 * g) (pk B n (sk B n p))) by rw [show (0 : Int32) = i32 0 from rfl, i32_le (by omega)]; omega), s1, obs]
    dsimp only
    rw [w1, obs]
    dsimp only
    rw [w2, obs]
    dsimp only
    rw [w3, obs]
    dsimp only
    rw [s3.2.2.2.2.2.2, w5]
    obtain ⟨σ3, x1, x2, x3⟩ := p_colon (Z := Z) hF hn (show sk B n p + 1 ≤ n from hlt) (show w + 3 ≤ 2 * (sk B n p + 1) + 2 by omega) w10 w11 w12 w5
    by_cases q : pk B n (sk B n (sk B n p + 1)) = 58
    · rw [if_pos q] at x3
      obtain ⟨x3, x4, x5⟩ := x3
      rw [if_pos q, x3, obs]
      dsimp only
      rw [if_neg n10]
      exact p_tQ hF hg (by omega) (fun j hj => by rw [x2, w6 j hj, s4, g0]) (by rw [x2]; exact w7) (by rw [x2]; exact w8) (fr_tr (fr_tr (fr_tr f0 s2) w4) x1) (p_opening hF hg x4)
    · rw [if_neg q] at x3
      obtain ⟨x3, x4⟩ := x3
      rw [if_neg q, x3, obs]
      dsimp only
      rw [if_pos rfl]
      exact resT_0 (fr_tr (fr_tr (fr_tr f0 s2) w4) x1) rfl x4
  · obtain ⟨σ1, s1, s2, s3⟩ := p_fail (Z := Z) h2
    rw [if_neg c, if_neg (show ¬ (0 : Int32) ≤ i32 (ixS (2 * g) (pk B n (sk B n p))) by rw [show (0 : Int32) = i32 0 from rfl, i32_le (by omega)]; omega), s1, obs]
    exact resT_0 (fr_tr f0 s2) (if_pos (Or.inl rfl)) s3
