/-! what a LAW asks: class -/
def lawL (i N P K : Int) : Nat → Int64 := fun j => if j = 4 then i64 i else if j = 6 then i64 N else if j = 7 then i64 P else if j = 9 then i64 K else 0
/-- a SAYING and a LAW have been set before the asker -/
def sitH (Z : hZ) (σ : hSt) (s t : Nat) (N P : Int) (sp : Nat → Int) (cs : List (Int × List Int × List Int)) : Prop := σ.2.2 12 2 = some s ∧ isSa Z s = true ∧ σ.2.2 12 3 = some t ∧ isTe Z t = true ∧ σ.1 12 4 = i32 P ∧ Z.2.2.1 s 2 = i32 N ∧ (0 ≤ N ∧ N ≤ 6) ∧ (0 ≤ P ∧ P ≤ 1000000007) ∧ Z.2.1 (s + 2000) = 6 ∧ (∀ j, j < 6 → Z.2.2.1 (s + 2000) j = i32 (sp j) ∧ 0 ≤ sp j ∧ sp j ≤ 200) ∧ cdZ Z (t + 2000) (flat cs) ∧ (flat cs).length ≤ 800 ∧ (∀ c ∈ cs, clO c) ∧ ∀ j, j < 10 → j ≠ 4 → j ≠ 6 → j ≠ 7 → j ≠ 9 → σ.2.1 13 j = 0
def spK (N : Int) (sp : Nat → Int) (i : Nat) : Int := if (i : Int) < N then sp i else 0
theorem p_rounds {Z : hZ} {σ : hSt} {s : Nat} {N : Int} (h1 : σ.2.2 12 2 = some s) (h2 : isSa Z s = true) (h3 : Z.2.2.1 s 2 = i32 N) : f_X0_rounds Z σ = some (i32 N) := by
  unfold f_X0_rounds oc
  rw [h1]
  dsimp only
  rw [if_pos h2, if_pos h2, h3]
theorem p_steepOf {Z : hZ} {σ : hSt} {s i : Nat} {sp : Nat → Int} (h1 : σ.2.2 12 2 = some s) (h2 : isSa Z s = true) (h3 : Z.2.1 (s + 2000) = 6) (h4 : ∀ j, j < 6 → Z.2.2.1 (s + 2000) j = i32 (sp j)) (hi : i < 6) : f_X0_steepOf Z σ (i32 (i : Int)) = some (i32 (sp i)) := by
  have h5 := h4 i hi
  have e : f_X4_steepOf Z σ s (i32 (i : Int)) = some (i32 (sp i)) := by
    unfold f_X4_steepOf
    rw [h3, i32_nat]
    simp (disch := omega) only [↓reduceIte, iT_lt, iF_lt, iT_le, iF_le, iT_eq, iF_eq, nT_lt, nF_lt, nT_le, nF_le, nT_eq, nF_eq, and_self, and_true, true_and, and_false, false_and, not_true_eq_false, not_false_eq_true, ne_eq, or_self, or_false, false_or, or_true, true_or, Option.bind_some, i32_lit, i64_lit, i32_add, i32_sub, i32_mul, i32_neg, i64_add, i64_sub, i64_neg, i32_lt, i32_le, i32_eq, i64_lt, i64_le, i64_eq, i32_cn, i32_cl, i32_l, i64_i, i32_nat, Int.toNat_natCast, sI_2, sJ_1, sJ_22, sR_1, sR_21, sI_t, sI_r, sI_j, sJ_t, sJ_r, sJ_j, sR_t, sR_r, sR_j, h5]
  unfold f_X0_steepOf oc
  rw [h1]
  dsimp only
  rw [if_pos h2, if_pos h2, e, obs]
theorem p_lawWorth {Z : hZ} {σ : hSt} {s t F i : Nat} {N P lab : Int} {sp : Nat → Int} {cs : List (Int × List Int × List Int)} (hF : 1000 ≤ F) (hlab : 0 ≤ lab ∧ lab ≤ 255) (hi : i ≤ 6) (h : sitH Z σ s t N P sp cs) : ∃ σ', f_X0_lawWorth F Z σ (i32 lab) (i32 (i : Int)) = some (lwS (lawL i N P (spK N sp i)) lab cs, σ') ∧ fr [8, 13] σ σ' ∧ sitH Z σ' s t N P sp cs := by
  obtain ⟨a1, a2, a3, a4, a5, a6, a7, a8, a9, a10, a11, a12, a13, a14⟩ := h
  have c4 : ((4 : Int32)).toNatClampNeg = 4 := by decide
  have c6 : ((6 : Int32)).toNatClampNeg = 6 := by decide
  have c7 : ((7 : Int32)).toNatClampNeg = 7 := by decide
  have c9 : ((9 : Int32)).toNatClampNeg = 9 := by decide
  have d4 : ¬ ((4 : Int32) < 0 ∨ 10 ≤ 4) := by decide
  have d6 : ¬ ((6 : Int32) < 0 ∨ 10 ≤ 6) := by decide
  have d7 : ¬ ((7 : Int32) < 0 ∨ 10 ≤ 7) := by decide
  have d9 : ¬ ((9 : Int32) < 0 ∨ 10 ≤ 9) := by decide
  have fin : ∀ K : Int, ∃ σ', ((f_X3_labelWorth F Z (sJ (sJ (sJ (sJ σ 13 4 (i64 (i : Int))) 13 6 (i64 N)) 13 7 (i64 P)) 13 9 (i64 K)) t (i32 lab) 13).bind fun q10 => some (q10.1, q10.2)) = some (lwS (lawL i N P K) lab cs, σ') ∧ fr [8, 13] σ σ' ∧ sitH Z σ' s t N P sp cs := by
    intro K
    obtain ⟨τ, hτ⟩ : ∃ τ, τ = sJ (sJ (sJ (sJ σ 13 4 (i64 (i : Int))) 13 6 (i64 N)) 13 7 (i64 P)) 13 9 (i64 K) := ⟨_, rfl⟩
    have f0 : fr [8, 13] σ τ := by
      rw [hτ]
      refine fr_tr ?_ (fr_sJ _ _ (by rw [cd_a rfl]; decide))
      refine fr_tr ?_ (fr_sJ _ _ (by rw [cd_a rfl]; decide))
      refine fr_tr ?_ (fr_sJ _ _ (by rw [cd_a rfl]; decide))
      exact fr_sJ _ _ (by rw [cd_a rfl]; decide)
    have hL : ∀ j, j < 10 → τ.2.1 13 j = lawL i N P K j := by
      intro j hj
      unfold lawL
      rw [hτ]
      by_cases e4 : j = 4
      · subst e4; simp (disch := omega) only [↓reduceIte, iT_lt, iF_lt, iT_le, iF_le, iT_eq, iF_eq, nT_lt, nF_lt, nT_le, nF_le, nT_eq, nF_eq, and_self, and_true, true_and, and_false, false_and, not_true_eq_false, not_false_eq_true, ne_eq, or_self, or_false, false_or, or_true, true_or, Option.bind_some, i32_lit, i64_lit, i32_add, i32_sub, i32_mul, i32_neg, i64_add, i64_sub, i64_neg, i32_lt, i32_le, i32_eq, i64_lt, i64_le, i64_eq, i32_cn, i32_cl, i32_l, i64_i, i32_nat, Int.toNat_natCast, sI_2, sJ_1, sJ_22, sR_1, sR_21, sI_t, sI_r, sI_j, sJ_t, sJ_r, sJ_j, sR_t, sR_r, sR_j]
      · by_cases e6 : j = 6
        · subst e6; simp (disch := omega) only [↓reduceIte, iT_lt, iF_lt, iT_le, iF_le, iT_eq, iF_eq, nT_lt, nF_lt, nT_le, nF_le, nT_eq, nF_eq, and_self, and_true, true_and, and_false, false_and, not_true_eq_false, not_false_eq_true, ne_eq, or_self, or_false, false_or, or_true, true_or, Option.bind_some, i32_lit, i64_lit, i32_add, i32_sub, i32_mul, i32_neg, i64_add, i64_sub, i64_neg, i32_lt, i32_le, i32_eq, i64_lt, i64_le, i64_eq, i32_cn, i32_cl, i32_l, i64_i, i32_nat, Int.toNat_natCast, sI_2, sJ_1, sJ_22, sR_1, sR_21, sI_t, sI_r, sI_j, sJ_t, sJ_r, sJ_j, sR_t, sR_r, sR_j]
        · by_cases e7 : j = 7
          · subst e7; simp (disch := omega) only [↓reduceIte, iT_lt, iF_lt, iT_le, iF_le, iT_eq, iF_eq, nT_lt, nF_lt, nT_le, nF_le, nT_eq, nF_eq, and_self, and_true, true_and, and_false, false_and, not_true_eq_false, not_false_eq_true, ne_eq, or_self, or_false, false_or, or_true, true_or, Option.bind_some, i32_lit, i64_lit, i32_add, i32_sub, i32_mul, i32_neg, i64_add, i64_sub, i64_neg, i32_lt, i32_le, i32_eq, i64_lt, i64_le, i64_eq, i32_cn, i32_cl, i32_l, i64_i, i32_nat, Int.toNat_natCast, sI_2, sJ_1, sJ_22, sR_1, sR_21, sI_t, sI_r, sI_j, sJ_t, sJ_r, sJ_j, sR_t, sR_r, sR_j]
          · by_cases e9 : j = 9
            · subst e9; simp (disch := omega) only [↓reduceIte, iT_lt, iF_lt, iT_le, iF_le, iT_eq, iF_eq, nT_lt, nF_lt, nT_le, nF_le, nT_eq, nF_eq, and_self, and_true, true_and, and_false, false_and, not_true_eq_false, not_false_eq_true, ne_eq, or_self, or_false, false_or, or_true, true_or, Option.bind_some, i32_lit, i64_lit, i32_add, i32_sub, i32_mul, i32_neg, i64_add, i64_sub, i64_neg, i32_lt, i32_le, i32_eq, i64_lt, i64_le, i64_eq, i32_cn, i32_cl, i32_l, i64_i, i32_nat, Int.toNat_natCast, sI_2, sJ_1, sJ_22, sR_1, sR_21, sI_t, sI_r, sI_j, sJ_t, sJ_r, sJ_j, sR_t, sR_r, sR_j]
            · rw [if_neg e4, if_neg e6, if_neg e7, if_neg e9, sJ_j _ _ (by omega), sJ_j _ _ (by omega), sJ_j _ _ (by omega), sJ_j _ _ (by omega)]
              exact a14 j hj e4 e6 e7 e9
    obtain ⟨σ', e1, e2⟩ := p_labelWorth (Z := Z) (r := t) (r4 := 13) (lab := lab) hF rfl rfl (by decide) a12 hlab a13 rfl a11 τ hL
    have f1 : fr [8, 13] σ σ' := fr_tr f0 (fr_mono e2 (by decide))
    refine ⟨σ', ?_, f1, ?_⟩
    · rw [← hτ, e1, obs]
    · refine ⟨by rw [f1.2.2.1 12 2 (by decide)]; exact a1, a2, by rw [f1.2.2.1 12 3 (by decide)]; exact a3, a4, by rw [f1.1 12 4 (by decide)]; exact a5, a6, a7, a8, a9, a10, a11, a12, a13, fun j hj x4 x6 x7 x9 => ?_⟩
      rw [fr_J e2 13 rfl (by decide), hL j hj]
      unfold lawL
      rw [if_neg x4, if_neg x6, if_neg x7, if_neg x9]
  unfold f_X0_lawWorth oc
  rw [a3]
  dsimp only
  rw [if_pos a4]
  simp only [c4, c6, c7, c9]
  rw [if_neg d4, p_rounds (σ := sJ σ 13 4 (i32 (i : Int)).toInt64) a1 a2 a6, obs, if_neg d6, if_neg d7, p_rounds (σ := sJ (sJ (sJ σ 13 4 (i32 (i : Int)).toInt64) 13 6 (i32 N).toInt64) 13 7 (σ.1 12 4).toInt64) a1 a2 a6, obs, a5, i32_l (by omega), i32_l (by omega), i32_l (by omega)]
  by_cases c : N ≤ (i : Int)
  · have := fin 0
    rw [if_pos (show i32 N ≤ i32 (i : Int) by rw [i32_le (by omega)]; exact c), if_neg d9, if_pos a4]
    unfold spK
    rw [if_neg (by omega)]
    exact this
  · have hsp := a10 i (by omega)
    have := fin (sp i)
    rw [if_neg (show ¬ i32 N ≤ i32 (i : Int) by rw [i32_le (by omega)]; exact c), p_steepOf (sp := sp) (σ := sJ (sJ (sJ σ 13 4 (i64 (i : Int))) 13 6 (i64 N)) 13 7 (i64 P)) a1 a2 a9 (fun j hj => (a10 j hj).1) (by omega), obs, if_neg d9, if_pos a4, i32_l (by omega)]
    unfold spK
    rw [if_pos (by omega)]
    exact this
