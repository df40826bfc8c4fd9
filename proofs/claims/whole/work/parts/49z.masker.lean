/-! what a LAW asks: model -/
theorem p_noL_L : ∀ (k j N : Nat) (τ : hSt), j + k = 128 → k < N → (∀ i, i < j → τ.2.1 213 i = 0) → ∃ υ, f_X12_noLetters_L2 N τ (i32 (j : Int)) = some ((), υ) ∧ fr [213] τ υ ∧ ∀ i, i < 128 → υ.2.1 213 i = 0 := by
  intro k
  induction k with
  | zero =>
    intro j N τ hj hN h
    obtain ⟨N, rfl⟩ : ∃ q, N = q + 1 := ⟨N - 1, by omega⟩
    obtain rfl : j = 128 := by omega
    refine ⟨τ, ?_, fr_rf _ _, h⟩
    rw [f_X12_noLetters_L2]
    exact if_pos (by decide)
  | succ k ih =>
    intro j N τ hj hN h
    obtain ⟨N, rfl⟩ : ∃ q, N = q + 1 := ⟨N - 1, by omega⟩
    obtain ⟨υ, e1, e2, e3⟩ := ih (j + 1) N (sJ τ 213 j 0) (by omega) (by omega) (fun i hi => by
      by_cases e : i = j
      · rw [e, sJ_t _ _ ⟨rfl, rfl⟩]
      · rw [sJ_j _ _ (by omega)]; exact h i (by omega))
    refine ⟨υ, ?_, fr_tr (fr_sJ _ _ (by rw [cd_a rfl]; decide) (fun _ => ⟨by decide, by decide⟩)) e2, e3⟩
    rw [f_X12_noLetters_L2, if_neg (show ¬ (128 : Int32) ≤ i32 (j : Int) by rw [show (128 : Int32) = i32 128 from rfl, i32_le (by omega)]; omega), i32_cn (by omega), if_neg (show ¬ (i32 (j : Int) < (0 : Int32) ∨ 128 ≤ j) by rw [show (0 : Int32) = i32 0 from rfl, i32_lt (by omega)]; omega), ← e1]
    rw [show i32 (j : Int) + (1 : Int32) = i32 ((j + 1 : Nat) : Int) by rw [show (1 : Int32) = i32 1 from rfl, i32_add]; rfl]
theorem p_noLetters {F : Nat} {Z : hZ} {τ : hSt} (hF : 300 ≤ F) : ∃ υ, f_X12_noLetters F Z τ = some ((), υ) ∧ fr [213] τ υ ∧ ∀ i, i < 128 → υ.2.1 213 i = 0 :=
  p_noL_L 128 0 F τ rfl (by omega) (fun i hi => absurd hi (Nat.not_lt_zero i))
theorem ix1 {c : Nat} (hc : c ≤ 127) (h : 0 ≤ ixS 1 c) : (c = 105 ∧ (ixS 4 c).toNat = 4) ∨ (c = 110 ∧ (ixS 4 c).toNat = 6) ∨ (c = 112 ∧ (ixS 4 c).toNat = 7) ∨ (c = 107 ∧ (ixS 4 c).toNat = 9) := by
  have : ∀ c : Fin 128, 0 ≤ ixS 1 c.val → (c.val = 105 ∧ (ixS 4 c.val).toNat = 4) ∨ (c.val = 110 ∧ (ixS 4 c.val).toNat = 6) ∨ (c.val = 112 ∧ (ixS 4 c.val).toNat = 7) ∨ (c.val = 107 ∧ (ixS 4 c.val).toNat = 9) := by decide +kernel
  exact this ⟨c, by omega⟩ h
theorem p_mlawWorth {B : Nat → Nat} {n k s F i : Nat} {N P lab : Int} {sp : Nat → Int} {Z : hZ} {τ : hSt} (hF : 300 ≤ F) (hlab : 0 ≤ lab ∧ lab ≤ 255) (hi : i ≤ 6) (hs : s ≤ 20) (hk : kpM B n k τ) (hx : txF B n 0 = none) (hN : 0 ≤ N ∧ N ≤ 6) (hP : 0 ≤ P ∧ P ≤ 1000000007) (h1 : τ.1 204 s = i32 N) (h2 : ∀ j, j < 6 → τ.1 205 (6 * s + j) = i32 (sp j) ∧ 0 ≤ sp j ∧ sp j ≤ 200) : ∃ υ, f_X12_lawWorth F Z τ (i32 (k : Int)) (i32 (s : Int)) (i32 P) (i32 (i : Int)) (i32 lab) = some (lwS (lawL i N P (spK N sp i)) lab (tZc B n 0), υ) ∧ fr (213 :: WG) τ υ := by
  obtain ⟨τ1, e1, e2, e3⟩ := p_noLetters (F := F) (Z := Z) (τ := τ) hF
  have c105 : ((105 : Int32)).toNatClampNeg = 105 := by decide
  have c110 : ((110 : Int32)).toNatClampNeg = 110 := by decide
  have c112 : ((112 : Int32)).toNatClampNeg = 112 := by decide
  have c107 : ((107 : Int32)).toNatClampNeg = 107 := by decide
  have d105 : ¬ ((105 : Int32) < 0 ∨ 128 ≤ 105) := by decide
  have d110 : ¬ ((110 : Int32) < 0 ∨ 128 ≤ 110) := by decide
  have d112 : ¬ ((112 : Int32) < 0 ∨ 128 ≤ 112) := by decide
  have d107 : ¬ ((107 : Int32) < 0 ∨ 128 ≤ 107) := by decide
  have ds : ¬ (i32 (s : Int) < (0 : Int32) ∨ 21 ≤ s) := by rw [show (0 : Int32) = i32 0 from rfl, i32_lt (by omega)]; omega
  have h1' : τ1.1 204 s = i32 N := by rw [e2.1 204 s (by rw [cd_a rfl]; decide)]; exact h1
  have fin : ∀ K : Int, (0 ≤ K ∧ K ≤ 200) → ∃ υ, ((f_X12_worthOf F Z (sJ (sJ (sJ (sJ τ1 213 105 (i64 (i : Int))) 213 110 (i64 N)) 213 112 (i64 P)) 213 107 (i64 K)) (i32 (k : Int)) (0 : Int32) (i32 lab)).bind fun q9 => some (q9.1, q9.2)) = some (lwS (lawL i N P K) lab (tZc B n 0), υ) ∧ fr (213 :: WG) τ υ := by
    intro K hK
    obtain ⟨τ2, h0⟩ : ∃ τ2, τ2 = sJ (sJ (sJ (sJ τ1 213 105 (i64 (i : Int))) 213 110 (i64 N)) 213 112 (i64 P)) 213 107 (i64 K) := ⟨_, rfl⟩
    have f0 : fr [213] τ τ2 := by
      rw [h0]
      refine fr_tr ?_ (fr_sJ _ _ (by rw [cd_a rfl]; decide) (fun _ => bd_i (by omega)))
      refine fr_tr ?_ (fr_sJ _ _ (by rw [cd_a rfl]; decide) (fun _ => bd_i (by omega)))
      refine fr_tr ?_ (fr_sJ _ _ (by rw [cd_a rfl]; decide) (fun _ => bd_i (by omega)))
      refine fr_tr ?_ (fr_sJ _ _ (by rw [cd_a rfl]; decide) (fun _ => bd_i (by omega)))
      exact e2
    have hl : ltM 0 (lawL i N P K) τ2 := by
      intro c hc hi2
      rw [h0]
      rcases ix1 hc hi2 with ⟨rfl, q⟩ | ⟨rfl, q⟩ | ⟨rfl, q⟩ | ⟨rfl, q⟩
      · rw [q]
        refine ⟨?_, bd_i (v := (i : Int)) (by omega)⟩
        simp (disch := omega) only [↓reduceIte, iT_lt, iF_lt, iT_le, iF_le, iT_eq, iF_eq, nT_lt, nF_lt, nT_le, nF_le, nT_eq, nF_eq, and_self, and_true, true_and, and_false, false_and, not_true_eq_false, not_false_eq_true, ne_eq, or_self, or_false, false_or, or_true, true_or, Option.bind_some, i32_lit, i64_lit, i32_add, i32_sub, i32_mul, i32_neg, i64_add, i64_sub, i64_neg, i32_lt, i32_le, i32_eq, i64_lt, i64_le, i64_eq, i32_cn, i32_cl, i32_l, i64_i, i32_nat, Int.toNat_natCast, sI_2, sJ_1, sJ_22, sR_1, sR_21, sI_t, sI_r, sI_j, sJ_t, sJ_r, sJ_j, sR_t, sR_r, sR_j]
        rfl
      · rw [q]
        refine ⟨?_, bd_i (v := N) (by omega)⟩
        simp (disch := omega) only [↓reduceIte, iT_lt, iF_lt, iT_le, iF_le, iT_eq, iF_eq, nT_lt, nF_lt, nT_le, nF_le, nT_eq, nF_eq, and_self, and_true, true_and, and_false, false_and, not_true_eq_false, not_false_eq_true, ne_eq, or_self, or_false, false_or, or_true, true_or, Option.bind_some, i32_lit, i64_lit, i32_add, i32_sub, i32_mul, i32_neg, i64_add, i64_sub, i64_neg, i32_lt, i32_le, i32_eq, i64_lt, i64_le, i64_eq, i32_cn, i32_cl, i32_l, i64_i, i32_nat, Int.toNat_natCast, sI_2, sJ_1, sJ_22, sR_1, sR_21, sI_t, sI_r, sI_j, sJ_t, sJ_r, sJ_j, sR_t, sR_r, sR_j]
        rfl
      · rw [q]
        refine ⟨?_, bd_i (v := P) (by omega)⟩
        simp (disch := omega) only [↓reduceIte, iT_lt, iF_lt, iT_le, iF_le, iT_eq, iF_eq, nT_lt, nF_lt, nT_le, nF_le, nT_eq, nF_eq, and_self, and_true, true_and, and_false, false_and, not_true_eq_false, not_false_eq_true, ne_eq, or_self, or_false, false_or, or_true, true_or, Option.bind_some, i32_lit, i64_lit, i32_add, i32_sub, i32_mul, i32_neg, i64_add, i64_sub, i64_neg, i32_lt, i32_le, i32_eq, i64_lt, i64_le, i64_eq, i32_cn, i32_cl, i32_l, i64_i, i32_nat, Int.toNat_natCast, sI_2, sJ_1, sJ_22, sR_1, sR_21, sI_t, sI_r, sI_j, sJ_t, sJ_r, sJ_j, sR_t, sR_r, sR_j]
        rfl
      · rw [q]
        refine ⟨?_, bd_i (v := K) (by omega)⟩
        simp (disch := omega) only [↓reduceIte, iT_lt, iF_lt, iT_le, iF_le, iT_eq, iF_eq, nT_lt, nF_lt, nT_le, nF_le, nT_eq, nF_eq, and_self, and_true, true_and, and_false, false_and, not_true_eq_false, not_false_eq_true, ne_eq, or_self, or_false, false_or, or_true, true_or, Option.bind_some, i32_lit, i64_lit, i32_add, i32_sub, i32_mul, i32_neg, i64_add, i64_sub, i64_neg, i32_lt, i32_le, i32_eq, i64_lt, i64_le, i64_eq, i32_cn, i32_cl, i32_l, i64_i, i32_nat, Int.toNat_natCast, sI_2, sJ_1, sJ_22, sR_1, sR_21, sI_t, sI_r, sI_j, sJ_t, sJ_r, sJ_j, sR_t, sR_r, sR_j]
        rfl
    have hk2 : kpM B n k τ2 := by
      obtain ⟨k1, k2, k3, k4⟩ := hk
      refine ⟨k1, k2, by rw [f0.1 212 k (by rw [cd_a rfl]; decide)]; exact k3, fun j hj => ?_⟩
      rw [f0.1 211 _ (by rw [cd_a rfl]; decide)]
      exact k4 j hj
    obtain ⟨υ, u1, u2⟩ := p_mworthOf (Z := Z) (g := 0) hF (by omega) hlab hk2 hl hx
    refine ⟨υ, ?_, fr_tr (fr_mono f0 (by decide)) (fr_mono u2 (by decide))⟩
    rw [← h0, show f_X12_worthOf F Z τ2 (i32 (k : Int)) 0 (i32 lab) = _ from u1, obs]
  unfold f_X12_lawWorth
  rw [e1, obs]
  dsimp only
  simp only [c105, c110, c112, c107, i32_cn (show s ≤ 2147483647 by omega)]
  rw [if_neg d105, if_neg ds, if_neg d110, if_neg d112, if_neg ds, h1', i32_l (by omega), i32_l (by omega), i32_l (by omega)]
  by_cases c : N ≤ (i : Int)
  · rw [if_pos (show i32 N ≤ i32 (i : Int) by rw [i32_le (by omega)]; exact c), if_neg d107]
    unfold spK
    rw [if_neg (by omega)]
    exact fin 0 (by omega)
  · obtain ⟨q1, q2⟩ := h2 i (by omega)
    have q1' : τ1.1 205 (6 * s + i) = i32 (sp i) := by rw [e2.1 205 _ (by rw [cd_a rfl]; decide)]; exact q1
    have e6 : (6 : Int32) * i32 (s : Int) + i32 (i : Int) = i32 ((6 * s + i : Nat) : Int) := by rw [show (6 : Int32) = i32 6 from rfl, i32_mul, i32_add]; congr 1
    have d6 : ¬ (i32 ((6 * s + i : Nat) : Int) < (0 : Int32) ∨ 126 ≤ 6 * s + i) := by rw [show (0 : Int32) = i32 0 from rfl, i32_lt (by omega)]; omega
    rw [if_neg (show ¬ i32 N ≤ i32 (i : Int) by rw [i32_le (by omega)]; exact c), e6, i32_cn (by omega), if_neg d6, if_neg d107, q1', i32_l (by omega)]
    unfold spK
    rw [if_pos (by omega)]
    exact fin (sp i) q2
