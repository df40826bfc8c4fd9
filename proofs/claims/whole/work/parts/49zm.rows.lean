/-! all draws, at most 2000 -/
def apI (N P : Int) (sp : Nat → Int) (cs : Cls) : Nat → Nat → Int → Int
  | 0, _, z => z
  | k + 1, i, z => if z * dcI N P sp cs i ≤ 2000 then apI N P sp cs k (i + 1) (z * dcI N P sp cs i) else -1
theorem p_rowsL {Z : hZ} {s t F nn : Nat} {P : Int} {sp : Nat → Int} {cs : Cls} (hF : 1000 ≤ F) (hP : 1 ≤ P) : ∀ (k i M : Nat) (σ : hSt) (z : Int), i + k = nn → k < M → 1 ≤ z → z ≤ 2000 → sitH Z σ s t (nn : Int) P sp cs → ∃ σ', fr [8, 13] σ σ' ∧ sitH Z σ' s t (nn : Int) P sp cs ∧ f_X0_allRows_L4 F Z M σ (i64 z) (i32 (i : Int)) = some (i32 (apI nn P sp cs k i z), σ') ∧ (apI nn P sp cs k i z = -1 ∨ 1 ≤ apI nn P sp cs k i z ∧ apI nn P sp cs k i z ≤ 2000) := by
  intro k
  induction k with
  | zero =>
    intro i M σ z hi hM h3 h4 h
    obtain ⟨M, rfl⟩ : ∃ q, M = q + 1 := ⟨M - 1, by omega⟩
    have hN := h.2.2.2.2.2.2.1
    refine ⟨σ, fr_rf _ _, h, ?_, ?_⟩
    · rw [f_X0_allRows_L4, p_rounds h.1 h.2.1 h.2.2.2.2.2.1, obs, if_pos (show i32 (nn : Int) ≤ i32 (i : Int) by rw [i32_le (by omega)]; omega), apI, i64_i]
    · rw [apI]; omega
  | succ k ih =>
    intro i M σ z hi hM h3 h4 h
    obtain ⟨M, rfl⟩ : ∃ q, M = q + 1 := ⟨M - 1, by omega⟩
    have hN := h.2.2.2.2.2.2.1
    have hP2 := h.2.2.2.2.2.2.2.1
    have hd := dcI_rg (N := nn) (sp := sp) (cs := cs) (i := i) hP
    obtain ⟨σ1, e1, e2, e3⟩ := p_dice (i := i) hF (by omega) hP h
    have hz := mul_le_of (z := z) (w := 2000) (e := dcI nn P sp cs i) (d := 1000000007) (by omega) (by omega)
    rw [f_X0_allRows_L4, p_rounds h.1 h.2.1 h.2.2.2.2.2.1, obs, if_neg (show ¬ i32 (nn : Int) ≤ i32 (i : Int) by rw [i32_le (by omega)]; omega), e1, obs, apI]
    dsimp only
    rw [i32_l (by omega), i64_mul]
    by_cases d : z * dcI nn P sp cs i ≤ 2000
    · have hz1 : 1 ≤ z * dcI nn P sp cs i := by
        have := Int.mul_le_mul (show (1 : Int) ≤ z from h3) hd.1 (by omega) (by omega)
        omega
      obtain ⟨σ2, w1, w2, w3, w4⟩ := ih (i + 1) M σ1 (z * dcI nn P sp cs i) (by omega) (by omega) hz1 d e3
      rw [if_pos (show i64 (z * dcI nn P sp cs i) ≤ (2000 : Int64) by rw [show (2000 : Int64) = i64 2000 from rfl, i64_le (by omega)]; exact d), if_pos d, show i32 (i : Int) + (1 : Int32) = i32 ((i + 1 : Nat) : Int) by rw [show (1 : Int32) = i32 1 from rfl, i32_add]; rfl]
      exact ⟨σ2, fr_tr e2 w1, w2, w3, w4⟩
    · rw [if_neg (show ¬ i64 (z * dcI nn P sp cs i) ≤ (2000 : Int64) by rw [show (2000 : Int64) = i64 2000 from rfl, i64_le (by omega)]; exact d), if_neg d]
      exact ⟨σ1, e2, e3, rfl, Or.inl rfl⟩
theorem p_mrowsL {B : Nat → Nat} {n k0 s F nn x : Nat} {P : Int} {y2 y3 : Int32} {sp : Nat → Int} {Z : hZ} {K : hSt → Int64 → Option (Int32 × hSt)} (hF : 300 ≤ F) (hP : 1 ≤ P) (hx : x < 12) : ∀ (k i M : Nat) (τ : hSt) (z : Int), i + k = nn → k < M → 1 ≤ z → z ≤ 2000 → sitM B n k0 s (nn : Int) P sp τ → τ.1 216 x = i32 (k0 : Int) → τ.1 215 x = i32 P → ∃ υ z', fr (213 :: WG) τ υ ∧ sitM B n k0 s (nn : Int) P sp υ ∧ f_X12_odds_L35 F Z (i32 (x : Int)) y2 y3 (i32 (s : Int)) K M τ (i64 z) (i32 (i : Int)) = K υ (i64 z') ∧ (apI nn P sp (tZc B n 0) k i z = -1 ∧ 2000 < z' ∧ z' ≤ 10000000000000 ∨ apI nn P sp (tZc B n 0) k i z = z' ∧ 1 ≤ z' ∧ z' ≤ 2000) := by
  intro k
  induction k with
  | zero =>
    intro i M τ z hi hM h1 h2 h c1 c2
    obtain ⟨M, rfl⟩ : ∃ q, M = q + 1 := ⟨M - 1, by omega⟩
    have hN := h.2.2.2.1
    have hs := h.2.2.1
    refine ⟨τ, z, fr_rf _ _, h, ?_, Or.inr ⟨by rw [apI], h1, h2⟩⟩
    rw [f_X12_odds_L35, i32_cn (by omega), if_neg (show ¬ (i32 (s : Int) < (0 : Int32) ∨ 21 ≤ s) by rw [show (0 : Int32) = i32 0 from rfl, i32_lt (by omega)]; omega), h.2.2.2.2.2.1, if_pos (show i32 (nn : Int) ≤ i32 (i : Int) by rw [i32_le (by omega)]; omega)]
  | succ k ih =>
    intro i M τ z hi hM h1 h2 h c1 c2
    obtain ⟨M, rfl⟩ : ∃ q, M = q + 1 := ⟨M - 1, by omega⟩
    have hN := h.2.2.2.1
    have hs := h.2.2.1
    have hP2 := h.2.2.2.2.1
    have hd := dcI_rg (N := nn) (sp := sp) (cs := tZc B n 0) (i := i) hP
    obtain ⟨υ1, e1, e2, e3⟩ := p_mdraws (Z := Z) (i := i) hF (by omega) hP h
    have hz := mul_le_of (z := z) (w := 2000) (e := dcI nn P sp (tZc B n 0) i) (d := 1000000007) (by omega) (by omega)
    have hb : ¬ (i32 (x : Int) < (0 : Int32) ∨ 12 ≤ x) := by rw [show (0 : Int32) = i32 0 from rfl, i32_lt (by omega)]; omega
    have hst : f_X12_odds_L35 F Z (i32 (x : Int)) y2 y3 (i32 (s : Int)) K (M + 1) τ (i64 z) (i32 (i : Int)) = f_X12_odds_L35 F Z (i32 (x : Int)) y2 y3 (i32 (s : Int)) K M υ1 (i64 (z * dcI nn P sp (tZc B n 0) i)) (i32 ((i + 1 : Nat) : Int)) := by
      rw [f_X12_odds_L35, i32_cn (by omega), if_neg (show ¬ (i32 (s : Int) < (0 : Int32) ∨ 21 ≤ s) by rw [show (0 : Int32) = i32 0 from rfl, i32_lt (by omega)]; omega), h.2.2.2.2.2.1, if_neg (show ¬ i32 (nn : Int) ≤ i32 (i : Int) by rw [i32_le (by omega)]; omega), if_neg (show ¬ (2000 : Int64) < i64 z by rw [show (2000 : Int64) = i64 2000 from rfl, i64_lt (by omega)]; omega), i32_cn (by omega), if_neg hb, if_neg hb, c1, c2, e1, obs]
      dsimp only
      rw [i32_l (by omega), i64_mul, show i32 (i : Int) + (1 : Int32) = i32 ((i + 1 : Nat) : Int) by rw [show (1 : Int32) = i32 1 from rfl, i32_add]; rfl]
    rw [hst, apI]
    by_cases d : z * dcI nn P sp (tZc B n 0) i ≤ 2000
    · have hz1 : 1 ≤ z * dcI nn P sp (tZc B n 0) i := by
        have := Int.mul_le_mul (show (1 : Int) ≤ z from h1) hd.1 (by omega) (by omega)
        omega
      obtain ⟨υ2, z', w1, w2, w3, w4⟩ := ih (i + 1) M υ1 (z * dcI nn P sp (tZc B n 0) i) (by omega) (by omega) hz1 d e3 ((e2.1 216 x (by rw [cd_a rfl]; decide)).trans c1) ((e2.1 215 x (by rw [cd_a rfl]; decide)).trans c2)
      rw [if_pos d]
      exact ⟨υ2, z', fr_tr e2 w1, w2, w3, w4⟩
    · refine ⟨υ1, z * dcI nn P sp (tZc B n 0) i, e2, e3, ?_, Or.inl ⟨if_neg d, by omega, by omega⟩⟩
      obtain ⟨M, rfl⟩ : ∃ q, M = q + 1 := ⟨M - 1, by omega⟩
      rw [f_X12_odds_L35, i32_cn (by omega), if_neg (show ¬ (i32 (s : Int) < (0 : Int32) ∨ 21 ≤ s) by rw [show (0 : Int32) = i32 0 from rfl, i32_lt (by omega)]; omega), e3.2.2.2.2.2.1]
      by_cases c : i32 (nn : Int) ≤ i32 ((i + 1 : Nat) : Int)
      · rw [if_pos c]
      · rw [if_neg c, if_pos (show (2000 : Int64) < i64 (z * dcI nn P sp (tZc B n 0) i) by rw [show (2000 : Int64) = i64 2000 from rfl, i64_lt (by omega)]; omega)]
/-! the smallest prime at which the best liar's odds are at most one in so many -/
def sitB (Z : hZ) (σ : hSt) (s t : Nat) (N : Int) (sp : Nat → Int) (cs : Cls) : Prop := isSa Z s = true ∧ isTe Z t = true ∧ Z.2.2.1 s 2 = i32 N ∧ (0 ≤ N ∧ N ≤ 6) ∧ Z.2.1 (s + 2000) = 6 ∧ (∀ j, j < 6 → Z.2.2.1 (s + 2000) j = i32 (sp j) ∧ 0 ≤ sp j ∧ sp j ≤ 200) ∧ cdZ Z (t + 2000) (flat cs) ∧ (flat cs).length ≤ 800 ∧ (∀ c ∈ cs, clO c) ∧ ∀ j, j < 10 → j ≠ 4 → j ≠ 6 → j ≠ 7 → j ≠ 9 → σ.2.1 13 j = 0
theorem sitB_of {Z : hZ} {σ : hSt} {s t : Nat} {N P : Int} {sp : Nat → Int} {cs : Cls} (h : sitH Z σ s t N P sp cs) : sitB Z σ s t N sp cs := by
  obtain ⟨a1, a2, a3, a4, a5, a6, a7, a8, a9, a10, a11, a12, a13, a14⟩ := h
  exact ⟨a2, a4, a6, a7, a9, a10, a11, a12, a13, a14⟩
def WA : List Nat := [8, 13, 11202, 11203, 11204, 11205, 11206]
theorem p_sit {Z : hZ} {σ : hSt} {s t : Nat} {N P : Int} {sp : Nat → Int} {cs : Cls} (h : sitB Z σ s t N sp cs) (hP : 0 ≤ P ∧ P ≤ 1000000007) : ∃ σ', f_X0_sit Z σ s t (i32 P) = some ((), σ') ∧ fr WA σ σ' ∧ sitH Z σ' s t N P sp cs := by
  obtain ⟨a2, a4, a6, a7, a9, a10, a11, a12, a13, a14⟩ := h
  refine ⟨_, rfl, fr_tr (fr_sR _ _ (by decide)) (fr_tr (fr_sR _ _ (by decide)) (fr_sI _ _ (by decide))), ?_, a2, ?_, a4, ?_, a6, a7, hP, a9, a10, a11, a12, a13, fun j hj x4 x6 x7 x9 => ?_⟩
  · simp (disch := omega) only [↓reduceIte, iT_lt, iF_lt, iT_le, iF_le, iT_eq, iF_eq, nT_lt, nF_lt, nT_le, nF_le, nT_eq, nF_eq, and_self, and_true, true_and, and_false, false_and, not_true_eq_false, not_false_eq_true, ne_eq, or_self, or_false, false_or, or_true, true_or, Option.bind_some, i32_lit, i64_lit, i32_add, i32_sub, i32_mul, i32_neg, i64_add, i64_sub, i64_neg, i32_lt, i32_le, i32_eq, i64_lt, i64_le, i64_eq, i32_cn, i32_cl, i32_l, i64_i, i32_nat, Int.toNat_natCast, sI_2, sJ_1, sJ_22, sR_1, sR_21, sI_t, sI_r, sI_j, sJ_t, sJ_r, sJ_j, sR_t, sR_r, sR_j]
  · simp (disch := omega) only [↓reduceIte, iT_lt, iF_lt, iT_le, iF_le, iT_eq, iF_eq, nT_lt, nF_lt, nT_le, nF_le, nT_eq, nF_eq, and_self, and_true, true_and, and_false, false_and, not_true_eq_false, not_false_eq_true, ne_eq, or_self, or_false, false_or, or_true, true_or, Option.bind_some, i32_lit, i64_lit, i32_add, i32_sub, i32_mul, i32_neg, i64_add, i64_sub, i64_neg, i32_lt, i32_le, i32_eq, i64_lt, i64_le, i64_eq, i32_cn, i32_cl, i32_l, i64_i, i32_nat, Int.toNat_natCast, sI_2, sJ_1, sJ_22, sR_1, sR_21, sI_t, sI_r, sI_j, sJ_t, sJ_r, sJ_j, sR_t, sR_r, sR_j]
  · simp (disch := omega) only [↓reduceIte, iT_lt, iF_lt, iT_le, iF_le, iT_eq, iF_eq, nT_lt, nF_lt, nT_le, nF_le, nT_eq, nF_eq, and_self, and_true, true_and, and_false, false_and, not_true_eq_false, not_false_eq_true, ne_eq, or_self, or_false, false_or, or_true, true_or, Option.bind_some, i32_lit, i64_lit, i32_add, i32_sub, i32_mul, i32_neg, i64_add, i64_sub, i64_neg, i32_lt, i32_le, i32_eq, i64_lt, i64_le, i64_eq, i32_cn, i32_cl, i32_l, i64_i, i32_nat, Int.toNat_natCast, sI_2, sJ_1, sJ_22, sR_1, sR_21, sI_t, sI_r, sI_j, sJ_t, sJ_r, sJ_j, sR_t, sR_r, sR_j]
  · simp (disch := omega) only [↓reduceIte, iT_lt, iF_lt, iT_le, iF_le, iT_eq, iF_eq, nT_lt, nF_lt, nT_le, nF_le, nT_eq, nF_eq, and_self, and_true, true_and, and_false, false_and, not_true_eq_false, not_false_eq_true, ne_eq, or_self, or_false, false_or, or_true, true_or, Option.bind_some, i32_lit, i64_lit, i32_add, i32_sub, i32_mul, i32_neg, i64_add, i64_sub, i64_neg, i32_lt, i32_le, i32_eq, i64_lt, i64_le, i64_eq, i32_cn, i32_cl, i32_l, i64_i, i32_nat, Int.toNat_natCast, sI_2, sJ_1, sJ_22, sR_1, sR_21, sI_t, sI_r, sI_j, sJ_t, sJ_r, sJ_j, sR_t, sR_r, sR_j]
    exact a14 j hj x4 x6 x7 x9
