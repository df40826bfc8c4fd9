/-! reading: blanks, the next byte, rows of things with signs between -/
def skp (B : Nat → Nat) (n : Nat) : Nat → Nat → Nat
  | 0, p => p
  | f + 1, p => if p < n ∧ B p = 32 then skp B n f (p + 1) else p
def sk (B : Nat → Nat) (n p : Nat) : Nat := skp B n (n - p) p
def pk (B : Nat → Nat) (n p : Nat) : Nat := if p < n then B p else 0
theorem skp_rg (B : Nat → Nat) (n : Nat) : ∀ f p, p ≤ n → p ≤ skp B n f p ∧ skp B n f p ≤ n
  | 0, p, h => ⟨Nat.le_refl _, h⟩
  | f + 1, p, h => by
    rw [skp]
    split
    · have := skp_rg B n f (p + 1) (by omega)
      omega
    · omega
theorem sk_rg {B : Nat → Nat} {n p : Nat} (h : p ≤ n) : p ≤ sk B n p ∧ sk B n p ≤ n := skp_rg B n _ p h
theorem skp_end (B : Nat → Nat) (n : Nat) : ∀ f p, n ≤ p + f → ¬ (skp B n f p < n ∧ B (skp B n f p) = 32)
  | 0, p, h => by rw [skp]; omega
  | f + 1, p, h => by
    rw [skp]
    split
    · exact skp_end B n f (p + 1) (by omega)
    · assumption
theorem sk_end (B : Nat → Nat) (n p : Nat) : ¬ (sk B n p < n ∧ B (sk B n p) = 32) := skp_end B n _ p (by omega)
theorem sk_step {B : Nat → Nat} {n p : Nat} (h : p < n) (hb : B p = 32) : sk B n p = sk B n (p + 1) := by
  unfold sk
  rw [show n - p = (n - (p + 1)) + 1 by omega, skp, if_pos ⟨h, hb⟩]
theorem sk_stop {B : Nat → Nat} {n p : Nat} (h : ¬ (p < n ∧ B p = 32)) : sk B n p = p := by
  unfold sk
  cases n - p with
  | zero => rfl
  | succ f => rw [skp, if_neg h]
theorem sk_sk (B : Nat → Nat) (n p : Nat) : sk B n (sk B n p) = sk B n p := sk_stop (sk_end B n p)
theorem sk_n (B : Nat → Nat) (n : Nat) : sk B n n = n := sk_stop (by omega)
abbrev PR : Type := Bool × Nat × List Int
def chL (B : Nat → Nat) (n : Nat) (ops : Nat → Bool) (em : Nat → Int) (it : Nat → PR) : Nat → Nat → List Int → PR
  | 0, p, acc => (true, p, acc)
  | k + 1, p, acc => if ops (pk B n (sk B n p)) = true then (if (it (sk B n p + 1)).1 = true then chL B n ops em it k (it (sk B n p + 1)).2.1 (acc ++ ((it (sk B n p + 1)).2.2 ++ [em (pk B n (sk B n p))])) else (false, (it (sk B n p + 1)).2.1, [])) else (true, sk B n p, acc)
def chn (B : Nat → Nat) (n : Nat) (ops : Nat → Bool) (em : Nat → Int) (it : Nat → PR) (p : Nat) : PR := if (it p).1 = true then chL B n ops em it 200 (it p).2.1 (it p).2.2 else (false, (it p).2.1, [])
/-- what a reader's answer keeps to -/
def PG (n : Nat) (it : Nat → PR) : Prop := ∀ p, p ≤ n → (it p).2.1 ≤ n ∧ ((it p).1 = true → p < (it p).2.1 ∧ (it p).2.2.length + p ≤ (it p).2.1)
theorem chL_PG {B : Nat → Nat} {n : Nat} {ops : Nat → Bool} {em : Nat → Int} {it : Nat → PR} (h0 : ops 0 = false) (h : PG n it) : ∀ k p acc, p ≤ n → (chL B n ops em it k p acc).2.1 ≤ n ∧ ((chL B n ops em it k p acc).1 = true → p ≤ (chL B n ops em it k p acc).2.1 ∧ (chL B n ops em it k p acc).2.2.length + p ≤ acc.length + (chL B n ops em it k p acc).2.1)
  | 0, p, acc, hp => ⟨hp, fun _ => ⟨Nat.le_refl _, Nat.le_refl _⟩⟩
  | k + 1, p, acc, hp => by
    have hs := sk_rg (B := B) hp
    rw [chL]
    by_cases c : ops (pk B n (sk B n p)) = true
    · have hlt : sk B n p < n := by
        rcases Nat.lt_or_ge (sk B n p) n with q | q
        · exact q
        · exfalso
          unfold pk at c
          rw [if_neg (by omega), h0] at c
          cases c
      obtain ⟨i1, i2⟩ := h (sk B n p + 1) (by omega)
      rw [if_pos c]
      by_cases d : (it (sk B n p + 1)).1 = true
      · obtain ⟨j1, j2⟩ := i2 d
        obtain ⟨k1, k2⟩ := chL_PG (B := B) (em := em) h0 h k (it (sk B n p + 1)).2.1 (acc ++ ((it (sk B n p + 1)).2.2 ++ [em (pk B n (sk B n p))])) i1
        rw [if_pos d]
        refine ⟨k1, fun e => ?_⟩
        obtain ⟨m1, m2⟩ := k2 e
        simp only [List.length_append, List.length_cons, List.length_nil] at m2
        omega
      · rw [if_neg d]
        exact ⟨i1, fun e => by cases e⟩
    · rw [if_neg c]
      exact ⟨hs.2, fun _ => ⟨hs.1, by simp only; omega⟩⟩
theorem chn_PG {B : Nat → Nat} {n : Nat} {ops : Nat → Bool} {em : Nat → Int} {it : Nat → PR} (h0 : ops 0 = false) (h : PG n it) : PG n (chn B n ops em it) := by
  intro p hp
  obtain ⟨i1, i2⟩ := h p hp
  unfold chn
  by_cases d : (it p).1 = true
  · rw [if_pos d]
    obtain ⟨j1, j2⟩ := i2 d
    obtain ⟨k1, k2⟩ := chL_PG (B := B) (em := em) h0 h 200 (it p).2.1 (it p).2.2 i1
    refine ⟨k1, fun e => ?_⟩
    obtain ⟨m1, m2⟩ := k2 e
    omega
  · rw [if_neg d]
    exact ⟨i1, fun e => by cases e⟩
/-! the class's tape -/
def okH (B : Nat → Nat) (n : Nat) (σ : hSt) (p w : Nat) : Prop := n ≤ 200 ∧ p ≤ n ∧ w ≤ 2 * p ∧ σ.1 1 2 = i32 (n : Int) ∧ (∀ j, j < n → σ.1 2 j = i32 (B j : Int) ∧ 1 ≤ B j ∧ B j ≤ 255) ∧ σ.1 1 3 = i32 (p : Int) ∧ σ.1 1 5 = i32 (w : Int)
def WT : List Nat := [3, 10103, 10104, 10105]
theorem sI_sI (σ : hSt) (r j : Nat) (v w : Int32) : sI (sI σ r j v) r j w = sI σ r j w := by
  refine Prod.ext ?_ rfl
  funext r2 j2
  by_cases e1 : r2 = r
  · by_cases e2 : j2 = j
    · rw [sI_t _ _ ⟨e1, e2⟩, sI_t _ _ ⟨e1, e2⟩]
    · rw [e1, sI_j _ _ (by omega), sI_j _ _ (by omega), sI_j _ _ (by omega)]
  · rw [sI_r _ _ (by omega), sI_r _ _ (by omega), sI_r _ _ (by omega)]
theorem sI_id {σ : hSt} {r j : Nat} {v : Int32} (h : σ.1 r j = v) : sI σ r j v = σ := by
  refine Prod.ext ?_ rfl
  funext r2 j2
  by_cases e1 : r2 = r
  · by_cases e2 : j2 = j
    · rw [sI_t _ _ ⟨e1, e2⟩, e1, e2, h]
    · rw [e1, sI_j _ _ (by omega)]
  · rw [sI_r _ _ (by omega)]
theorem p_next_L {B : Nat → Nat} {n : Nat} {σ : hSt} (hn : n ≤ 200) (h1 : σ.1 1 2 = i32 (n : Int)) (hb : ∀ j, j < n → σ.1 2 j = i32 (B j : Int) ∧ 1 ≤ B j ∧ B j ≤ 255) : ∀ (k p N : Nat), p + k = n → k < N → f_X8_next_L9 σ N (i32 (p : Int)) = some (i32 (pk B n (sk B n p) : Int), sI σ 1 3 (i32 (sk B n p : Int))) := by
  intro k
  induction k with
  | zero =>
    intro p N hp hN
    obtain ⟨N, rfl⟩ : ∃ q, N = q + 1 := ⟨N - 1, by omega⟩
    obtain rfl : p = n := by omega
    have hz : pk B p p = 0 := by unfold pk; rw [if_neg (by omega)]
    rw [f_X8_next_L9, sk_n, hz, if_pos (by rw [h1]; exact Int32.le_refl _), h1]
    rfl
  | succ k ih =>
    intro p N hp hN
    obtain ⟨N, rfl⟩ : ∃ q, N = q + 1 := ⟨N - 1, by omega⟩
    obtain ⟨b1, b2, b3⟩ := hb p (by omega)
    have i := ih (p + 1) N (by omega) (by omega)
    rw [f_X8_next_L9]
    by_cases c : B p = 32
    · rw [sk_step (by omega) c, ← i]
      simp (disch := omega) only [↓reduceIte, iT_lt, iF_lt, iT_le, iF_le, iT_eq, iF_eq, nT_lt, nF_lt, nT_le, nF_le, nT_eq, nF_eq, and_self, and_true, true_and, and_false, false_and, not_true_eq_false, not_false_eq_true, ne_eq, or_self, or_false, false_or, or_true, true_or, Option.bind_some, i32_lit, i64_lit, i32_add, i32_sub, i32_mul, i32_neg, i64_add, i64_sub, i64_neg, i32_lt, i32_le, i32_eq, i64_lt, i64_le, i64_eq, i32_cn, i32_cl, i32_l, i64_i, i32_nat, Int.toNat_natCast, sI_2, sJ_1, sJ_22, sR_1, sR_21, sI_t, sI_r, sI_j, sJ_t, sJ_r, sJ_j, sR_t, sR_r, sR_j, h1, b1]
      rfl
    · rw [sk_stop (fun q => c q.2)]
      unfold pk
      rw [if_pos (show p < n by omega)]
      simp (disch := omega) only [↓reduceIte, iT_lt, iF_lt, iT_le, iF_le, iT_eq, iF_eq, nT_lt, nF_lt, nT_le, nF_le, nT_eq, nF_eq, and_self, and_true, true_and, and_false, false_and, not_true_eq_false, not_false_eq_true, ne_eq, or_self, or_false, false_or, or_true, true_or, Option.bind_some, i32_lit, i64_lit, i32_add, i32_sub, i32_mul, i32_neg, i64_add, i64_sub, i64_neg, i32_lt, i32_le, i32_eq, i64_lt, i64_le, i64_eq, i32_cn, i32_cl, i32_l, i64_i, i32_nat, Int.toNat_natCast, sI_2, sJ_1, sJ_22, sR_1, sR_21, sI_t, sI_r, sI_j, sJ_t, sJ_r, sJ_j, sR_t, sR_r, sR_j, h1, b1]
theorem p_next {F n p w : Nat} {Z : hZ} {B : Nat → Nat} {σ : hSt} (hF : 300 ≤ F) (h : okH B n σ p w) : f_X8_next F Z σ = some (i32 (pk B n (sk B n p) : Int), sI σ 1 3 (i32 (sk B n p : Int))) ∧ okH B n (sI σ 1 3 (i32 (sk B n p : Int))) (sk B n p) w := by
  obtain ⟨a1, a2, a3, a4, a5, a6, a7⟩ := h
  have hs := sk_rg (B := B) a2
  constructor
  · unfold f_X8_next
    have i := p_next_L a1 a4 a5 (n - p) p F (by omega) (by omega)
    rw [← i, a6]
    by_cases c : p = 0
    · subst c
      simp (disch := omega) only [↓reduceIte, iT_lt, iF_lt, iT_le, iF_le, iT_eq, iF_eq, nT_lt, nF_lt, nT_le, nF_le, nT_eq, nF_eq, and_self, and_true, true_and, and_false, false_and, not_true_eq_false, not_false_eq_true, ne_eq, or_self, or_false, false_or, or_true, true_or, Option.bind_some, i32_lit, i64_lit, i32_add, i32_sub, i32_mul, i32_neg, i64_add, i64_sub, i64_neg, i32_lt, i32_le, i32_eq, i64_lt, i64_le, i64_eq, i32_cn, i32_cl, i32_l, i64_i, i32_nat, Int.toNat_natCast, sI_2, sJ_1, sJ_22, sR_1, sR_21, sI_t, sI_r, sI_j, sJ_t, sJ_r, sJ_j, sR_t, sR_r, sR_j]
      rfl
    · simp (disch := omega) only [↓reduceIte, iT_lt, iF_lt, iT_le, iF_le, iT_eq, iF_eq, nT_lt, nF_lt, nT_le, nF_le, nT_eq, nF_eq, and_self, and_true, true_and, and_false, false_and, not_true_eq_false, not_false_eq_true, ne_eq, or_self, or_false, false_or, or_true, true_or, Option.bind_some, i32_lit, i64_lit, i32_add, i32_sub, i32_mul, i32_neg, i64_add, i64_sub, i64_neg, i32_lt, i32_le, i32_eq, i64_lt, i64_le, i64_eq, i32_cn, i32_cl, i32_l, i64_i, i32_nat, Int.toNat_natCast, sI_2, sJ_1, sJ_22, sR_1, sR_21, sI_t, sI_r, sI_j, sJ_t, sJ_r, sJ_j, sR_t, sR_r, sR_j]
  · refine ⟨a1, hs.2, by omega, ?_, fun j hj => ?_, ?_, ?_⟩
    · simp (disch := omega) only [↓reduceIte, iT_lt, iF_lt, iT_le, iF_le, iT_eq, iF_eq, nT_lt, nF_lt, nT_le, nF_le, nT_eq, nF_eq, and_self, and_true, true_and, and_false, false_and, not_true_eq_false, not_false_eq_true, ne_eq, or_self, or_false, false_or, or_true, true_or, Option.bind_some, i32_lit, i64_lit, i32_add, i32_sub, i32_mul, i32_neg, i64_add, i64_sub, i64_neg, i32_lt, i32_le, i32_eq, i64_lt, i64_le, i64_eq, i32_cn, i32_cl, i32_l, i64_i, i32_nat, Int.toNat_natCast, sI_2, sJ_1, sJ_22, sR_1, sR_21, sI_t, sI_r, sI_j, sJ_t, sJ_r, sJ_j, sR_t, sR_r, sR_j]; exact a4
    · simp (disch := omega) only [↓reduceIte, iT_lt, iF_lt, iT_le, iF_le, iT_eq, iF_eq, nT_lt, nF_lt, nT_le, nF_le, nT_eq, nF_eq, and_self, and_true, true_and, and_false, false_and, not_true_eq_false, not_false_eq_true, ne_eq, or_self, or_false, false_or, or_true, true_or, Option.bind_some, i32_lit, i64_lit, i32_add, i32_sub, i32_mul, i32_neg, i64_add, i64_sub, i64_neg, i32_lt, i32_le, i32_eq, i64_lt, i64_le, i64_eq, i32_cn, i32_cl, i32_l, i64_i, i32_nat, Int.toNat_natCast, sI_2, sJ_1, sJ_22, sR_1, sR_21, sI_t, sI_r, sI_j, sJ_t, sJ_r, sJ_j, sR_t, sR_r, sR_j]; exact a5 j hj
    · simp (disch := omega) only [↓reduceIte, iT_lt, iF_lt, iT_le, iF_le, iT_eq, iF_eq, nT_lt, nF_lt, nT_le, nF_le, nT_eq, nF_eq, and_self, and_true, true_and, and_false, false_and, not_true_eq_false, not_false_eq_true, ne_eq, or_self, or_false, false_or, or_true, true_or, Option.bind_some, i32_lit, i64_lit, i32_add, i32_sub, i32_mul, i32_neg, i64_add, i64_sub, i64_neg, i32_lt, i32_le, i32_eq, i64_lt, i64_le, i64_eq, i32_cn, i32_cl, i32_l, i64_i, i32_nat, Int.toNat_natCast, sI_2, sJ_1, sJ_22, sR_1, sR_21, sI_t, sI_r, sI_j, sJ_t, sJ_r, sJ_j, sR_t, sR_r, sR_j]
    · simp (disch := omega) only [↓reduceIte, iT_lt, iF_lt, iT_le, iF_le, iT_eq, iF_eq, nT_lt, nF_lt, nT_le, nF_le, nT_eq, nF_eq, and_self, and_true, true_and, and_false, false_and, not_true_eq_false, not_false_eq_true, ne_eq, or_self, or_false, false_or, or_true, true_or, Option.bind_some, i32_lit, i64_lit, i32_add, i32_sub, i32_mul, i32_neg, i64_add, i64_sub, i64_neg, i32_lt, i32_le, i32_eq, i64_lt, i64_le, i64_eq, i32_cn, i32_cl, i32_l, i64_i, i32_nat, Int.toNat_natCast, sI_2, sJ_1, sJ_22, sR_1, sR_21, sI_t, sI_r, sI_j, sJ_t, sJ_r, sJ_j, sR_t, sR_r, sR_j]; exact a7
theorem pk_rg {B : Nat → Nat} {n q : Nat} {σ : hSt} {p w : Nat} (h : okH B n σ p w) : pk B n q ≤ 255 ∧ (pk B n q = 0 ↔ n ≤ q) := by
  unfold pk
  by_cases c : q < n
  · rw [if_pos c]
    have := h.2.2.2.2.1 q c
    omega
  · rw [if_neg c]; omega
/-- one sign taken -/
theorem p_take {F n p w c : Nat} {Z : hZ} {B : Nat → Nat} {σ : hSt} (hF : 300 ≤ F) (h : okH B n σ p w) (hc : 1 ≤ c ∧ c ≤ 255) : if pk B n (sk B n p) = c then ∃ σ', f_X8_take F Z σ (i32 (c : Int)) = some (1, σ') ∧ fr WT σ σ' ∧ σ'.1 3 = σ.1 3 ∧ okH B n σ' (sk B n p + 1) w ∧ sk B n p < n else ∃ σ', f_X8_take F Z σ (i32 (c : Int)) = some (0, σ') ∧ fr WT σ σ' ∧ σ'.1 3 = σ.1 3 ∧ okH B n σ' (sk B n p) w := by
  obtain ⟨e1, h2⟩ := p_next (Z := Z) hF h
  have hr := pk_rg (q := sk B n p) h
  have f0 : fr WT σ (sI σ 1 3 (i32 (sk B n p : Int))) := fr_sI σ _ (by decide)
  unfold f_X8_take
  rw [e1]
  by_cases q : pk B n (sk B n p) = c
  · rw [if_pos q]
    have hlt : sk B n p < n := by
      rcases Nat.lt_or_ge (sk B n p) n with r | r
      · exact r
      · have := hr.2.mpr r
        omega
    refine ⟨sI σ 1 3 (i32 ((sk B n p + 1 : Nat) : Int)), ?_, fr_sI σ _ (by decide), ?_, ?_, hlt⟩
    · simp (disch := omega) only [↓reduceIte, iT_lt, iF_lt, iT_le, iF_le, iT_eq, iF_eq, nT_lt, nF_lt, nT_le, nF_le, nT_eq, nF_eq, and_self, and_true, true_and, and_false, false_and, not_true_eq_false, not_false_eq_true, ne_eq, or_self, or_false, false_or, or_true, true_or, Option.bind_some, i32_lit, i64_lit, i32_add, i32_sub, i32_mul, i32_neg, i64_add, i64_sub, i64_neg, i32_lt, i32_le, i32_eq, i64_lt, i64_le, i64_eq, i32_cn, i32_cl, i32_l, i64_i, i32_nat, Int.toNat_natCast, sI_2, sJ_1, sJ_22, sR_1, sR_21, sI_t, sI_r, sI_j, sJ_t, sJ_r, sJ_j, sR_t, sR_r, sR_j, q, sI_sI]
      rfl
    · simp (disch := omega) only [↓reduceIte, iT_lt, iF_lt, iT_le, iF_le, iT_eq, iF_eq, nT_lt, nF_lt, nT_le, nF_le, nT_eq, nF_eq, and_self, and_true, true_and, and_false, false_and, not_true_eq_false, not_false_eq_true, ne_eq, or_self, or_false, false_or, or_true, true_or, Option.bind_some, i32_lit, i64_lit, i32_add, i32_sub, i32_mul, i32_neg, i64_add, i64_sub, i64_neg, i32_lt, i32_le, i32_eq, i64_lt, i64_le, i64_eq, i32_cn, i32_cl, i32_l, i64_i, i32_nat, Int.toNat_natCast, sI_2, sJ_1, sJ_22, sR_1, sR_21, sI_t, sI_r, sI_j, sJ_t, sJ_r, sJ_j, sR_t, sR_r, sR_j]
    · obtain ⟨a1, a2, a3, a4, a5, a6, a7⟩ := h2
      refine ⟨a1, by omega, by omega, ?_, fun j hj => ?_, ?_, ?_⟩
      · simp (disch := omega) only [↓reduceIte, iT_lt, iF_lt, iT_le, iF_le, iT_eq, iF_eq, nT_lt, nF_lt, nT_le, nF_le, nT_eq, nF_eq, and_self, and_true, true_and, and_false, false_and, not_true_eq_false, not_false_eq_true, ne_eq, or_self, or_false, false_or, or_true, true_or, Option.bind_some, i32_lit, i64_lit, i32_add, i32_sub, i32_mul, i32_neg, i64_add, i64_sub, i64_neg, i32_lt, i32_le, i32_eq, i64_lt, i64_le, i64_eq, i32_cn, i32_cl, i32_l, i64_i, i32_nat, Int.toNat_natCast, sI_2, sJ_1, sJ_22, sR_1, sR_21, sI_t, sI_r, sI_j, sJ_t, sJ_r, sJ_j, sR_t, sR_r, sR_j]; exact h.2.2.2.1
      · simp (disch := omega) only [↓reduceIte, iT_lt, iF_lt, iT_le, iF_le, iT_eq, iF_eq, nT_lt, nF_lt, nT_le, nF_le, nT_eq, nF_eq, and_self, and_true, true_and, and_false, false_and, not_true_eq_false, not_false_eq_true, ne_eq, or_self, or_false, false_or, or_true, true_or, Option.bind_some, i32_lit, i64_lit, i32_add, i32_sub, i32_mul, i32_neg, i64_add, i64_sub, i64_neg, i32_lt, i32_le, i32_eq, i64_lt, i64_le, i64_eq, i32_cn, i32_cl, i32_l, i64_i, i32_nat, Int.toNat_natCast, sI_2, sJ_1, sJ_22, sR_1, sR_21, sI_t, sI_r, sI_j, sJ_t, sJ_r, sJ_j, sR_t, sR_r, sR_j]; exact h.2.2.2.2.1 j hj
      · simp (disch := omega) only [↓reduceIte, iT_lt, iF_lt, iT_le, iF_le, iT_eq, iF_eq, nT_lt, nF_lt, nT_le, nF_le, nT_eq, nF_eq, and_self, and_true, true_and, and_false, false_and, not_true_eq_false, not_false_eq_true, ne_eq, or_self, or_false, false_or, or_true, true_or, Option.bind_some, i32_lit, i64_lit, i32_add, i32_sub, i32_mul, i32_neg, i64_add, i64_sub, i64_neg, i32_lt, i32_le, i32_eq, i64_lt, i64_le, i64_eq, i32_cn, i32_cl, i32_l, i64_i, i32_nat, Int.toNat_natCast, sI_2, sJ_1, sJ_22, sR_1, sR_21, sI_t, sI_r, sI_j, sJ_t, sJ_r, sJ_j, sR_t, sR_r, sR_j]
      · simp (disch := omega) only [↓reduceIte, iT_lt, iF_lt, iT_le, iF_le, iT_eq, iF_eq, nT_lt, nF_lt, nT_le, nF_le, nT_eq, nF_eq, and_self, and_true, true_and, and_false, false_and, not_true_eq_false, not_false_eq_true, ne_eq, or_self, or_false, false_or, or_true, true_or, Option.bind_some, i32_lit, i64_lit, i32_add, i32_sub, i32_mul, i32_neg, i64_add, i64_sub, i64_neg, i32_lt, i32_le, i32_eq, i64_lt, i64_le, i64_eq, i32_cn, i32_cl, i32_l, i64_i, i32_nat, Int.toNat_natCast, sI_2, sJ_1, sJ_22, sR_1, sR_21, sI_t, sI_r, sI_j, sJ_t, sJ_r, sJ_j, sR_t, sR_r, sR_j]; exact h.2.2.2.2.2.2
  · rw [if_neg q]
    refine ⟨_, ?_, f0, ?_, h2⟩
    · simp (disch := omega) only [↓reduceIte, iT_lt, iF_lt, iT_le, iF_le, iT_eq, iF_eq, nT_lt, nF_lt, nT_le, nF_le, nT_eq, nF_eq, and_self, and_true, true_and, and_false, false_and, not_true_eq_false, not_false_eq_true, ne_eq, or_self, or_false, false_or, or_true, true_or, Option.bind_some, i32_lit, i64_lit, i32_add, i32_sub, i32_mul, i32_neg, i64_add, i64_sub, i64_neg, i32_lt, i32_le, i32_eq, i64_lt, i64_le, i64_eq, i32_cn, i32_cl, i32_l, i64_i, i32_nat, Int.toNat_natCast, sI_2, sJ_1, sJ_22, sR_1, sR_21, sI_t, sI_r, sI_j, sJ_t, sJ_r, sJ_j, sR_t, sR_r, sR_j]
    · simp (disch := omega) only [↓reduceIte, iT_lt, iF_lt, iT_le, iF_le, iT_eq, iF_eq, nT_lt, nF_lt, nT_le, nF_le, nT_eq, nF_eq, and_self, and_true, true_and, and_false, false_and, not_true_eq_false, not_false_eq_true, ne_eq, or_self, or_false, false_or, or_true, true_or, Option.bind_some, i32_lit, i64_lit, i32_add, i32_sub, i32_mul, i32_neg, i64_add, i64_sub, i64_neg, i32_lt, i32_le, i32_eq, i64_lt, i64_le, i64_eq, i32_cn, i32_cl, i32_l, i64_i, i32_nat, Int.toNat_natCast, sI_2, sJ_1, sJ_22, sR_1, sR_21, sI_t, sI_r, sI_j, sJ_t, sJ_r, sJ_j, sR_t, sR_r, sR_j]
