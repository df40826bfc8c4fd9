/-! the model's reading of SAYINGS -/
theorem m1 : i32 (-1) = (-1 : Int32) := rfl
def resM (B : Nat → Nat) (n : Nat) (τ : hSt) (R : Nat) (C : List Int) (dp : Nat) (r : PR) (x : Option (Unit × hSt)) : Prop := ∃ υ, x = some ((), υ) ∧ fr WM τ υ ∧ (r.1 = true → okM B n υ R r.2.1 (C ++ r.2.2) dp) ∧ (r.1 = false → υ.1 200 7 = i32 (r.2.1 : Int))
theorem resM_pre {B : Nat → Nat} {n R dp : Nat} {C : List Int} {τ τ1 : hSt} {r : PR} {x : Option (Unit × hSt)} (hf : fr WM τ τ1) (h : resM B n τ1 R C dp r x) : resM B n τ R C dp r x := by
  obtain ⟨υ, a1, a2, a3⟩ := h
  exact ⟨υ, a1, fr_tr hf a2, a3⟩
def chM (F : Nat) (Z : hZ) (c e : Int32) (u : hSt → Option (Unit × hSt)) : Nat → hSt → Option (Unit × hSt)
  | 0, _ => none
  | N + 1, σ1 => (if (σ1.1 200 7) = (-1 : Int32) then (f_X12_look F Z σ1).bind fun q3 => (if q3.1 = c then (u (sI q3.2 200 6 ((q3.2.1 200 6) + (1 : Int32)))).bind fun q5 => (if (q5.2.1 200 7) = (-1 : Int32) then (f_X12_sign Z q5.2 e).bind fun q7 => chM F Z c e u N q7.2 else chM F Z c e u N q5.2) else some ((), q3.2)) else some ((), σ1))
theorem ors_ch (F : Nat) (Z : hZ) (u : hSt → Option (Unit × hSt)) : ∀ N σ, f_X12_ors_L4 F Z u N σ = chM F Z (124 : Int32) (8 : Int32) u N σ
  | 0, _ => rfl
  | N + 1, σ => by
    rw [f_X12_ors_L4, chM]
    simp only [ors_ch F Z u N]
theorem mands_ch (F : Nat) (Z : hZ) (u : hSt → Option (Unit × hSt)) : ∀ N σ, f_X12_ands_L4 F Z u N σ = chM F Z (38 : Int32) (7 : Int32) u N σ
  | 0, _ => rfl
  | N + 1, σ => by
    rw [f_X12_ands_L4, chM]
    simp only [mands_ch F Z u N]
theorem lkV_pk {B : Nat → Nat} {n q c : Nat} (hb : ∀ j, j < n → 1 ≤ B j ∧ B j ≤ 255) (hc : 1 ≤ c ∧ c ≤ 255) : (i32 (lkV B n q) = i32 (c : Int)) = (pk B n q = c) := by
  unfold lkV pk
  by_cases e : q < n
  · have := hb q e
    rw [if_pos e, if_pos e, i32_eq (by omega)]
    exact propext (by omega)
  · rw [if_neg e, if_neg e, i32_eq (by omega)]
    exact propext (by omega)
theorem txM_b {B : Nat → Nat} {n r bs p : Nat} {τ : hSt} (h : txM B n r bs τ p) : ∀ j, j < n → 1 ≤ B j ∧ B j ≤ 255 := fun j hj => (h.2.2.2.2.2.2.2.2 j hj).2
theorem p_chM {F n c R dp : Nat} {e : Int} {Z : hZ} {B : Nat → Nat} {it : Nat → PR} {u : hSt → Option (Unit × hSt)} (hF : 300 ≤ F) (hc : 1 ≤ c ∧ c ≤ 255) (he : 0 ≤ e ∧ e ≤ 8) (hg : PG n it) (hu : ∀ τ p C, okM B n τ R p C dp → resM B n τ R C dp (it p) (u τ)) :
    ∀ k p N (τ : hSt) C0 acc, k < N → n ≤ p + k → okM B n τ R p (C0 ++ acc) dp → resM B n τ R C0 dp (chL B n (isC c) (fun _ => e) it k p acc) (chM F Z (i32 (c : Int)) (i32 e) u N τ) := by
  intro k
  induction k with
  | zero =>
    intro p N τ C0 acc hN hnp ho
    obtain ⟨N, rfl⟩ : ∃ q, N = q + 1 := ⟨N - 1, by omega⟩
    have hpn := ho.1.2.1
    obtain rfl : p = n := by omega
    rw [chM, chL, ho.2.1, if_pos m1, p_look hF ho.1, obs]
    dsimp only
    have h0 : ¬ i32 (lkV B p (sk B p p)) = i32 (c : Int) := by
      rw [lkV_pk (txM_b ho.1) hc, sk_n]
      unfold pk; rw [if_neg (by omega)]; omega
    rw [if_neg h0, sk_n, sI_id ho.1.2.2.2.2.2.2.2.1]
    exact ⟨τ, rfl, fr_rf _ _, fun _ => ho, fun z => by cases z⟩
  | succ k ih =>
    intro p N τ C0 acc hN hnp ho
    obtain ⟨N, rfl⟩ : ∃ q, N = q + 1 := ⟨N - 1, by omega⟩
    have hs := sk_rg (B := B) ho.1.2.1
    have ho1 := okM_at ho hs.2 hs.1
    have f1 : fr WM τ (sI τ 200 6 (i32 (sk B n p : Int))) := fr_sI _ _ (by decide)
    rw [chM, chL, ho.2.1, if_pos m1, p_look hF ho.1, obs]
    dsimp only
    by_cases q : pk B n (sk B n p) = c
    · have hq : isC c (pk B n (sk B n p)) = true := by unfold isC; rw [q]; exact beq_self_eq_true c
      have hlt := pkp_lt (show pk B n (sk B n p) ≠ 0 by omega)
      rw [if_pos hq, if_pos ((lkV_pk (txM_b ho.1) hc).mpr q)]
      have e6 : (sI τ 200 6 (i32 (sk B n p : Int))).1 200 6 + (1 : Int32) = i32 ((sk B n p + 1 : Nat) : Int) := by
        rw [sI_t _ _ ⟨rfl, rfl⟩, i32_lit, i32_add]; rfl
      rw [e6, sI_sI]
      have ho2 := okM_at ho (show sk B n p + 1 ≤ n by omega) (by omega)
      obtain ⟨υ, b1, b2, b3, b4⟩ := hu _ _ _ ho2
      rw [b1, obs]
      dsimp only
      obtain ⟨g1, g2⟩ := hg (sk B n p + 1) (by omega)
      by_cases d : (it (sk B n p + 1)).1 = true
      · have c1 := b3 d
        obtain ⟨g3, g4⟩ := g2 d
        have hlen := c1.2.2.2.2.2.2
        have hlen0 := ho.2.2.2.2.2.2
        rw [List.length_append] at hlen
        obtain ⟨υ2, d1, d2, d3⟩ := p_sign (Z := Z) (c := e) c1 he (by rw [List.length_append]; omega)
        rw [if_pos d, c1.2.1, if_pos m1, d1, obs]
        dsimp only
        have r := ih (it (sk B n p + 1)).2.1 N υ2 C0 (acc ++ ((it (sk B n p + 1)).2.2 ++ [e])) (by omega) (by omega) (by
          rw [show C0 ++ (acc ++ ((it (sk B n p + 1)).2.2 ++ [e])) = C0 ++ acc ++ (it (sk B n p + 1)).2.2 ++ [e] by simp only [List.append_assoc]]
          exact d3)
        exact resM_pre (fr_tr (fr_tr (fr_sI _ _ (by decide)) b2) d2) r
      · have d2 : (it (sk B n p + 1)).1 = false := by cases h : (it (sk B n p + 1)).1 with
          | false => rfl
          | true => exact absurd h d
        have hf := b4 d2
        have hne : ¬ υ.1 200 7 = (-1 : Int32) := by
          rw [hf, show (-1 : Int32) = i32 (-1) from rfl, i32_eq (by have := ho.1.1; omega)]; omega
        rw [if_neg d, if_neg hne]
        obtain ⟨N, rfl⟩ : ∃ q, N = q + 1 := ⟨N - 1, by omega⟩
        rw [chM, if_neg hne]
        exact ⟨υ, rfl, fr_tr (fr_sI _ _ (by decide)) b2, (fun z => by cases z), fun _ => hf⟩
    · have hq : ¬ isC c (pk B n (sk B n p)) = true := by unfold isC; intro z; exact q (eq_of_beq z)
      rw [if_neg hq, if_neg (by rw [lkV_pk (txM_b ho.1) hc]; exact q)]
      exact ⟨_, rfl, f1, fun _ => ho1, fun z => by cases z⟩
theorem p_chnM {F n c R dp : Nat} {e : Int} {Z : hZ} {B : Nat → Nat} {it : Nat → PR} {u : hSt → Option (Unit × hSt)} (hF : 300 ≤ F) (hc : 1 ≤ c ∧ c ≤ 255) (he : 0 ≤ e ∧ e ≤ 8) (hg : PG n it) (hu : ∀ τ p C, okM B n τ R p C dp → resM B n τ R C dp (it p) (u τ)) (τ : hSt) (p : Nat) (C : List Int) (ho : okM B n τ R p C dp) :
    resM B n τ R C dp (chn B n (isC c) (fun _ => e) it p) ((u τ).bind fun q1 => chM F Z (i32 (c : Int)) (i32 e) u F q1.2) := by
  obtain ⟨υ, b1, b2, b3, b4⟩ := hu τ p C ho
  unfold chn
  rw [b1, obs]
  dsimp only
  by_cases d : (it p).1 = true
  · rw [if_pos d]
    have hn := ho.1.1
    obtain ⟨g1, g2⟩ := hg p ho.1.2.1
    exact resM_pre b2 (p_chM (Z := Z) (e := e) hF hc he hg hu 200 (it p).2.1 F υ C (it p).2.2 (by omega) (by omega) (b3 d))
  · have d2 : (it p).1 = false := by cases h : (it p).1 with
      | false => rfl
      | true => exact absurd h d
    have hf := b4 d2
    obtain ⟨g1, g2⟩ := hg p ho.1.2.1
    have hne : ¬ υ.1 200 7 = (-1 : Int32) := by
      rw [hf, show (-1 : Int32) = i32 (-1) from rfl, i32_eq (by have := ho.1.1; omega)]; omega
    rw [if_neg d]
    obtain ⟨F, rfl⟩ : ∃ q, F = q + 1 := ⟨F - 1, by omega⟩
    rw [chM, if_neg hne]
    exact ⟨υ, rfl, b2, (fun z => by cases z), fun _ => hf⟩
theorem p_fails {τ : hSt} {Z : hZ} {q : Nat} (h7 : τ.1 200 7 = i32 (-1)) (h6 : τ.1 200 6 = i32 (q : Int)) : f_X12_fails Z τ = some (0, sI τ 200 7 (i32 (q : Int))) := by
  unfold f_X12_fails
  rw [h7, h6, if_pos m1]
theorem p_fails2 {τ : hSt} {Z : hZ} {q : Nat} (hq : q ≤ 1000) (h7 : τ.1 200 7 = i32 (q : Int)) : f_X12_fails Z τ = some (0, τ) := by
  unfold f_X12_fails
  rw [h7, if_neg (by rw [show (-1 : Int32) = i32 (-1) from rfl, i32_eq (by omega)]; omega)]
theorem p_goes0 {B : Nat → Nat} {n R p : Nat} {C : List Int} {Z : hZ} {τ : hSt} (h : okM B n τ R p C 8) : f_X12_goesIn Z τ = some (0, sI τ 200 7 (i32 (p : Int))) := by
  unfold f_X12_goesIn
  rw [h.2.2.1, h.2.2.2.1, if_pos (show i32 ((8 : Nat) : Int) = i32 8 from rfl), p_fails h.2.1 h.1.2.2.2.2.2.2.2.1, obs]
  rfl
theorem p_goes1 {B : Nat → Nat} {n R p dp : Nat} {C : List Int} {Z : hZ} {τ : hSt} (h : okM B n τ R p C dp) (hd : dp < 8) (hp : p < n) : ∃ υ, f_X12_goesIn Z τ = some (1, υ) ∧ fr WM τ υ ∧ okM B n υ R (p + 1) C (dp + 1) := by
  have h2 := okM_at h (show p + 1 ≤ n by omega) (by omega)
  obtain ⟨a1, a2, a3, a4, a5, ⟨b1, b2, b3, b4, b5, b6, b7⟩, a7⟩ := h
  obtain ⟨t1, t2, t3, t4, t5, t6, t7, t8, t9⟩ := a1
  refine ⟨sI (sI τ 200 8 (i32 ((dp + 1 : Nat) : Int))) 200 6 (i32 ((p + 1 : Nat) : Int)), ?_, fr_tr (fr_sI _ _ (by decide)) (fr_sI _ _ (by decide)), ⟨t1, hp, t3, t4, t5, ?_, ?_, ?_, fun j hj => ?_⟩, ?_, ?_, ?_, ?_, ⟨b1, b2, ?_, fun i hi => ?_, ?_, fun k hk => ?_, ?_⟩, by omega⟩
  · unfold f_X12_goesIn
    simp (disch := omega) only [↓reduceIte, iT_lt, iF_lt, iT_le, iF_le, iT_eq, iF_eq, nT_lt, nF_lt, nT_le, nF_le, nT_eq, nF_eq, and_self, and_true, true_and, and_false, false_and, not_true_eq_false, not_false_eq_true, ne_eq, or_self, or_false, false_or, or_true, true_or, Option.bind_some, i32_lit, i64_lit, i32_add, i32_sub, i32_mul, i32_neg, i64_add, i64_sub, i64_neg, i32_lt, i32_le, i32_eq, i64_lt, i64_le, i64_eq, i32_cn, i32_cl, i32_l, i64_i, i32_nat, Int.toNat_natCast, sI_2, sJ_1, sJ_22, sR_1, sR_21, sI_t, sI_r, sI_j, sJ_t, sJ_r, sJ_j, sR_t, sR_r, sR_j, a3, a4, t8]
    rfl
  · simp (disch := omega) only [↓reduceIte, iT_lt, iF_lt, iT_le, iF_le, iT_eq, iF_eq, nT_lt, nF_lt, nT_le, nF_le, nT_eq, nF_eq, and_self, and_true, true_and, and_false, false_and, not_true_eq_false, not_false_eq_true, ne_eq, or_self, or_false, false_or, or_true, true_or, Option.bind_some, i32_lit, i64_lit, i32_add, i32_sub, i32_mul, i32_neg, i64_add, i64_sub, i64_neg, i32_lt, i32_le, i32_eq, i64_lt, i64_le, i64_eq, i32_cn, i32_cl, i32_l, i64_i, i32_nat, Int.toNat_natCast, sI_2, sJ_1, sJ_22, sR_1, sR_21, sI_t, sI_r, sI_j, sJ_t, sJ_r, sJ_j, sR_t, sR_r, sR_j]; exact t6
  · simp (disch := omega) only [↓reduceIte, iT_lt, iF_lt, iT_le, iF_le, iT_eq, iF_eq, nT_lt, nF_lt, nT_le, nF_le, nT_eq, nF_eq, and_self, and_true, true_and, and_false, false_and, not_true_eq_false, not_false_eq_true, ne_eq, or_self, or_false, false_or, or_true, true_or, Option.bind_some, i32_lit, i64_lit, i32_add, i32_sub, i32_mul, i32_neg, i64_add, i64_sub, i64_neg, i32_lt, i32_le, i32_eq, i64_lt, i64_le, i64_eq, i32_cn, i32_cl, i32_l, i64_i, i32_nat, Int.toNat_natCast, sI_2, sJ_1, sJ_22, sR_1, sR_21, sI_t, sI_r, sI_j, sJ_t, sJ_r, sJ_j, sR_t, sR_r, sR_j]; exact t7
  · simp (disch := omega) only [↓reduceIte, iT_lt, iF_lt, iT_le, iF_le, iT_eq, iF_eq, nT_lt, nF_lt, nT_le, nF_le, nT_eq, nF_eq, and_self, and_true, true_and, and_false, false_and, not_true_eq_false, not_false_eq_true, ne_eq, or_self, or_false, false_or, or_true, true_or, Option.bind_some, i32_lit, i64_lit, i32_add, i32_sub, i32_mul, i32_neg, i64_add, i64_sub, i64_neg, i32_lt, i32_le, i32_eq, i64_lt, i64_le, i64_eq, i32_cn, i32_cl, i32_l, i64_i, i32_nat, Int.toNat_natCast, sI_2, sJ_1, sJ_22, sR_1, sR_21, sI_t, sI_r, sI_j, sJ_t, sJ_r, sJ_j, sR_t, sR_r, sR_j]
  · simp (disch := omega) only [↓reduceIte, iT_lt, iF_lt, iT_le, iF_le, iT_eq, iF_eq, nT_lt, nF_lt, nT_le, nF_le, nT_eq, nF_eq, and_self, and_true, true_and, and_false, false_and, not_true_eq_false, not_false_eq_true, ne_eq, or_self, or_false, false_or, or_true, true_or, Option.bind_some, i32_lit, i64_lit, i32_add, i32_sub, i32_mul, i32_neg, i64_add, i64_sub, i64_neg, i32_lt, i32_le, i32_eq, i64_lt, i64_le, i64_eq, i32_cn, i32_cl, i32_l, i64_i, i32_nat, Int.toNat_natCast, sI_2, sJ_1, sJ_22, sR_1, sR_21, sI_t, sI_r, sI_j, sJ_t, sJ_r, sJ_j, sR_t, sR_r, sR_j]; exact t9 j hj
  · simp (disch := omega) only [↓reduceIte, iT_lt, iF_lt, iT_le, iF_le, iT_eq, iF_eq, nT_lt, nF_lt, nT_le, nF_le, nT_eq, nF_eq, and_self, and_true, true_and, and_false, false_and, not_true_eq_false, not_false_eq_true, ne_eq, or_self, or_false, false_or, or_true, true_or, Option.bind_some, i32_lit, i64_lit, i32_add, i32_sub, i32_mul, i32_neg, i64_add, i64_sub, i64_neg, i32_lt, i32_le, i32_eq, i64_lt, i64_le, i64_eq, i32_cn, i32_cl, i32_l, i64_i, i32_nat, Int.toNat_natCast, sI_2, sJ_1, sJ_22, sR_1, sR_21, sI_t, sI_r, sI_j, sJ_t, sJ_r, sJ_j, sR_t, sR_r, sR_j]; exact a2
  · simp (disch := omega) only [↓reduceIte, iT_lt, iF_lt, iT_le, iF_le, iT_eq, iF_eq, nT_lt, nF_lt, nT_le, nF_le, nT_eq, nF_eq, and_self, and_true, true_and, and_false, false_and, not_true_eq_false, not_false_eq_true, ne_eq, or_self, or_false, false_or, or_true, true_or, Option.bind_some, i32_lit, i64_lit, i32_add, i32_sub, i32_mul, i32_neg, i64_add, i64_sub, i64_neg, i32_lt, i32_le, i32_eq, i64_lt, i64_le, i64_eq, i32_cn, i32_cl, i32_l, i64_i, i32_nat, Int.toNat_natCast, sI_2, sJ_1, sJ_22, sR_1, sR_21, sI_t, sI_r, sI_j, sJ_t, sJ_r, sJ_j, sR_t, sR_r, sR_j]
  · simp (disch := omega) only [↓reduceIte, iT_lt, iF_lt, iT_le, iF_le, iT_eq, iF_eq, nT_lt, nF_lt, nT_le, nF_le, nT_eq, nF_eq, and_self, and_true, true_and, and_false, false_and, not_true_eq_false, not_false_eq_true, ne_eq, or_self, or_false, false_or, or_true, true_or, Option.bind_some, i32_lit, i64_lit, i32_add, i32_sub, i32_mul, i32_neg, i64_add, i64_sub, i64_neg, i32_lt, i32_le, i32_eq, i64_lt, i64_le, i64_eq, i32_cn, i32_cl, i32_l, i64_i, i32_nat, Int.toNat_natCast, sI_2, sJ_1, sJ_22, sR_1, sR_21, sI_t, sI_r, sI_j, sJ_t, sJ_r, sJ_j, sR_t, sR_r, sR_j]; exact a4
  · simp (disch := omega) only [↓reduceIte, iT_lt, iF_lt, iT_le, iF_le, iT_eq, iF_eq, nT_lt, nF_lt, nT_le, nF_le, nT_eq, nF_eq, and_self, and_true, true_and, and_false, false_and, not_true_eq_false, not_false_eq_true, ne_eq, or_self, or_false, false_or, or_true, true_or, Option.bind_some, i32_lit, i64_lit, i32_add, i32_sub, i32_mul, i32_neg, i64_add, i64_sub, i64_neg, i32_lt, i32_le, i32_eq, i64_lt, i64_le, i64_eq, i32_cn, i32_cl, i32_l, i64_i, i32_nat, Int.toNat_natCast, sI_2, sJ_1, sJ_22, sR_1, sR_21, sI_t, sI_r, sI_j, sJ_t, sJ_r, sJ_j, sR_t, sR_r, sR_j]; exact a5
  · simp (disch := omega) only [↓reduceIte, iT_lt, iF_lt, iT_le, iF_le, iT_eq, iF_eq, nT_lt, nF_lt, nT_le, nF_le, nT_eq, nF_eq, and_self, and_true, true_and, and_false, false_and, not_true_eq_false, not_false_eq_true, ne_eq, or_self, or_false, false_or, or_true, true_or, Option.bind_some, i32_lit, i64_lit, i32_add, i32_sub, i32_mul, i32_neg, i64_add, i64_sub, i64_neg, i32_lt, i32_le, i32_eq, i64_lt, i64_le, i64_eq, i32_cn, i32_cl, i32_l, i64_i, i32_nat, Int.toNat_natCast, sI_2, sJ_1, sJ_22, sR_1, sR_21, sI_t, sI_r, sI_j, sJ_t, sJ_r, sJ_j, sR_t, sR_r, sR_j]; exact b3
  · simp (disch := omega) only [↓reduceIte, iT_lt, iF_lt, iT_le, iF_le, iT_eq, iF_eq, nT_lt, nF_lt, nT_le, nF_le, nT_eq, nF_eq, and_self, and_true, true_and, and_false, false_and, not_true_eq_false, not_false_eq_true, ne_eq, or_self, or_false, false_or, or_true, true_or, Option.bind_some, i32_lit, i64_lit, i32_add, i32_sub, i32_mul, i32_neg, i64_add, i64_sub, i64_neg, i32_lt, i32_le, i32_eq, i64_lt, i64_le, i64_eq, i32_cn, i32_cl, i32_l, i64_i, i32_nat, Int.toNat_natCast, sI_2, sJ_1, sJ_22, sR_1, sR_21, sI_t, sI_r, sI_j, sJ_t, sJ_r, sJ_j, sR_t, sR_r, sR_j]; exact b4 i hi
  · simp (disch := omega) only [↓reduceIte, iT_lt, iF_lt, iT_le, iF_le, iT_eq, iF_eq, nT_lt, nF_lt, nT_le, nF_le, nT_eq, nF_eq, and_self, and_true, true_and, and_false, false_and, not_true_eq_false, not_false_eq_true, ne_eq, or_self, or_false, false_or, or_true, true_or, Option.bind_some, i32_lit, i64_lit, i32_add, i32_sub, i32_mul, i32_neg, i64_add, i64_sub, i64_neg, i32_lt, i32_le, i32_eq, i64_lt, i64_le, i64_eq, i32_cn, i32_cl, i32_l, i64_i, i32_nat, Int.toNat_natCast, sI_2, sJ_1, sJ_22, sR_1, sR_21, sI_t, sI_r, sI_j, sJ_t, sJ_r, sJ_j, sR_t, sR_r, sR_j]; exact b5
  · simp (disch := omega) only [↓reduceIte, iT_lt, iF_lt, iT_le, iF_le, iT_eq, iF_eq, nT_lt, nF_lt, nT_le, nF_le, nT_eq, nF_eq, and_self, and_true, true_and, and_false, false_and, not_true_eq_false, not_false_eq_true, ne_eq, or_self, or_false, false_or, or_true, true_or, Option.bind_some, i32_lit, i64_lit, i32_add, i32_sub, i32_mul, i32_neg, i64_add, i64_sub, i64_neg, i32_lt, i32_le, i32_eq, i64_lt, i64_le, i64_eq, i32_cn, i32_cl, i32_l, i64_i, i32_nat, Int.toNat_natCast, sI_2, sJ_1, sJ_22, sR_1, sR_21, sI_t, sI_r, sI_j, sJ_t, sJ_r, sJ_j, sR_t, sR_r, sR_j]; exact b6 k hk
  · simp (disch := omega) only [↓reduceIte, iT_lt, iF_lt, iT_le, iF_le, iT_eq, iF_eq, nT_lt, nF_lt, nT_le, nF_le, nT_eq, nF_eq, and_self, and_true, true_and, and_false, false_and, not_true_eq_false, not_false_eq_true, ne_eq, or_self, or_false, false_or, or_true, true_or, Option.bind_some, i32_lit, i64_lit, i32_add, i32_sub, i32_mul, i32_neg, i64_add, i64_sub, i64_neg, i32_lt, i32_le, i32_eq, i64_lt, i64_le, i64_eq, i32_cn, i32_cl, i32_l, i64_i, i32_nat, Int.toNat_natCast, sI_2, sJ_1, sJ_22, sR_1, sR_21, sI_t, sI_r, sI_j, sJ_t, sJ_r, sJ_j, sR_t, sR_r, sR_j]; exact b7
theorem okM_up {B : Nat → Nat} {n R p dp : Nat} {C : List Int} {τ : hSt} (h : okM B n τ R p C (dp + 1)) : (τ.1 200 8 - (1 : Int32)) = i32 (dp : Int) ∧ okM B n (sI τ 200 8 (i32 (dp : Int))) R p C dp := by
  obtain ⟨a1, a2, a3, a4, a5, ⟨b1, b2, b3, b4, b5, b6, b7⟩, a7⟩ := h
  obtain ⟨t1, t2, t3, t4, t5, t6, t7, t8, t9⟩ := a1
  refine ⟨?_, ⟨t1, t2, t3, t4, t5, ?_, ?_, ?_, fun j hj => ?_⟩, ?_, ?_, ?_, ?_, ⟨b1, b2, ?_, fun i hi => ?_, ?_, fun k hk => ?_, ?_⟩, a7⟩
  · rw [a3, i32_lit, i32_sub]; congr 1; omega
  · simp (disch := omega) only [↓reduceIte, iT_lt, iF_lt, iT_le, iF_le, iT_eq, iF_eq, nT_lt, nF_lt, nT_le, nF_le, nT_eq, nF_eq, and_self, and_true, true_and, and_false, false_and, not_true_eq_false, not_false_eq_true, ne_eq, or_self, or_false, false_or, or_true, true_or, Option.bind_some, i32_lit, i64_lit, i32_add, i32_sub, i32_mul, i32_neg, i64_add, i64_sub, i64_neg, i32_lt, i32_le, i32_eq, i64_lt, i64_le, i64_eq, i32_cn, i32_cl, i32_l, i64_i, i32_nat, Int.toNat_natCast, sI_2, sJ_1, sJ_22, sR_1, sR_21, sI_t, sI_r, sI_j, sJ_t, sJ_r, sJ_j, sR_t, sR_r, sR_j]; exact t6
  · simp (disch := omega) only [↓reduceIte, iT_lt, iF_lt, iT_le, iF_le, iT_eq, iF_eq, nT_lt, nF_lt, nT_le, nF_le, nT_eq, nF_eq, and_self, and_true, true_and, and_false, false_and, not_true_eq_false, not_false_eq_true, ne_eq, or_self, or_false, false_or, or_true, true_or, Option.bind_some, i32_lit, i64_lit, i32_add, i32_sub, i32_mul, i32_neg, i64_add, i64_sub, i64_neg, i32_lt, i32_le, i32_eq, i64_lt, i64_le, i64_eq, i32_cn, i32_cl, i32_l, i64_i, i32_nat, Int.toNat_natCast, sI_2, sJ_1, sJ_22, sR_1, sR_21, sI_t, sI_r, sI_j, sJ_t, sJ_r, sJ_j, sR_t, sR_r, sR_j]; exact t7
  · simp (disch := omega) only [↓reduceIte, iT_lt, iF_lt, iT_le, iF_le, iT_eq, iF_eq, nT_lt, nF_lt, nT_le, nF_le, nT_eq, nF_eq, and_self, and_true, true_and, and_false, false_and, not_true_eq_false, not_false_eq_true, ne_eq, or_self, or_false, false_or, or_true, true_or, Option.bind_some, i32_lit, i64_lit, i32_add, i32_sub, i32_mul, i32_neg, i64_add, i64_sub, i64_neg, i32_lt, i32_le, i32_eq, i64_lt, i64_le, i64_eq, i32_cn, i32_cl, i32_l, i64_i, i32_nat, Int.toNat_natCast, sI_2, sJ_1, sJ_22, sR_1, sR_21, sI_t, sI_r, sI_j, sJ_t, sJ_r, sJ_j, sR_t, sR_r, sR_j]; exact t8
  · simp (disch := omega) only [↓reduceIte, iT_lt, iF_lt, iT_le, iF_le, iT_eq, iF_eq, nT_lt, nF_lt, nT_le, nF_le, nT_eq, nF_eq, and_self, and_true, true_and, and_false, false_and, not_true_eq_false, not_false_eq_true, ne_eq, or_self, or_false, false_or, or_true, true_or, Option.bind_some, i32_lit, i64_lit, i32_add, i32_sub, i32_mul, i32_neg, i64_add, i64_sub, i64_neg, i32_lt, i32_le, i32_eq, i64_lt, i64_le, i64_eq, i32_cn, i32_cl, i32_l, i64_i, i32_nat, Int.toNat_natCast, sI_2, sJ_1, sJ_22, sR_1, sR_21, sI_t, sI_r, sI_j, sJ_t, sJ_r, sJ_j, sR_t, sR_r, sR_j]; exact t9 j hj
  · simp (disch := omega) only [↓reduceIte, iT_lt, iF_lt, iT_le, iF_le, iT_eq, iF_eq, nT_lt, nF_lt, nT_le, nF_le, nT_eq, nF_eq, and_self, and_true, true_and, and_false, false_and, not_true_eq_false, not_false_eq_true, ne_eq, or_self, or_false, false_or, or_true, true_or, Option.bind_some, i32_lit, i64_lit, i32_add, i32_sub, i32_mul, i32_neg, i64_add, i64_sub, i64_neg, i32_lt, i32_le, i32_eq, i64_lt, i64_le, i64_eq, i32_cn, i32_cl, i32_l, i64_i, i32_nat, Int.toNat_natCast, sI_2, sJ_1, sJ_22, sR_1, sR_21, sI_t, sI_r, sI_j, sJ_t, sJ_r, sJ_j, sR_t, sR_r, sR_j]; exact a2
  · simp (disch := omega) only [↓reduceIte, iT_lt, iF_lt, iT_le, iF_le, iT_eq, iF_eq, nT_lt, nF_lt, nT_le, nF_le, nT_eq, nF_eq, and_self, and_true, true_and, and_false, false_and, not_true_eq_false, not_false_eq_true, ne_eq, or_self, or_false, false_or, or_true, true_or, Option.bind_some, i32_lit, i64_lit, i32_add, i32_sub, i32_mul, i32_neg, i64_add, i64_sub, i64_neg, i32_lt, i32_le, i32_eq, i64_lt, i64_le, i64_eq, i32_cn, i32_cl, i32_l, i64_i, i32_nat, Int.toNat_natCast, sI_2, sJ_1, sJ_22, sR_1, sR_21, sI_t, sI_r, sI_j, sJ_t, sJ_r, sJ_j, sR_t, sR_r, sR_j]
  · simp (disch := omega) only [↓reduceIte, iT_lt, iF_lt, iT_le, iF_le, iT_eq, iF_eq, nT_lt, nF_lt, nT_le, nF_le, nT_eq, nF_eq, and_self, and_true, true_and, and_false, false_and, not_true_eq_false, not_false_eq_true, ne_eq, or_self, or_false, false_or, or_true, true_or, Option.bind_some, i32_lit, i64_lit, i32_add, i32_sub, i32_mul, i32_neg, i64_add, i64_sub, i64_neg, i32_lt, i32_le, i32_eq, i64_lt, i64_le, i64_eq, i32_cn, i32_cl, i32_l, i64_i, i32_nat, Int.toNat_natCast, sI_2, sJ_1, sJ_22, sR_1, sR_21, sI_t, sI_r, sI_j, sJ_t, sJ_r, sJ_j, sR_t, sR_r, sR_j]; exact a4
  · simp (disch := omega) only [↓reduceIte, iT_lt, iF_lt, iT_le, iF_le, iT_eq, iF_eq, nT_lt, nF_lt, nT_le, nF_le, nT_eq, nF_eq, and_self, and_true, true_and, and_false, false_and, not_true_eq_false, not_false_eq_true, ne_eq, or_self, or_false, false_or, or_true, true_or, Option.bind_some, i32_lit, i64_lit, i32_add, i32_sub, i32_mul, i32_neg, i64_add, i64_sub, i64_neg, i32_lt, i32_le, i32_eq, i64_lt, i64_le, i64_eq, i32_cn, i32_cl, i32_l, i64_i, i32_nat, Int.toNat_natCast, sI_2, sJ_1, sJ_22, sR_1, sR_21, sI_t, sI_r, sI_j, sJ_t, sJ_r, sJ_j, sR_t, sR_r, sR_j]; exact a5
  · simp (disch := omega) only [↓reduceIte, iT_lt, iF_lt, iT_le, iF_le, iT_eq, iF_eq, nT_lt, nF_lt, nT_le, nF_le, nT_eq, nF_eq, and_self, and_true, true_and, and_false, false_and, not_true_eq_false, not_false_eq_true, ne_eq, or_self, or_false, false_or, or_true, true_or, Option.bind_some, i32_lit, i64_lit, i32_add, i32_sub, i32_mul, i32_neg, i64_add, i64_sub, i64_neg, i32_lt, i32_le, i32_eq, i64_lt, i64_le, i64_eq, i32_cn, i32_cl, i32_l, i64_i, i32_nat, Int.toNat_natCast, sI_2, sJ_1, sJ_22, sR_1, sR_21, sI_t, sI_r, sI_j, sJ_t, sJ_r, sJ_j, sR_t, sR_r, sR_j]; exact b3
  · simp (disch := omega) only [↓reduceIte, iT_lt, iF_lt, iT_le, iF_le, iT_eq, iF_eq, nT_lt, nF_lt, nT_le, nF_le, nT_eq, nF_eq, and_self, and_true, true_and, and_false, false_and, not_true_eq_false, not_false_eq_true, ne_eq, or_self, or_false, false_or, or_true, true_or, Option.bind_some, i32_lit, i64_lit, i32_add, i32_sub, i32_mul, i32_neg, i64_add, i64_sub, i64_neg, i32_lt, i32_le, i32_eq, i64_lt, i64_le, i64_eq, i32_cn, i32_cl, i32_l, i64_i, i32_nat, Int.toNat_natCast, sI_2, sJ_1, sJ_22, sR_1, sR_21, sI_t, sI_r, sI_j, sJ_t, sJ_r, sJ_j, sR_t, sR_r, sR_j]; exact b4 i hi
  · simp (disch := omega) only [↓reduceIte, iT_lt, iF_lt, iT_le, iF_le, iT_eq, iF_eq, nT_lt, nF_lt, nT_le, nF_le, nT_eq, nF_eq, and_self, and_true, true_and, and_false, false_and, not_true_eq_false, not_false_eq_true, ne_eq, or_self, or_false, false_or, or_true, true_or, Option.bind_some, i32_lit, i64_lit, i32_add, i32_sub, i32_mul, i32_neg, i64_add, i64_sub, i64_neg, i32_lt, i32_le, i32_eq, i64_lt, i64_le, i64_eq, i32_cn, i32_cl, i32_l, i64_i, i32_nat, Int.toNat_natCast, sI_2, sJ_1, sJ_22, sR_1, sR_21, sI_t, sI_r, sI_j, sJ_t, sJ_r, sJ_j, sR_t, sR_r, sR_j]; exact b5
  · simp (disch := omega) only [↓reduceIte, iT_lt, iF_lt, iT_le, iF_le, iT_eq, iF_eq, nT_lt, nF_lt, nT_le, nF_le, nT_eq, nF_eq, and_self, and_true, true_and, and_false, false_and, not_true_eq_false, not_false_eq_true, ne_eq, or_self, or_false, false_or, or_true, true_or, Option.bind_some, i32_lit, i64_lit, i32_add, i32_sub, i32_mul, i32_neg, i64_add, i64_sub, i64_neg, i32_lt, i32_le, i32_eq, i64_lt, i64_le, i64_eq, i32_cn, i32_cl, i32_l, i64_i, i32_nat, Int.toNat_natCast, sI_2, sJ_1, sJ_22, sR_1, sR_21, sI_t, sI_r, sI_j, sJ_t, sJ_r, sJ_j, sR_t, sR_r, sR_j]; exact b6 k hk
  · simp (disch := omega) only [↓reduceIte, iT_lt, iF_lt, iT_le, iF_le, iT_eq, iF_eq, nT_lt, nF_lt, nT_le, nF_le, nT_eq, nF_eq, and_self, and_true, true_and, and_false, false_and, not_true_eq_false, not_false_eq_true, ne_eq, or_self, or_false, false_or, or_true, true_or, Option.bind_some, i32_lit, i64_lit, i32_add, i32_sub, i32_mul, i32_neg, i64_add, i64_sub, i64_neg, i32_lt, i32_le, i32_eq, i64_lt, i64_le, i64_eq, i32_cn, i32_cl, i32_l, i64_i, i32_nat, Int.toNat_natCast, sI_2, sJ_1, sJ_22, sR_1, sR_21, sI_t, sI_r, sI_j, sJ_t, sJ_r, sJ_j, sR_t, sR_r, sR_j]; exact b7
/-- takes(')') where nothing has failed -/
theorem p_takes {B : Nat → Nat} {n R p dp F c : Nat} {C : List Int} {Z : hZ} {τ : hSt} (hF : 300 ≤ F) (hc : 1 ≤ c ∧ c ≤ 255) (h : okM B n τ R p C dp) : if pk B n (sk B n p) = c then ∃ υ, f_X12_takes F Z τ (i32 (c : Int)) = some (1, υ) ∧ fr WM τ υ ∧ okM B n υ R (sk B n p + 1) C dp else ∃ υ, f_X12_takes F Z τ (i32 (c : Int)) = some (0, υ) ∧ fr WM τ υ ∧ υ.1 200 7 = i32 (sk B n p : Int) := by
  have hs := sk_rg (B := B) h.1.2.1
  have h1 := okM_at h hs.2 hs.1
  have hbb := txM_b h.1
  unfold f_X12_takes
  rw [h.2.1, if_pos m1, p_look hF h.1, obs]
  dsimp only
  by_cases q : pk B n (sk B n p) = c
  · have hlt := pkp_lt (show pk B n (sk B n p) ≠ 0 by omega)
    have h2 := okM_at h (show sk B n p + 1 ≤ n by omega) (by omega)
    rw [if_pos q, if_pos ((lkV_pk hbb hc).mpr q)]
    refine ⟨_, ?_, fr_sI τ (r := 200) (j := 6) _ (by decide), h2⟩
    rw [sI_t _ _ ⟨rfl, rfl⟩, sI_sI, i32_lit, i32_add]
    rfl
  · rw [if_neg q, if_neg (by rw [lkV_pk hbb hc]; exact q), p_fails h1.2.1 h1.1.2.2.2.2.2.2.2.1, obs]
    dsimp only
    rw [if_pos (Or.inl rfl)]
    exact ⟨_, rfl, fr_tr (fr_sI _ _ (by decide)) (fr_sI _ _ (by decide)), sI_t _ _ ⟨rfl, rfl⟩⟩
theorem fr_WM7 (τ : hSt) (v : Int32) : fr WM τ (sI τ 200 7 v) := fr_sI _ _ (by decide)
theorem lk_cases {B : Nat → Nat} {n q : Nat} (hb : ∀ j, j < n → 1 ≤ B j ∧ B j ≤ 255) : -1 ≤ lkV B n q ∧ lkV B n q ≤ 255 ∧ (1 ≤ pk B n q → lkV B n q = pk B n q) ∧ (pk B n q = 0 → lkV B n q = -1) := by
  unfold lkV pk
  by_cases c : q < n
  · have := hb _ c; rw [if_pos c, if_pos c]; omega
  · rw [if_neg c, if_neg c]; omega
/-- a unit that is a name, or none -/
theorem p_mname {B : Nat → Nat} {n R p dp : Nat} {C : List Int} {Z : hZ} {τ : hSt} (ho : okM B n τ R p C dp) (hc : pk B n p ≠ 33 ∧ pk B n p ≠ 40) (X Y : Option (Unit × hSt)) : resM B n τ R C dp (if 97 ≤ pk B n p ∧ pk B n p ≤ 102 then (true, p + 1, [(pk B n p : Int) - 97]) else (false, p, [])) (if i32 (lkV B n p) < (97 : Int32) then (if i32 (lkV B n p) = (33 : Int32) then X else (if i32 (lkV B n p) = (40 : Int32) then Y else (f_X12_fails Z τ).bind fun q23 => some ((), q23.2))) else (if (102 : Int32) < i32 (lkV B n p) then (if i32 (lkV B n p) = (33 : Int32) then X else (if i32 (lkV B n p) = (40 : Int32) then Y else (f_X12_fails Z τ).bind fun q23 => some ((), q23.2))) else (f_X12_sign Z (sI τ 200 6 (τ.1 200 6 + (1 : Int32))) (i32 (lkV B n p) - (97 : Int32))).bind fun q46 => some ((), q46.2))) := by
  have hl := lk_cases (q := p) (txM_b ho.1)
  have hfail : resM B n τ R C dp (false, p, []) ((f_X12_fails Z τ).bind fun q23 => some ((), q23.2)) := by
    rw [p_fails ho.2.1 ho.1.2.2.2.2.2.2.2.1, obs]
    exact ⟨_, rfl, fr_WM7 _ _, (fun z => by cases z), fun _ => sI_t _ _ ⟨rfl, rfl⟩⟩
  by_cases c : 97 ≤ pk B n p ∧ pk B n p ≤ 102
  · have hlt := pkp_lt (show pk B n p ≠ 0 by omega)
    have hv := hl.2.2.1 (by omega)
    rw [if_pos c, hv]
    have h2 := okM_at ho (show p + 1 ≤ n by omega) (by omega)
    have e6 : τ.1 200 6 + (1 : Int32) = i32 ((p + 1 : Nat) : Int) := by
      rw [ho.1.2.2.2.2.2.2.2.1, i32_lit, i32_add]; rfl
    have hlen := ho.2.2.2.2.2.2
    obtain ⟨υ, d1, d2, d3⟩ := p_sign (Z := Z) (c := (pk B n p : Int) - 97) h2 (by omega) (by omega)
    rw [e6, if_neg (show ¬ i32 (pk B n p : Int) < 97 by rw [show (97 : Int32) = i32 97 from rfl, i32_lt (by omega)]; omega), if_neg (show ¬ (102 : Int32) < i32 (pk B n p : Int) by rw [show (102 : Int32) = i32 102 from rfl, i32_lt (by omega)]; omega), show (97 : Int32) = i32 97 from rfl, i32_sub, d1, obs]
    exact ⟨υ, rfl, fr_tr (fr_sI _ _ (by decide)) d2, fun _ => d3, fun z => by cases z⟩
  · rw [if_neg c]
    have n33 : ¬ i32 (lkV B n p) = (33 : Int32) := by
      rw [show (33 : Int32) = i32 33 from rfl, i32_eq (by omega)]
      intro e
      have : pk B n p ≠ 0 := fun z => by have := hl.2.2.2 z; omega
      have := hl.2.2.1 (by omega)
      omega
    have n40 : ¬ i32 (lkV B n p) = (40 : Int32) := by
      rw [show (40 : Int32) = i32 40 from rfl, i32_eq (by omega)]
      intro e
      have : pk B n p ≠ 0 := fun z => by have := hl.2.2.2 z; omega
      have := hl.2.2.1 (by omega)
      omega
    by_cases c2 : lkV B n p < 97
    · rw [if_pos (show i32 (lkV B n p) < (97 : Int32) by rw [show (97 : Int32) = i32 97 from rfl, i32_lt (by omega)]; exact c2), if_neg n33, if_neg n40]
      exact hfail
    · have : pk B n p ≠ 0 := fun z => by have := hl.2.2.2 z; omega
      have := hl.2.2.1 (by omega)
      rw [if_neg (show ¬ i32 (lkV B n p) < (97 : Int32) by rw [show (97 : Int32) = i32 97 from rfl, i32_lt (by omega)]; exact c2), if_pos (show (102 : Int32) < i32 (lkV B n p) by rw [show (102 : Int32) = i32 102 from rfl, i32_lt (by omega)]; omega), if_neg n33, if_neg n40]
      exact hfail
theorem p_mors {F n R dp d D : Nat} {Z : hZ} {B : Nat → Nat} (hF : 300 ≤ F) (hu : ∀ τ p C, okM B n τ R p C dp → resM B n τ R C dp (sayU B n d p) ((G_Mo F Z D).2.2 τ)) (τ : hSt) (p : Nat) (C : List Int) (ho : okM B n τ R p C dp) : resM B n τ R C dp (sayO B n d p) ((G_Mo F Z (D + 2)).1 τ) := by
  have h1 : ∀ τ p C, okM B n τ R p C dp → resM B n τ R C dp (sayN B n d p) ((G_Mo F Z (D + 1)).2.1 τ) := by
    intro τ p C ho
    have := p_chnM (Z := Z) (c := 38) (e := 7) hF (by omega) (by omega) (sayU_PG B n d) hu τ p C ho
    show resM B n τ R C dp (sayN B n d p) (b_X12_ands F Z (G_Mo F Z D).2.2 τ)
    unfold b_X12_ands
    simp only [mands_ch]
    exact this
  have := p_chnM (Z := Z) (c := 124) (e := 8) hF (by omega) (by omega) (sayN_PG B n d) h1 τ p C ho
  show resM B n τ R C dp (sayO B n d p) (b_X12_ors F Z (G_Mo F Z (D + 1)).2.1 τ)
  unfold b_X12_ors
  simp only [ors_ch]
  exact this
theorem p_munit {F n R : Nat} {Z : hZ} {B : Nat → Nat} (hF : 300 ≤ F) : ∀ (d dp D : Nat), dp + d = 8 → 3 * d + 1 ≤ D → ∀ τ p C, okM B n τ R p C dp → resM B n τ R C dp (sayU B n d p) ((G_Mo F Z D).2.2 τ) := by
  intro d
  induction d with
  | zero =>
    intro dp D hx hD τ p C ho
    obtain ⟨D, rfl⟩ : ∃ q, D = q + 1 := ⟨D - 1, by omega⟩
    have hs := sk_rg (B := B) ho.1.2.1
    have ho1 := okM_at ho hs.2 hs.1
    have f1 : fr WM τ (sI τ 200 6 (i32 (sk B n p : Int))) := fr_sI _ _ (by decide)
    have hbb := txM_b ho.1
    obtain rfl : dp = 8 := by omega
    have hl := lk_cases (q := sk B n p) hbb
    show resM B n τ R C 8 _ (b_X12_saidUnit F Z (G_Mo F Z D).1 (G_Mo F Z D).2.2 τ)
    unfold b_X12_saidUnit
    rw [p_look hF ho.1, obs]
    dsimp only
    refine resM_pre f1 ?_
    have hfail : ∀ K : Int32 × hSt → Option (Unit × hSt), (∀ s, K (0, s) = some ((), s)) → resM B n (sI τ 200 6 (i32 (sk B n p : Int))) R C 8 (false, sk B n p, []) ((f_X12_goesIn Z (sI τ 200 6 (i32 (sk B n p : Int)))).bind K) := by
      intro K hK
      rw [p_goes0 ho1, obs, hK]
      exact ⟨_, rfl, fr_WM7 _ _, (fun z => by cases z), fun _ => sI_t _ _ ⟨rfl, rfl⟩⟩
    by_cases c1 : pk B n (sk B n p) = 33
    · have hv := hl.2.2.1 (by omega)
      rw [sayU, if_neg (by omega), hv, c1]
      exact hfail _ (fun s => rfl)
    · by_cases c2 : pk B n (sk B n p) = 40
      · have hv := hl.2.2.1 (by omega)
        rw [sayU, if_neg (by omega), hv, c2]
        exact hfail _ (fun s => rfl)
      · exact p_mname ho1 ⟨c1, c2⟩ _ _
  | succ d ih =>
    intro dp D hx hD τ p C ho
    obtain ⟨D, rfl⟩ : ∃ q, D = q + 3 := ⟨D - 3, by omega⟩
    have hs := sk_rg (B := B) ho.1.2.1
    have ho1 := okM_at ho hs.2 hs.1
    have f1 : fr WM τ (sI τ 200 6 (i32 (sk B n p : Int))) := fr_sI _ _ (by decide)
    have hbb := txM_b ho.1
    have hl := lk_cases (q := sk B n p) hbb
    show resM B n τ R C dp _ (b_X12_saidUnit F Z (G_Mo F Z (D + 2)).1 (G_Mo F Z (D + 2)).2.2 τ)
    unfold b_X12_saidUnit
    rw [p_look hF ho.1, obs]
    dsimp only
    refine resM_pre f1 ?_
    rw [sayU_s]
    have hU := ih (dp + 1) (D + 2) (by omega) (by omega)
    have hO := p_mors (D := D) hF (ih (dp + 1) D (by omega) (by omega))
    by_cases c1 : pk B n (sk B n p) = 33
    · have hlt := pkp_lt (show pk B n (sk B n p) ≠ 0 by omega)
      have hv := hl.2.2.1 (by omega)
      obtain ⟨υ, g1, g2, g3⟩ := p_goes1 (Z := Z) ho1 (by omega) hlt
      rw [if_pos c1, hv, c1, if_pos (show i32 ((33 : Nat) : Int) < (97 : Int32) by decide), if_pos (show i32 ((33 : Nat) : Int) = (33 : Int32) from rfl), g1, obs]
      dsimp only
      rw [if_neg n10, if_pos (show i32 ((33 : Nat) : Int) = (33 : Int32) from rfl)]
      refine resM_pre g2 ?_
      obtain ⟨υ2, u1, u2, u3, u4⟩ := hU _ _ _ g3
      rw [u1, obs]
      dsimp only
      obtain ⟨w1, w2⟩ := sayU_PG B n d (sk B n p + 1) hlt
      by_cases e : (sayU B n d (sk B n p + 1)).1 = true
      · have u5 := u3 e
        obtain ⟨w3, w4⟩ := w2 e
        have hlen0 := ho.2.2.2.2.2.2
        obtain ⟨υ3, d1, d2, d3⟩ := p_sign (Z := Z) (c := 6) u5 (by omega) (by rw [List.length_append]; omega)
        obtain ⟨v1, v2⟩ := okM_up d3
        rw [if_pos e, u5.2.1, if_pos m1, show (6 : Int32) = i32 6 from rfl, d1, obs, v1]
        refine ⟨_, rfl, fr_tr u2 (fr_tr d2 (fr_sI _ _ (by decide))), fun _ => ?_, fun z => by cases z⟩
        rw [List.append_assoc] at v2
        exact v2
      · have e2 : (sayU B n d (sk B n p + 1)).1 = false := by cases h : (sayU B n d (sk B n p + 1)).1 with
          | false => rfl
          | true => exact absurd h e
        have hf := u4 e2
        have hne : ¬ υ2.1 200 7 = (-1 : Int32) := by
          rw [hf, show (-1 : Int32) = i32 (-1) from rfl, i32_eq (by have := ho.1.1; omega)]; omega
        rw [if_neg e, if_neg hne]
        refine ⟨_, rfl, fr_tr u2 (fr_sI _ _ (by decide)), (fun z => by cases z), fun _ => ?_⟩
        rw [sI_j _ _ (by omega)]; exact hf
    · rw [if_neg c1]
      by_cases c2 : pk B n (sk B n p) = 40
      · have hlt := pkp_lt (show pk B n (sk B n p) ≠ 0 by omega)
        have hv := hl.2.2.1 (by omega)
        obtain ⟨υ, g1, g2, g3⟩ := p_goes1 (Z := Z) ho1 (by omega) hlt
        rw [if_pos c2, hv, c2, if_pos (show i32 ((40 : Nat) : Int) < (97 : Int32) by decide), if_neg (show ¬ i32 ((40 : Nat) : Int) = (33 : Int32) by decide), if_pos (show i32 ((40 : Nat) : Int) = (40 : Int32) from rfl), g1, obs]
        dsimp only
        rw [if_neg n10, if_neg (show ¬ i32 ((40 : Nat) : Int) = (33 : Int32) by decide)]
        refine resM_pre g2 ?_
        obtain ⟨υ2, u1, u2, u3, u4⟩ := hO _ _ _ g3
        rw [u1, obs]
        dsimp only
        obtain ⟨w1, w2⟩ := sayO_PG B n d (sk B n p + 1) hlt
        by_cases e : (sayO B n d (sk B n p + 1)).1 = true
        · have u5 := u3 e
          have ht := p_takes (Z := Z) (c := 41) hF (by omega) u5
          rw [if_pos e]
          by_cases e3 : pk B n (sk B n (sayO B n d (sk B n p + 1)).2.1) = 41
          · rw [if_pos e3] at ht ⊢
            obtain ⟨υ3, t1, t2, t3⟩ := ht
            have t1 : f_X12_takes F Z υ2 (41 : Int32) = some (1, υ3) := t1
            obtain ⟨v1, v2⟩ := okM_up t3
            rw [t1, obs]
            dsimp only
            rw [if_neg n10, v1]
            exact ⟨_, rfl, fr_tr u2 (fr_tr t2 (fr_sI _ _ (by decide))), fun _ => v2, fun z => by cases z⟩
          · rw [if_neg e3] at ht ⊢
            obtain ⟨υ3, t1, t2, t3⟩ := ht
            have t1 : f_X12_takes F Z υ2 (41 : Int32) = some (0, υ3) := t1
            rw [t1, obs]
            dsimp only
            rw [if_pos rfl]
            exact ⟨_, rfl, fr_tr u2 t2, (fun z => by cases z), fun _ => t3⟩
        · have e2 : (sayO B n d (sk B n p + 1)).1 = false := by cases h : (sayO B n d (sk B n p + 1)).1 with
            | false => rfl
            | true => exact absurd h e
          have hf := u4 e2
          have hn := ho.1.1
          have hne : ¬ υ2.1 200 7 = (-1 : Int32) := by
            rw [hf, show (-1 : Int32) = i32 (-1) from rfl, i32_eq (by omega)]; omega
          rw [if_neg e]
          unfold f_X12_takes
          rw [if_neg hne, p_fails2 (by omega) hf, obs]
          dsimp only
          rw [if_pos (Or.inl rfl), obs]
          dsimp only
          rw [if_pos rfl]
          exact ⟨_, rfl, u2, (fun z => by cases z), fun _ => hf⟩
      · rw [if_neg c2]
        exact p_mname ho1 ⟨c1, c2⟩ _ _
/-! the whole reading -/
def tpM (B : Nat → Nat) (n : Nat) (τ : hSt) : Prop := n ≤ 200 ∧ τ.1 200 3 = i32 (n : Int) ∧ ∀ j, j < n → τ.1 201 j = i32 (sgB (B j)) ∧ 1 ≤ B j ∧ B j ≤ 255
def WR : List Nat := [202, 203, 204, 205, 206, 30002, 30004, 30005, 30006, 30007, 30008, 30009, 30016]
theorem WM_WR : ∀ x ∈ WM, x ∈ WR := by decide
theorem p_rs_L {R : Nat} {K : hSt → Option (Int32 × hSt)} (hR : R < 21) : ∀ (k t N : Nat) (τ : hSt), t + k = 6 → k < N → τ.1 200 16 = i32 (R : Int) → (∀ x, x < t → τ.1 205 (6 * R + x) = i32 0) → ∃ υ, f_X12_readSaying_L40 K N τ (i32 (t : Int)) = K υ ∧ fr [205] τ υ ∧ ∀ x, x < 6 → υ.1 205 (6 * R + x) = i32 0 := by
  intro k
  induction k with
  | zero =>
    intro t N τ ht hN h16 h
    obtain ⟨N, rfl⟩ : ∃ q, N = q + 1 := ⟨N - 1, by omega⟩
    obtain rfl : t = 6 := by omega
    refine ⟨τ, ?_, fr_rf _ _, h⟩
    rw [f_X12_readSaying_L40]
    simp (disch := omega) only [↓reduceIte, iT_lt, iF_lt, iT_le, iF_le, iT_eq, iF_eq, nT_lt, nF_lt, nT_le, nF_le, nT_eq, nF_eq, and_self, and_true, true_and, and_false, false_and, not_true_eq_false, not_false_eq_true, ne_eq, or_self, or_false, false_or, or_true, true_or, Option.bind_some, i32_lit, i64_lit, i32_add, i32_sub, i32_mul, i32_neg, i64_add, i64_sub, i64_neg, i32_lt, i32_le, i32_eq, i64_lt, i64_le, i64_eq, i32_cn, i32_cl, i32_l, i64_i, i32_nat, Int.toNat_natCast, sI_2, sJ_1, sJ_22, sR_1, sR_21, sI_t, sI_r, sI_j, sJ_t, sJ_r, sJ_j, sR_t, sR_r, sR_j]
  | succ k ih =>
    intro t N τ ht hN h16 h
    obtain ⟨N, rfl⟩ : ∃ q, N = q + 1 := ⟨N - 1, by omega⟩
    have e2 : (6 * (R : Int) + (t : Int)).toNat = 6 * R + t := by omega
    obtain ⟨υ, a1, a2, a3⟩ := ih (t + 1) N (sI τ 205 (6 * R + t) (i32 0)) (by omega) (by omega) (by rw [sI_r _ _ (by omega)]; exact h16) (fun x hx => by
      by_cases e : x = t
      · rw [sI_t _ _ ⟨rfl, by omega⟩]
      · rw [sI_j _ _ (by omega)]; exact h x (by omega))
    refine ⟨υ, ?_, fr_tr (fr_sI τ _ (by rw [cd_a rfl]; decide)) a2, a3⟩
    rw [← a1, f_X12_readSaying_L40]
    simp (disch := omega) only [↓reduceIte, iT_lt, iF_lt, iT_le, iF_le, iT_eq, iF_eq, nT_lt, nF_lt, nT_le, nF_le, nT_eq, nF_eq, and_self, and_true, true_and, and_false, false_and, not_true_eq_false, not_false_eq_true, ne_eq, or_self, or_false, false_or, or_true, true_or, Option.bind_some, i32_lit, i64_lit, i32_add, i32_sub, i32_mul, i32_neg, i64_add, i64_sub, i64_neg, i32_lt, i32_le, i32_eq, i64_lt, i64_le, i64_eq, i32_cn, i32_cl, i32_l, i64_i, i32_nat, Int.toNat_natCast, sI_2, sJ_1, sJ_22, sR_1, sR_21, sI_t, sI_r, sI_j, sJ_t, sJ_r, sJ_j, sR_t, sR_r, sR_j, h16, e2]
    rfl
def resR (B : Nat → Nat) (n R : Nat) (τ : hSt) (x : Option (Int32 × hSt)) : Prop := ∃ υ, x = some (if sayF B n = none then 1 else 0, υ) ∧ fr WR τ υ ∧ υ.1 200 7 = i32 (oF (sayF B n)) ∧ (sayF B n = none → sgM υ R (sayO B n 8 0).2.2)
theorem resR_pre {B : Nat → Nat} {n R : Nat} {τ τ1 : hSt} {x : Option (Int32 × hSt)} (hf : fr WR τ τ1) (h : resR B n R τ1 x) : resR B n R τ x := h.elim fun υ q => ⟨υ, q.1, fr_tr hf q.2.1, q.2.2⟩
def rsK (F : Nat) (Z : hZ) : hSt → Option (Int32 × hSt) := fun σ1 => (f_X12_begin Z σ1 201 (0 : Int32) (σ1.1 200 3) (8 : Int32)).bind fun q6 => (f_X12_ors F Z q6.2).bind fun q7 => (if (q7.2.1 200 7) = (-1 : Int32) then (f_X12_look F Z q7.2).bind fun q10 => (if q10.1 = (-1 : Int32) then (if (q10.2.1 200 7) = (-1 : Int32) then some ((1 : Int32), q10.2) else some ((0 : Int32), q10.2)) else (f_X12_fails Z q10.2).bind fun q13 => (if (q13.2.1 200 7) = (-1 : Int32) then some ((1 : Int32), q13.2) else some ((0 : Int32), q13.2))) else (if (q7.2.1 200 7) = (-1 : Int32) then some ((1 : Int32), q7.2) else some ((0 : Int32), q7.2)))
theorem p_mreadS {B : Nat → Nat} {n R F : Nat} {Z : hZ} {τ : hSt} (hF : 300 ≤ F) (h : tpM B n τ) (hR : τ.1 200 15 = i32 (R : Int)) (hR2 : R < 21) : resR B n R τ (f_X12_readSaying F Z τ) := by
  obtain ⟨h1, h2, h3⟩ := h
  unfold f_X12_readSaying
  rw [hR]
  rw [if_neg (by rw [i32_cn (by omega), show (0 : Int32) = i32 0 from rfl, i32_lt (by omega)]; omega), if_neg (by rw [i32_cn (by omega), show (0 : Int32) = i32 0 from rfl, i32_lt (by omega)]; omega), if_neg (by rw [i32_cn (by omega), show (0 : Int32) = i32 0 from rfl, i32_lt (by omega)]; omega), i32_cn (by omega)]
  obtain ⟨τ1, hτ⟩ : ∃ q, q = sI (sI (sI (sI τ 200 16 (i32 (R : Int))) 203 R (0 : Int32)) 204 R (0 : Int32)) 206 R (0 : Int32) := ⟨_, rfl⟩
  have f1 : fr WR τ τ1 := by
    rw [hτ]
    exact fr_tr (fr_tr (fr_tr (fr_sI _ _ (by decide)) (fr_sI _ _ (by rw [cd_a rfl]; decide))) (fr_sI _ _ (by rw [cd_a rfl]; decide))) (fr_sI _ _ (by rw [cd_a rfl]; decide))
  have k16 : τ1.1 200 16 = i32 (R : Int) := by rw [hτ]; simp (disch := omega) only [↓reduceIte, iT_lt, iF_lt, iT_le, iF_le, iT_eq, iF_eq, nT_lt, nF_lt, nT_le, nF_le, nT_eq, nF_eq, and_self, and_true, true_and, and_false, false_and, not_true_eq_false, not_false_eq_true, ne_eq, or_self, or_false, false_or, or_true, true_or, Option.bind_some, i32_lit, i64_lit, i32_add, i32_sub, i32_mul, i32_neg, i64_add, i64_sub, i64_neg, i32_lt, i32_le, i32_eq, i64_lt, i64_le, i64_eq, i32_cn, i32_cl, i32_l, i64_i, i32_nat, Int.toNat_natCast, sI_2, sJ_1, sJ_22, sR_1, sR_21, sI_t, sI_r, sI_j, sJ_t, sJ_r, sJ_j, sR_t, sR_r, sR_j]
  have k203 : τ1.1 203 R = i32 0 := by rw [hτ]; simp (disch := omega) only [↓reduceIte, iT_lt, iF_lt, iT_le, iF_le, iT_eq, iF_eq, nT_lt, nF_lt, nT_le, nF_le, nT_eq, nF_eq, and_self, and_true, true_and, and_false, false_and, not_true_eq_false, not_false_eq_true, ne_eq, or_self, or_false, false_or, or_true, true_or, Option.bind_some, i32_lit, i64_lit, i32_add, i32_sub, i32_mul, i32_neg, i64_add, i64_sub, i64_neg, i32_lt, i32_le, i32_eq, i64_lt, i64_le, i64_eq, i32_cn, i32_cl, i32_l, i64_i, i32_nat, Int.toNat_natCast, sI_2, sJ_1, sJ_22, sR_1, sR_21, sI_t, sI_r, sI_j, sJ_t, sJ_r, sJ_j, sR_t, sR_r, sR_j]
  have k204 : τ1.1 204 R = i32 0 := by rw [hτ]; simp (disch := omega) only [↓reduceIte, iT_lt, iF_lt, iT_le, iF_le, iT_eq, iF_eq, nT_lt, nF_lt, nT_le, nF_le, nT_eq, nF_eq, and_self, and_true, true_and, and_false, false_and, not_true_eq_false, not_false_eq_true, ne_eq, or_self, or_false, false_or, or_true, true_or, Option.bind_some, i32_lit, i64_lit, i32_add, i32_sub, i32_mul, i32_neg, i64_add, i64_sub, i64_neg, i32_lt, i32_le, i32_eq, i64_lt, i64_le, i64_eq, i32_cn, i32_cl, i32_l, i64_i, i32_nat, Int.toNat_natCast, sI_2, sJ_1, sJ_22, sR_1, sR_21, sI_t, sI_r, sI_j, sJ_t, sJ_r, sJ_j, sR_t, sR_r, sR_j]
  have k206 : τ1.1 206 R = i32 0 := by rw [hτ]; simp (disch := omega) only [↓reduceIte, iT_lt, iF_lt, iT_le, iF_le, iT_eq, iF_eq, nT_lt, nF_lt, nT_le, nF_le, nT_eq, nF_eq, and_self, and_true, true_and, and_false, false_and, not_true_eq_false, not_false_eq_true, ne_eq, or_self, or_false, false_or, or_true, true_or, Option.bind_some, i32_lit, i64_lit, i32_add, i32_sub, i32_mul, i32_neg, i64_add, i64_sub, i64_neg, i32_lt, i32_le, i32_eq, i64_lt, i64_le, i64_eq, i32_cn, i32_cl, i32_l, i64_i, i32_nat, Int.toNat_natCast, sI_2, sJ_1, sJ_22, sR_1, sR_21, sI_t, sI_r, sI_j, sJ_t, sJ_r, sJ_j, sR_t, sR_r, sR_j]
  have k3 : τ1.1 200 3 = i32 (n : Int) := by rw [hτ]; simp (disch := omega) only [↓reduceIte, iT_lt, iF_lt, iT_le, iF_le, iT_eq, iF_eq, nT_lt, nF_lt, nT_le, nF_le, nT_eq, nF_eq, and_self, and_true, true_and, and_false, false_and, not_true_eq_false, not_false_eq_true, ne_eq, or_self, or_false, false_or, or_true, true_or, Option.bind_some, i32_lit, i64_lit, i32_add, i32_sub, i32_mul, i32_neg, i64_add, i64_sub, i64_neg, i32_lt, i32_le, i32_eq, i64_lt, i64_le, i64_eq, i32_cn, i32_cl, i32_l, i64_i, i32_nat, Int.toNat_natCast, sI_2, sJ_1, sJ_22, sR_1, sR_21, sI_t, sI_r, sI_j, sJ_t, sJ_r, sJ_j, sR_t, sR_r, sR_j]; exact h2
  have k201 : τ1.1 201 = τ.1 201 := by rw [hτ]; simp (disch := omega) only [↓reduceIte, iT_lt, iF_lt, iT_le, iF_le, iT_eq, iF_eq, nT_lt, nF_lt, nT_le, nF_le, nT_eq, nF_eq, and_self, and_true, true_and, and_false, false_and, not_true_eq_false, not_false_eq_true, ne_eq, or_self, or_false, false_or, or_true, true_or, Option.bind_some, i32_lit, i64_lit, i32_add, i32_sub, i32_mul, i32_neg, i64_add, i64_sub, i64_neg, i32_lt, i32_le, i32_eq, i64_lt, i64_le, i64_eq, i32_cn, i32_cl, i32_l, i64_i, i32_nat, Int.toNat_natCast, sI_2, sJ_1, sJ_22, sR_1, sR_21, sI_t, sI_r, sI_j, sJ_t, sJ_r, sJ_j, sR_t, sR_r, sR_j]
  rw [← hτ]
  refine resR_pre f1 ?_
  obtain ⟨τ2, a1, a2, a3⟩ := p_rs_L (K := rsK F Z) hR2 6 0 F τ1 (by omega) (by omega) k16 (fun x hx => absurd hx (Nat.not_lt_zero x))
  have a1 : f_X12_readSaying_L40 (rsK F Z) F τ1 (i32 0) = rsK F Z τ2 := a1
  show resR B n R τ1 (f_X12_readSaying_L40 (rsK F Z) F τ1 (i32 0))
  rw [a1]
  refine resR_pre (fr_mono a2 (by decide)) ?_
  unfold rsK
  have j3 : τ2.1 200 3 = i32 (n : Int) := (a2.1 200 3 (by decide)).trans k3
  have j201 : τ2.1 201 = τ.1 201 := (fr_I a2 201 rfl (by decide)).trans k201
  rw [j3]
  unfold f_X12_begin
  rw [obs]
  dsimp only
  obtain ⟨τ3, hτ3⟩ : ∃ q, q = sI (sI (sI (sI (sI (sI (sR τ2 200 2 (some 201)) 200 4 (0 : Int32)) 200 5 (i32 (n : Int))) 200 6 (0 : Int32)) 200 7 (-1 : Int32)) 200 8 (0 : Int32)) 200 9 (8 : Int32) := ⟨_, rfl⟩
  have f3 : fr WR τ2 τ3 := by
    rw [hτ3]
    exact fr_tr (fr_tr (fr_tr (fr_tr (fr_tr (fr_tr (fr_sR _ _ (by decide)) (fr_sI _ _ (by decide))) (fr_sI _ _ (by decide))) (fr_sI _ _ (by decide))) (fr_sI _ _ (by decide))) (fr_sI _ _ (by decide))) (fr_sI _ _ (by decide))
  have ok3 : okM B n τ3 R 0 [] 0 := by
    rw [hτ3]
    refine ⟨⟨h1, Nat.zero_le _, rfl, by show 0 + n ≤ 200; omega, ?_, ?_, ?_, ?_, fun j hj => ?_⟩, ?_, ?_, ?_, ?_, ⟨hR2, by simp, ?_, fun i hi => absurd hi (by simp), ?_, fun k hk => ?_, ?_⟩, by simp⟩
    · simp (disch := omega) only [↓reduceIte, iT_lt, iF_lt, iT_le, iF_le, iT_eq, iF_eq, nT_lt, nF_lt, nT_le, nF_le, nT_eq, nF_eq, and_self, and_true, true_and, and_false, false_and, not_true_eq_false, not_false_eq_true, ne_eq, or_self, or_false, false_or, or_true, true_or, Option.bind_some, i32_lit, i64_lit, i32_add, i32_sub, i32_mul, i32_neg, i64_add, i64_sub, i64_neg, i32_lt, i32_le, i32_eq, i64_lt, i64_le, i64_eq, i32_cn, i32_cl, i32_l, i64_i, i32_nat, Int.toNat_natCast, sI_2, sJ_1, sJ_22, sR_1, sR_21, sI_t, sI_r, sI_j, sJ_t, sJ_r, sJ_j, sR_t, sR_r, sR_j]
    · simp (disch := omega) only [↓reduceIte, iT_lt, iF_lt, iT_le, iF_le, iT_eq, iF_eq, nT_lt, nF_lt, nT_le, nF_le, nT_eq, nF_eq, and_self, and_true, true_and, and_false, false_and, not_true_eq_false, not_false_eq_true, ne_eq, or_self, or_false, false_or, or_true, true_or, Option.bind_some, i32_lit, i64_lit, i32_add, i32_sub, i32_mul, i32_neg, i64_add, i64_sub, i64_neg, i32_lt, i32_le, i32_eq, i64_lt, i64_le, i64_eq, i32_cn, i32_cl, i32_l, i64_i, i32_nat, Int.toNat_natCast, sI_2, sJ_1, sJ_22, sR_1, sR_21, sI_t, sI_r, sI_j, sJ_t, sJ_r, sJ_j, sR_t, sR_r, sR_j]
    · simp (disch := omega) only [↓reduceIte, iT_lt, iF_lt, iT_le, iF_le, iT_eq, iF_eq, nT_lt, nF_lt, nT_le, nF_le, nT_eq, nF_eq, and_self, and_true, true_and, and_false, false_and, not_true_eq_false, not_false_eq_true, ne_eq, or_self, or_false, false_or, or_true, true_or, Option.bind_some, i32_lit, i64_lit, i32_add, i32_sub, i32_mul, i32_neg, i64_add, i64_sub, i64_neg, i32_lt, i32_le, i32_eq, i64_lt, i64_le, i64_eq, i32_cn, i32_cl, i32_l, i64_i, i32_nat, Int.toNat_natCast, sI_2, sJ_1, sJ_22, sR_1, sR_21, sI_t, sI_r, sI_j, sJ_t, sJ_r, sJ_j, sR_t, sR_r, sR_j]
    · simp (disch := omega) only [↓reduceIte, iT_lt, iF_lt, iT_le, iF_le, iT_eq, iF_eq, nT_lt, nF_lt, nT_le, nF_le, nT_eq, nF_eq, and_self, and_true, true_and, and_false, false_and, not_true_eq_false, not_false_eq_true, ne_eq, or_self, or_false, false_or, or_true, true_or, Option.bind_some, i32_lit, i64_lit, i32_add, i32_sub, i32_mul, i32_neg, i64_add, i64_sub, i64_neg, i32_lt, i32_le, i32_eq, i64_lt, i64_le, i64_eq, i32_cn, i32_cl, i32_l, i64_i, i32_nat, Int.toNat_natCast, sI_2, sJ_1, sJ_22, sR_1, sR_21, sI_t, sI_r, sI_j, sJ_t, sJ_r, sJ_j, sR_t, sR_r, sR_j]
    · rw [Nat.zero_add]; simp (disch := omega) only [↓reduceIte, iT_lt, iF_lt, iT_le, iF_le, iT_eq, iF_eq, nT_lt, nF_lt, nT_le, nF_le, nT_eq, nF_eq, and_self, and_true, true_and, and_false, false_and, not_true_eq_false, not_false_eq_true, ne_eq, or_self, or_false, false_or, or_true, true_or, Option.bind_some, i32_lit, i64_lit, i32_add, i32_sub, i32_mul, i32_neg, i64_add, i64_sub, i64_neg, i32_lt, i32_le, i32_eq, i64_lt, i64_le, i64_eq, i32_cn, i32_cl, i32_l, i64_i, i32_nat, Int.toNat_natCast, sI_2, sJ_1, sJ_22, sR_1, sR_21, sI_t, sI_r, sI_j, sJ_t, sJ_r, sJ_j, sR_t, sR_r, sR_j]; rw [j201]; exact h3 j hj
    · simp (disch := omega) only [↓reduceIte, iT_lt, iF_lt, iT_le, iF_le, iT_eq, iF_eq, nT_lt, nF_lt, nT_le, nF_le, nT_eq, nF_eq, and_self, and_true, true_and, and_false, false_and, not_true_eq_false, not_false_eq_true, ne_eq, or_self, or_false, false_or, or_true, true_or, Option.bind_some, i32_lit, i64_lit, i32_add, i32_sub, i32_mul, i32_neg, i64_add, i64_sub, i64_neg, i32_lt, i32_le, i32_eq, i64_lt, i64_le, i64_eq, i32_cn, i32_cl, i32_l, i64_i, i32_nat, Int.toNat_natCast, sI_2, sJ_1, sJ_22, sR_1, sR_21, sI_t, sI_r, sI_j, sJ_t, sJ_r, sJ_j, sR_t, sR_r, sR_j]
    · simp (disch := omega) only [↓reduceIte, iT_lt, iF_lt, iT_le, iF_le, iT_eq, iF_eq, nT_lt, nF_lt, nT_le, nF_le, nT_eq, nF_eq, and_self, and_true, true_and, and_false, false_and, not_true_eq_false, not_false_eq_true, ne_eq, or_self, or_false, false_or, or_true, true_or, Option.bind_some, i32_lit, i64_lit, i32_add, i32_sub, i32_mul, i32_neg, i64_add, i64_sub, i64_neg, i32_lt, i32_le, i32_eq, i64_lt, i64_le, i64_eq, i32_cn, i32_cl, i32_l, i64_i, i32_nat, Int.toNat_natCast, sI_2, sJ_1, sJ_22, sR_1, sR_21, sI_t, sI_r, sI_j, sJ_t, sJ_r, sJ_j, sR_t, sR_r, sR_j]
    · simp (disch := omega) only [↓reduceIte, iT_lt, iF_lt, iT_le, iF_le, iT_eq, iF_eq, nT_lt, nF_lt, nT_le, nF_le, nT_eq, nF_eq, and_self, and_true, true_and, and_false, false_and, not_true_eq_false, not_false_eq_true, ne_eq, or_self, or_false, false_or, or_true, true_or, Option.bind_some, i32_lit, i64_lit, i32_add, i32_sub, i32_mul, i32_neg, i64_add, i64_sub, i64_neg, i32_lt, i32_le, i32_eq, i64_lt, i64_le, i64_eq, i32_cn, i32_cl, i32_l, i64_i, i32_nat, Int.toNat_natCast, sI_2, sJ_1, sJ_22, sR_1, sR_21, sI_t, sI_r, sI_j, sJ_t, sJ_r, sJ_j, sR_t, sR_r, sR_j]
    · simp (disch := omega) only [↓reduceIte, iT_lt, iF_lt, iT_le, iF_le, iT_eq, iF_eq, nT_lt, nF_lt, nT_le, nF_le, nT_eq, nF_eq, and_self, and_true, true_and, and_false, false_and, not_true_eq_false, not_false_eq_true, ne_eq, or_self, or_false, false_or, or_true, true_or, Option.bind_some, i32_lit, i64_lit, i32_add, i32_sub, i32_mul, i32_neg, i64_add, i64_sub, i64_neg, i32_lt, i32_le, i32_eq, i64_lt, i64_le, i64_eq, i32_cn, i32_cl, i32_l, i64_i, i32_nat, Int.toNat_natCast, sI_2, sJ_1, sJ_22, sR_1, sR_21, sI_t, sI_r, sI_j, sJ_t, sJ_r, sJ_j, sR_t, sR_r, sR_j]; exact (a2.1 200 16 (by decide)).trans k16
    · simp (disch := omega) only [↓reduceIte, iT_lt, iF_lt, iT_le, iF_le, iT_eq, iF_eq, nT_lt, nF_lt, nT_le, nF_le, nT_eq, nF_eq, and_self, and_true, true_and, and_false, false_and, not_true_eq_false, not_false_eq_true, ne_eq, or_self, or_false, false_or, or_true, true_or, Option.bind_some, i32_lit, i64_lit, i32_add, i32_sub, i32_mul, i32_neg, i64_add, i64_sub, i64_neg, i32_lt, i32_le, i32_eq, i64_lt, i64_le, i64_eq, i32_cn, i32_cl, i32_l, i64_i, i32_nat, Int.toNat_natCast, sI_2, sJ_1, sJ_22, sR_1, sR_21, sI_t, sI_r, sI_j, sJ_t, sJ_r, sJ_j, sR_t, sR_r, sR_j]; exact (congrFun (fr_I a2 203 rfl (by decide)) R).trans k203
    · simp (disch := omega) only [↓reduceIte, iT_lt, iF_lt, iT_le, iF_le, iT_eq, iF_eq, nT_lt, nF_lt, nT_le, nF_le, nT_eq, nF_eq, and_self, and_true, true_and, and_false, false_and, not_true_eq_false, not_false_eq_true, ne_eq, or_self, or_false, false_or, or_true, true_or, Option.bind_some, i32_lit, i64_lit, i32_add, i32_sub, i32_mul, i32_neg, i64_add, i64_sub, i64_neg, i32_lt, i32_le, i32_eq, i64_lt, i64_le, i64_eq, i32_cn, i32_cl, i32_l, i64_i, i32_nat, Int.toNat_natCast, sI_2, sJ_1, sJ_22, sR_1, sR_21, sI_t, sI_r, sI_j, sJ_t, sJ_r, sJ_j, sR_t, sR_r, sR_j]; exact (congrFun (fr_I a2 204 rfl (by decide)) R).trans k204
    · simp (disch := omega) only [↓reduceIte, iT_lt, iF_lt, iT_le, iF_le, iT_eq, iF_eq, nT_lt, nF_lt, nT_le, nF_le, nT_eq, nF_eq, and_self, and_true, true_and, and_false, false_and, not_true_eq_false, not_false_eq_true, ne_eq, or_self, or_false, false_or, or_true, true_or, Option.bind_some, i32_lit, i64_lit, i32_add, i32_sub, i32_mul, i32_neg, i64_add, i64_sub, i64_neg, i32_lt, i32_le, i32_eq, i64_lt, i64_le, i64_eq, i32_cn, i32_cl, i32_l, i64_i, i32_nat, Int.toNat_natCast, sI_2, sJ_1, sJ_22, sR_1, sR_21, sI_t, sI_r, sI_j, sJ_t, sJ_r, sJ_j, sR_t, sR_r, sR_j]; exact a3 k hk
    · simp (disch := omega) only [↓reduceIte, iT_lt, iF_lt, iT_le, iF_le, iT_eq, iF_eq, nT_lt, nF_lt, nT_le, nF_le, nT_eq, nF_eq, and_self, and_true, true_and, and_false, false_and, not_true_eq_false, not_false_eq_true, ne_eq, or_self, or_false, false_or, or_true, true_or, Option.bind_some, i32_lit, i64_lit, i32_add, i32_sub, i32_mul, i32_neg, i64_add, i64_sub, i64_neg, i32_lt, i32_le, i32_eq, i64_lt, i64_le, i64_eq, i32_cn, i32_cl, i32_l, i64_i, i32_nat, Int.toNat_natCast, sI_2, sJ_1, sJ_22, sR_1, sR_21, sI_t, sI_r, sI_j, sJ_t, sJ_r, sJ_j, sR_t, sR_r, sR_j]; exact (congrFun (fr_I a2 206 rfl (by decide)) R).trans k206
  rw [← hτ3]
  refine resR_pre f3 ?_
  obtain ⟨υ, b1, b2, b3, b4⟩ := p_mors (D := 38) hF (p_munit (Z := Z) (R := R) hF 8 0 38 (by omega) (by omega)) τ3 0 [] ok3
  have b1 : f_X12_ors F Z τ3 = some ((), υ) := b1
  rw [b1, obs]
  dsimp only
  have g := (sayO_PG B n 8 0 (Nat.zero_le _)).1
  by_cases c : (sayO B n 8 0).1 = true
  · have c1 := b3 c
    have hs := sk_rg (B := B) c1.1.2.1
    have c2 := okM_at c1 hs.2 hs.1
    have hl := lk_cases (q := sk B n (sayO B n 8 0).2.1) (txM_b c1.1)
    rw [c1.2.1, if_pos m1, p_look hF c1.1, obs]
    dsimp only
    have hsF : sayF B n = if sk B n (sayO B n 8 0).2.1 < n then some (sk B n (sayO B n 8 0).2.1) else none := by
      unfold sayF; rw [if_pos c]
    by_cases e : sk B n (sayO B n 8 0).2.1 < n
    · rw [if_pos e] at hsF
      have hlk : lkV B n (sk B n (sayO B n 8 0).2.1) = (B (sk B n (sayO B n 8 0).2.1) : Int) := by unfold lkV; rw [if_pos e]
      rw [hlk, if_neg (by rw [show (-1 : Int32) = i32 (-1) from rfl, i32_eq (by omega)]; omega), p_fails c2.2.1 c2.1.2.2.2.2.2.2.2.1, obs]
      dsimp only
      rw [sI_t _ _ ⟨rfl, rfl⟩, if_neg (by rw [show (-1 : Int32) = i32 (-1) from rfl, i32_eq (by omega)]; omega)]
      unfold resR
      rw [hsF]
      exact ⟨_, rfl, fr_tr (fr_mono b2 WM_WR) (fr_tr (fr_sI _ _ (by decide)) (fr_sI _ _ (by decide))), sI_t _ _ ⟨rfl, rfl⟩, fun z => by cases z⟩
    · rw [if_neg e] at hsF
      have hlk : lkV B n (sk B n (sayO B n 8 0).2.1) = -1 := by unfold lkV; rw [if_neg e]
      rw [hlk, if_pos m1, c2.2.1, if_pos m1]
      unfold resR
      rw [hsF]
      exact ⟨_, rfl, fr_tr (fr_mono b2 WM_WR) (fr_sI _ _ (by decide)), c2.2.1, fun _ => c2.2.2.2.2.2.1⟩
  · have c2 : (sayO B n 8 0).1 = false := by cases h : (sayO B n 8 0).1 with
      | false => rfl
      | true => exact absurd h c
    have hf := b4 c2
    have hne : ¬ υ.1 200 7 = (-1 : Int32) := by
      rw [hf, show (-1 : Int32) = i32 (-1) from rfl, i32_eq (by omega)]; omega
    have hsF : sayF B n = some (sayO B n 8 0).2.1 := by unfold sayF; rw [if_neg c]
    rw [if_neg hne, if_neg hne]
    unfold resR
    rw [hsF]
    exact ⟨_, rfl, fr_mono b2 WM_WR, hf, fun z => by cases z⟩
