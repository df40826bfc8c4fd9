/-! ROOMS, the model's way: all second tales -/
def inN (t f w s x : Nat) : Nat → Nat
  | 0 => 0
  | y + 1 => inN t f w s x y + tbN t x y (bt2 f x) (bt2 s (3 * bt2 w x + y))
theorem inN_le (t f w s x : Nat) : ∀ y, inN t f w s x y ≤ y
  | 0 => Nat.le_refl _
  | y + 1 => by
    have := inN_le t f w s x y
    have := tbN_le t x y (bt2 f x) (bt2 s (3 * bt2 w x + y))
    rw [inN]; omega
def nSS (t f w s : Nat) : Nat → Nat
  | 0 => 0
  | x + 1 => nSS t f w s x + inN t f w s x 3
theorem nSS_le (t f w s : Nat) : ∀ x, nSS t f w s x ≤ 3 * x
  | 0 => Nat.le_refl _
  | x + 1 => by
    have := nSS_le t f w s x
    have := inN_le t f w s x 3
    rw [nSS]; omega
theorem p_in {t f w s x a : Nat} {y3 y4 : Int32} (ht : t < 68719476736) (hf : f < 8) (hw : w < 8) (hs : s < 64) (hx : x < 3) (K : Int32 → Option (Int32 × hSt)) : ∀ (n y N : Nat), y + n = 3 → n < N → f_X12_rooms_L93 (i64 (t : Int)) y3 y4 (i32 (f : Int)) (i32 (w : Int)) (i32 (s : Int)) (i32 (x : Int)) K N (i32 ((a + inN t f w s x y : Nat) : Int)) (i32 (y : Int)) = K (i32 ((a + inN t f w s x 3 : Nat) : Int)) := by
  intro n
  induction n with
  | zero =>
    intro y N hy hN
    obtain ⟨N, rfl⟩ : ∃ q, N = q + 1 := ⟨N - 1, by omega⟩
    obtain rfl : y = 3 := by omega
    rw [f_X12_rooms_L93]
    simp (disch := omega) only [↓reduceIte, iT_lt, iF_lt, iT_le, iF_le, iT_eq, iF_eq, nT_lt, nF_lt, nT_le, nF_le, nT_eq, nF_eq, and_self, and_true, true_and, and_false, false_and, not_true_eq_false, not_false_eq_true, ne_eq, or_self, or_false, false_or, or_true, true_or, Option.bind_some, i32_lit, i64_lit, i32_add, i32_sub, i32_mul, i32_neg, i64_add, i64_sub, i64_neg, i32_lt, i32_le, i32_eq, i64_lt, i64_le, i64_eq, i32_cn, i32_cl, i32_l, i64_i, i32_nat, Int.toNat_natCast, sI_2, sJ_1, sJ_22, sR_1, sR_21, sI_t, sI_r, sI_j, sJ_t, sJ_r, sJ_j, sR_t, sR_r, sR_j]
  | succ n ihn =>
    intro y N hy hN
    obtain ⟨N, rfl⟩ : ∃ q, N = q + 1 := ⟨N - 1, by omega⟩
    have ih := ihn (y + 1) N (by omega) (by omega)
    have e2 : (i32 (y : Int) + 1) = i32 ((y + 1 : Nat) : Int) := by rw [i32_lit, i32_add]; rfl
    have h1 := bt2_le w x
    have h2 := bt2_le f x
    have h4 := bt2_le s (3 * bt2 w x + y)
    have e3 : i32 3 * i32 (bt2 w x : Int) + i32 (y : Int) = i32 ((3 * bt2 w x + y : Nat) : Int) := by rw [i32_mul, i32_add]; rfl
    rw [← ih, f_X12_rooms_L93, e2, btI (by omega) (by omega), btI (by omega) (by omega), show (3 : Int32) = i32 3 from rfl, e3, btI hs (by omega), if_neg (by rw [i32_le (by omega)]; omega)]
    unfold f_X12_agrees
    rw [tbI ht hx (show y < 3 by omega) h2 h4, obs, i64_i, i32_add, inN, ← Nat.add_assoc]
    rfl
theorem p_xs {F t f w s : Nat} {y3 y4 : Int32} (hF : 300 ≤ F) (ht : t < 68719476736) (hf : f < 8) (hw : w < 8) (hs : s < 64) (K : Int32 → Option (Int32 × hSt)) : ∀ (n x N : Nat), x + n = 3 → n < N → f_X12_rooms_L84 F (i64 (t : Int)) y3 y4 (i32 (f : Int)) (i32 (w : Int)) (i32 (s : Int)) K N (i32 (nSS t f w s x : Int)) (i32 (x : Int)) = K (i32 (nSS t f w s 3 : Int)) := by
  intro n
  induction n with
  | zero =>
    intro y N hy hN
    obtain ⟨N, rfl⟩ : ∃ q, N = q + 1 := ⟨N - 1, by omega⟩
    obtain rfl : y = 3 := by omega
    rw [f_X12_rooms_L84]
    simp (disch := omega) only [↓reduceIte, iT_lt, iF_lt, iT_le, iF_le, iT_eq, iF_eq, nT_lt, nF_lt, nT_le, nF_le, nT_eq, nF_eq, and_self, and_true, true_and, and_false, false_and, not_true_eq_false, not_false_eq_true, ne_eq, or_self, or_false, false_or, or_true, true_or, Option.bind_some, i32_lit, i64_lit, i32_add, i32_sub, i32_mul, i32_neg, i64_add, i64_sub, i64_neg, i32_lt, i32_le, i32_eq, i64_lt, i64_le, i64_eq, i32_cn, i32_cl, i32_l, i64_i, i32_nat, Int.toNat_natCast, sI_2, sJ_1, sJ_22, sR_1, sR_21, sI_t, sI_r, sI_j, sJ_t, sJ_r, sJ_j, sR_t, sR_r, sR_j]
  | succ n ihn =>
    intro x N hy hN
    obtain ⟨N, rfl⟩ : ∃ q, N = q + 1 := ⟨N - 1, by omega⟩
    have ih := ihn (x + 1) N (by omega) (by omega)
    have e2 : (i32 (x : Int) + 1) = i32 ((x + 1 : Nat) : Int) := by rw [i32_lit, i32_add]; rfl
    rw [← ih, f_X12_rooms_L84, e2, if_neg (by rw [show (3 : Int32) = i32 3 from rfl, i32_le (by omega)]; omega)]
    exact p_in (a := nSS t f w s x) ht hf hw hs (show x < 3 by omega) (fun z8 => f_X12_rooms_L84 F (i64 (t : Int)) y3 y4 (i32 (f : Int)) (i32 (w : Int)) (i32 (s : Int)) K N z8 (i32 ((x + 1 : Nat) : Int))) 3 0 F (by omega) (by omega)
theorem p_ss {F t f w z c M : Nat} (hF : 300 ≤ F) (ht : t < 68719476736) (hf : f < 8) (hw : w < 8) (hz : z ≤ 100) (hc : (c = 0 ∧ M = 8) ∨ (c = 1 ∧ M = 64)) (K : Int32 → Option (Int32 × hSt)) : ∀ (n s N : Nat), s + n = M → n < N → f_X12_rooms_L62 F (i64 (t : Int)) (i32 (c : Int)) (i32 (f : Int)) (i32 (w : Int)) K N (i32 (rmx (fun s => nSS t f w s 3) z s : Int)) (i32 (s : Int)) = K (i32 (rmx (fun s => nSS t f w s 3) z M : Int)) := by
  intro n
  induction n with
  | zero =>
    intro s N hy hN
    obtain ⟨N, rfl⟩ : ∃ q, N = q + 1 := ⟨N - 1, by omega⟩
    obtain rfl : s = M := by omega
    rw [f_X12_rooms_L62]
    rcases hc with ⟨rfl, rfl⟩ | ⟨rfl, rfl⟩
    · simp (disch := omega) only [↓reduceIte, iT_lt, iF_lt, iT_le, iF_le, iT_eq, iF_eq, nT_lt, nF_lt, nT_le, nF_le, nT_eq, nF_eq, and_self, and_true, true_and, and_false, false_and, not_true_eq_false, not_false_eq_true, ne_eq, or_self, or_false, false_or, or_true, true_or, Option.bind_some, i32_lit, i64_lit, i32_add, i32_sub, i32_mul, i32_neg, i64_add, i64_sub, i64_neg, i32_lt, i32_le, i32_eq, i64_lt, i64_le, i64_eq, i32_cn, i32_cl, i32_l, i64_i, i32_nat, Int.toNat_natCast, sI_2, sJ_1, sJ_22, sR_1, sR_21, sI_t, sI_r, sI_j, sJ_t, sJ_r, sJ_j, sR_t, sR_r, sR_j]
    · simp (disch := omega) only [↓reduceIte, iT_lt, iF_lt, iT_le, iF_le, iT_eq, iF_eq, nT_lt, nF_lt, nT_le, nF_le, nT_eq, nF_eq, and_self, and_true, true_and, and_false, false_and, not_true_eq_false, not_false_eq_true, ne_eq, or_self, or_false, false_or, or_true, true_or, Option.bind_some, i32_lit, i64_lit, i32_add, i32_sub, i32_mul, i32_neg, i64_add, i64_sub, i64_neg, i32_lt, i32_le, i32_eq, i64_lt, i64_le, i64_eq, i32_cn, i32_cl, i32_l, i64_i, i32_nat, Int.toNat_natCast, sI_2, sJ_1, sJ_22, sR_1, sR_21, sI_t, sI_r, sI_j, sJ_t, sJ_r, sJ_j, sR_t, sR_r, sR_j]
  | succ n ihn =>
    intro s N hy hN
    obtain ⟨N, rfl⟩ : ∃ q, N = q + 1 := ⟨N - 1, by omega⟩
    have ih := ihn (s + 1) N (by omega) (by omega)
    have e2 : (i32 (s : Int) + 1) = i32 ((s + 1 : Nat) : Int) := by rw [i32_lit, i32_add]; rfl
    have l := nSS_le t f w s 3
    have l2 := rmx_le (f := fun s => nSS t f w s 3) (z := z) (c := 100) hz s (fun i _ => by have := nSS_le t f w i 3; omega)
    have k := p_xs (F := F) (y3 := i32 (c : Int)) (y4 := i32 (rmx (fun s => nSS t f w s 3) z s : Int)) hF ht hf hw (show s < 64 by omega) (fun z8 => f_X12_rooms_L62 F (i64 (t : Int)) (i32 (c : Int)) (i32 (f : Int)) (i32 (w : Int)) K N (if i32 (rmx (fun s => nSS t f w s 3) z s : Int) < z8 then z8 else i32 (rmx (fun s => nSS t f w s 3) z s : Int)) (i32 ((s + 1 : Nat) : Int))) 3 0 F (by omega) (by omega)
    have hm : (if i32 (rmx (fun s => nSS t f w s 3) z s : Int) < i32 (nSS t f w s 3 : Int) then i32 (nSS t f w s 3 : Int) else i32 (rmx (fun s => nSS t f w s 3) z s : Int)) = i32 (rmx (fun s => nSS t f w s 3) z (s + 1) : Int) := by
      rw [rmx]
      by_cases q : rmx (fun s => nSS t f w s 3) z s < nSS t f w s 3
      · rw [Nat.max_eq_right (by omega)]
        simp (disch := omega) only [↓reduceIte, iT_lt, iF_lt, iT_le, iF_le, iT_eq, iF_eq, nT_lt, nF_lt, nT_le, nF_le, nT_eq, nF_eq, and_self, and_true, true_and, and_false, false_and, not_true_eq_false, not_false_eq_true, ne_eq, or_self, or_false, false_or, or_true, true_or, Option.bind_some, i32_lit, i64_lit, i32_add, i32_sub, i32_mul, i32_neg, i64_add, i64_sub, i64_neg, i32_lt, i32_le, i32_eq, i64_lt, i64_le, i64_eq, i32_cn, i32_cl, i32_l, i64_i, i32_nat, Int.toNat_natCast, sI_2, sJ_1, sJ_22, sR_1, sR_21, sI_t, sI_r, sI_j, sJ_t, sJ_r, sJ_j, sR_t, sR_r, sR_j]
      · rw [Nat.max_eq_left (by omega)]
        simp (disch := omega) only [↓reduceIte, iT_lt, iF_lt, iT_le, iF_le, iT_eq, iF_eq, nT_lt, nF_lt, nT_le, nF_le, nT_eq, nF_eq, and_self, and_true, true_and, and_false, false_and, not_true_eq_false, not_false_eq_true, ne_eq, or_self, or_false, false_or, or_true, true_or, Option.bind_some, i32_lit, i64_lit, i32_add, i32_sub, i32_mul, i32_neg, i64_add, i64_sub, i64_neg, i32_lt, i32_le, i32_eq, i64_lt, i64_le, i64_eq, i32_cn, i32_cl, i32_l, i64_i, i32_nat, Int.toNat_natCast, sI_2, sJ_1, sJ_22, sR_1, sR_21, sI_t, sI_r, sI_j, sJ_t, sJ_r, sJ_j, sR_t, sR_r, sR_j]
    rw [← ih, f_X12_rooms_L62, e2]
    rw [← hm]
    rcases hc with ⟨rfl, rfl⟩ | ⟨rfl, rfl⟩
    · rw [if_pos (show i32 ((0 : Nat) : Int) = 0 from rfl), if_neg (by rw [show (8 : Int32) = i32 8 from rfl, i32_le (by omega)]; omega)]
      exact k
    · rw [if_neg (by decide), if_neg (by rw [show (64 : Int32) = i32 64 from rfl, i32_le (by omega)]; omega)]
      exact k
/-- the sums in the class's words -/
theorem ind1 {a : Nat} (h : a ≤ 1) : (if a = 1 then 1 else 0) = a := by
  have : a = 0 ∨ a = 1 := by omega
  rcases this with rfl | rfl <;> rfl
theorem bt_co : ∀ w, w < 8 → ∀ x, x < 3 → bt2 (7 - w) x + bt2 w x = 1 := by decide
theorem nSS_eq {t f w s : Nat} (hw : w < 8) : nSS t f w s 3 = (agP t f w 0 (bt2 s 3) 3 + agP t f (7 - w) 0 (bt2 s 0) 3) + (agP t f w 1 (bt2 s 4) 3 + agP t f (7 - w) 1 (bt2 s 1) 3) + (agP t f w 2 (bt2 s 5) 3 + agP t f (7 - w) 2 (bt2 s 2) 3) := by
  have k : ∀ x y b, (if tbN t x y (bt2 f x) b = 1 then 1 else 0) = tbN t x y (bt2 f x) b := fun x y b => ind1 (tbN_le _ _ _ _ _)
  have c0 := bt_co w hw 0 (by decide)
  have c1 := bt_co w hw 1 (by decide)
  have c2 := bt_co w hw 2 (by decide)
  have d0 : bt2 w 0 = 0 ∨ bt2 w 0 = 1 := by have := bt2_le w 0; omega
  have d1 : bt2 w 1 = 0 ∨ bt2 w 1 = 1 := by have := bt2_le w 1; omega
  have d2 : bt2 w 2 = 0 ∨ bt2 w 2 = 1 := by have := bt2_le w 2; omega
  rcases d0 with d0 | d0 <;> rcases d1 with d1 | d1 <;> rcases d2 with d2 | d2 <;>
  · have e0 : bt2 (7 - w) 0 = 1 - bt2 w 0 := by omega
    have e1 : bt2 (7 - w) 1 = 1 - bt2 w 1 := by omega
    have e2 : bt2 (7 - w) 2 = 1 - bt2 w 2 := by omega
    simp only [nSS, inN, agP, e0, e1, e2, d0, d1, d2, Nat.sub_zero, Nat.sub_self, Nat.mul_zero, Nat.mul_one, Nat.zero_add, Nat.add_zero, Nat.reduceAdd, true_and, false_and, if_false, k, Nat.reduceEqDiff, Nat.zero_ne_one, if_true]
    omega
theorem ma_ex (t f q : Nat) (y : Nat) : ∃ c, c ≤ 1 ∧ agP t f q y c 3 = max (agP t f q y 0 3) (agP t f q y 1 3) := by
  by_cases h : agP t f q y 0 3 < agP t f q y 1 3
  · exact ⟨1, Nat.le_refl _, by omega⟩
  · exact ⟨0, by omega, by omega⟩
theorem ma_up (t f q y c : Nat) (hc : c ≤ 1) : agP t f q y c 3 ≤ max (agP t f q y 0 3) (agP t f q y 1 3) := by
  have : c = 0 ∨ c = 1 := by omega
  rcases this with rfl | rfl <;> omega
theorem rm_word {t f w z : Nat} (hw : w < 8) : rmx (fun s => nSS t f w s 3) z 64 = max z (maP t f w 3 + maP t f (7 - w) 3) := by
  refine rmx_top (fun s _ => ?_) ?_
  · rw [nSS_eq hw]
    have a0 := ma_up t f w 0 (bt2 s 3) (bt2_le _ _)
    have a1 := ma_up t f w 1 (bt2 s 4) (bt2_le _ _)
    have a2 := ma_up t f w 2 (bt2 s 5) (bt2_le _ _)
    have b0 := ma_up t f (7 - w) 0 (bt2 s 0) (bt2_le _ _)
    have b1 := ma_up t f (7 - w) 1 (bt2 s 1) (bt2_le _ _)
    have b2 := ma_up t f (7 - w) 2 (bt2 s 2) (bt2_le _ _)
    simp only [maP]
    omega
  · obtain ⟨a0, l0, h0⟩ := ma_ex t f w 0
    obtain ⟨a1, l1, h1⟩ := ma_ex t f w 1
    obtain ⟨a2, l2, h2⟩ := ma_ex t f w 2
    obtain ⟨b0, m0, g0⟩ := ma_ex t f (7 - w) 0
    obtain ⟨b1, m1, g1⟩ := ma_ex t f (7 - w) 1
    obtain ⟨b2, m2, g2⟩ := ma_ex t f (7 - w) 2
    refine ⟨b0 + 2 * b1 + 4 * b2 + 8 * a0 + 16 * a1 + 32 * a2, by omega, ?_⟩
    have e0 : bt2 (b0 + 2 * b1 + 4 * b2 + 8 * a0 + 16 * a1 + 32 * a2) 0 = b0 := by unfold bt2; omega
    have e1 : bt2 (b0 + 2 * b1 + 4 * b2 + 8 * a0 + 16 * a1 + 32 * a2) 1 = b1 := by unfold bt2; omega
    have e2 : bt2 (b0 + 2 * b1 + 4 * b2 + 8 * a0 + 16 * a1 + 32 * a2) 2 = b2 := by unfold bt2; omega
    have e3 : bt2 (b0 + 2 * b1 + 4 * b2 + 8 * a0 + 16 * a1 + 32 * a2) 3 = a0 := by unfold bt2; omega
    have e4 : bt2 (b0 + 2 * b1 + 4 * b2 + 8 * a0 + 16 * a1 + 32 * a2) 4 = a1 := by unfold bt2; omega
    have e5 : bt2 (b0 + 2 * b1 + 4 * b2 + 8 * a0 + 16 * a1 + 32 * a2) 5 = a2 := by unfold bt2; omega
    rw [nSS_eq hw, e0, e1, e2, e3, e4, e5, h0, h1, h2, g0, g1, g2]
    simp only [maP]
    omega
theorem ag_0 (t f y b : Nat) : agP t f 0 y b 3 = 0 := by
  have : ∀ x, bt2 0 x = 0 := fun x => by unfold bt2; simp
  simp [agP, this]
theorem rm_tale {t f z : Nat} : rmx (fun s => nSS t f 0 s 3) z 8 = max z (maP t f 7 3) := by
  refine rmx_top (fun s _ => ?_) ?_
  · rw [nSS_eq (by omega)]
    have b0 := ma_up t f 7 0 (bt2 s 0) (bt2_le _ _)
    have b1 := ma_up t f 7 1 (bt2 s 1) (bt2_le _ _)
    have b2 := ma_up t f 7 2 (bt2 s 2) (bt2_le _ _)
    simp only [maP, ag_0, Nat.sub_zero]
    omega
  · obtain ⟨b0, m0, g0⟩ := ma_ex t f 7 0
    obtain ⟨b1, m1, g1⟩ := ma_ex t f 7 1
    obtain ⟨b2, m2, g2⟩ := ma_ex t f 7 2
    refine ⟨b0 + 2 * b1 + 4 * b2, by omega, ?_⟩
    have e0 : bt2 (b0 + 2 * b1 + 4 * b2) 0 = b0 := by unfold bt2; omega
    have e1 : bt2 (b0 + 2 * b1 + 4 * b2) 1 = b1 := by unfold bt2; omega
    have e2 : bt2 (b0 + 2 * b1 + 4 * b2) 2 = b2 := by unfold bt2; omega
    rw [nSS_eq (by omega), Nat.sub_zero, e0, e1, e2, g0, g1, g2]
    simp only [maP, ag_0]
    omega
theorem p_ws {F t f z : Nat} (hF : 300 ≤ F) (ht : t < 68719476736) (hf : f < 8) (hz : z ≤ 18) (K : Int32 → Option (Int32 × hSt)) : ∀ (n w N : Nat), w + n = 8 → n < N → f_X12_rooms_L44 F (i64 (t : Int)) (i32 (1 : Nat)) (i32 (f : Int)) K N (i32 (rmx (fun w => maP t f w 3 + maP t f (7 - w) 3) z w : Int)) (i32 (w : Int)) = K (i32 (wdS t f z : Int)) := by
  intro n
  induction n with
  | zero =>
    intro w N hy hN
    obtain ⟨N, rfl⟩ : ∃ q, N = q + 1 := ⟨N - 1, by omega⟩
    obtain rfl : w = 8 := by omega
    rw [f_X12_rooms_L44]
    simp (disch := omega) only [↓reduceIte, iT_lt, iF_lt, iT_le, iF_le, iT_eq, iF_eq, nT_lt, nF_lt, nT_le, nF_le, nT_eq, nF_eq, and_self, and_true, true_and, and_false, false_and, not_true_eq_false, not_false_eq_true, ne_eq, or_self, or_false, false_or, or_true, true_or, Option.bind_some, i32_lit, i64_lit, i32_add, i32_sub, i32_mul, i32_neg, i64_add, i64_sub, i64_neg, i32_lt, i32_le, i32_eq, i64_lt, i64_le, i64_eq, i32_cn, i32_cl, i32_l, i64_i, i32_nat, Int.toNat_natCast, sI_2, sJ_1, sJ_22, sR_1, sR_21, sI_t, sI_r, sI_j, sJ_t, sJ_r, sJ_j, sR_t, sR_r, sR_j]
    rfl
  | succ n ihn =>
    intro w N hy hN
    obtain ⟨N, rfl⟩ : ∃ q, N = q + 1 := ⟨N - 1, by omega⟩
    have ih := ihn (w + 1) N (by omega) (by omega)
    have e2 : (i32 (w : Int) + 1) = i32 ((w + 1 : Nat) : Int) := by rw [i32_lit, i32_add]; rfl
    have l2 := rmx_le (f := fun w => maP t f w 3 + maP t f (7 - w) 3) (z := z) (c := 18) hz w (fun i _ => by have := maP_le t f i 3; have := maP_le t f (7 - i) 3; omega)
    have k := p_ss (F := F) (c := 1) (M := 64) hF ht hf (show w < 8 by omega) (show rmx (fun w => maP t f w 3 + maP t f (7 - w) 3) z w ≤ 100 by omega) (Or.inr ⟨rfl, rfl⟩) (fun z4 => f_X12_rooms_L44 F (i64 (t : Int)) (i32 (1 : Nat)) (i32 (f : Int)) K N z4 (i32 ((w + 1 : Nat) : Int))) 64 0 F (by omega) (by omega)
    rw [rm_word (by omega)] at k
    rw [← ih, f_X12_rooms_L44, e2, if_neg (by decide), if_neg (by rw [show (8 : Int32) = i32 8 from rfl, i32_le (by omega)]; omega)]
    exact k
theorem p_fs1 {F t : Nat} {τ : hSt} (hF : 300 ≤ F) (ht : t < 68719476736) : ∀ (n f N : Nat), f + n = 8 → n < N → f_X12_rooms_L34 F τ (i64 (t : Int)) (i32 (1 : Nat)) N (i32 (worS t f : Int)) (i32 (f : Int)) = some (i32 (worS t 8 : Int), τ) := by
  intro n
  induction n with
  | zero =>
    intro w N hy hN
    obtain ⟨N, rfl⟩ : ∃ q, N = q + 1 := ⟨N - 1, by omega⟩
    obtain rfl : w = 8 := by omega
    rw [f_X12_rooms_L34]
    simp (disch := omega) only [↓reduceIte, iT_lt, iF_lt, iT_le, iF_le, iT_eq, iF_eq, nT_lt, nF_lt, nT_le, nF_le, nT_eq, nF_eq, and_self, and_true, true_and, and_false, false_and, not_true_eq_false, not_false_eq_true, ne_eq, or_self, or_false, false_or, or_true, true_or, Option.bind_some, i32_lit, i64_lit, i32_add, i32_sub, i32_mul, i32_neg, i64_add, i64_sub, i64_neg, i32_lt, i32_le, i32_eq, i64_lt, i64_le, i64_eq, i32_cn, i32_cl, i32_l, i64_i, i32_nat, Int.toNat_natCast, sI_2, sJ_1, sJ_22, sR_1, sR_21, sI_t, sI_r, sI_j, sJ_t, sJ_r, sJ_j, sR_t, sR_r, sR_j]
  | succ n ihn =>
    intro f N hy hN
    obtain ⟨N, rfl⟩ : ∃ q, N = q + 1 := ⟨N - 1, by omega⟩
    have ih := ihn (f + 1) N (by omega) (by omega)
    have e2 : (i32 (f : Int) + 1) = i32 ((f + 1 : Nat) : Int) := by rw [i32_lit, i32_add]; rfl
    rw [← ih, f_X12_rooms_L34, e2, if_neg (by rw [show (8 : Int32) = i32 8 from rfl, i32_le (by omega)]; omega)]
    exact p_ws hF ht (show f < 8 by omega) (worS_le t f) (fun z4 => f_X12_rooms_L34 F τ (i64 (t : Int)) (i32 (1 : Nat)) N z4 (i32 ((f + 1 : Nat) : Int))) 8 0 F (by omega) (by omega)
theorem p_fs0 {F t : Nat} {τ : hSt} (hF : 300 ≤ F) (ht : t < 68719476736) : ∀ (n f N : Nat), f + n = 8 → n < N → f_X12_rooms_L34 F τ (i64 (t : Int)) (i32 (0 : Nat)) N (i32 (rmx (fun f => maP t f 7 3) 0 f : Int)) (i32 (f : Int)) = some (i32 (talS t : Int), τ) := by
  intro n
  induction n with
  | zero =>
    intro w N hy hN
    obtain ⟨N, rfl⟩ : ∃ q, N = q + 1 := ⟨N - 1, by omega⟩
    obtain rfl : w = 8 := by omega
    rw [f_X12_rooms_L34]
    simp (disch := omega) only [↓reduceIte, iT_lt, iF_lt, iT_le, iF_le, iT_eq, iF_eq, nT_lt, nF_lt, nT_le, nF_le, nT_eq, nF_eq, and_self, and_true, true_and, and_false, false_and, not_true_eq_false, not_false_eq_true, ne_eq, or_self, or_false, false_or, or_true, true_or, Option.bind_some, i32_lit, i64_lit, i32_add, i32_sub, i32_mul, i32_neg, i64_add, i64_sub, i64_neg, i32_lt, i32_le, i32_eq, i64_lt, i64_le, i64_eq, i32_cn, i32_cl, i32_l, i64_i, i32_nat, Int.toNat_natCast, sI_2, sJ_1, sJ_22, sR_1, sR_21, sI_t, sI_r, sI_j, sJ_t, sJ_r, sJ_j, sR_t, sR_r, sR_j]
    rfl
  | succ n ihn =>
    intro f N hy hN
    obtain ⟨N, rfl⟩ : ∃ q, N = q + 1 := ⟨N - 1, by omega⟩
    obtain ⟨G, hG⟩ : ∃ q, F = q + 2 := ⟨F - 2, by omega⟩
    have ih := ihn (f + 1) N (by omega) (by omega)
    have e2 : (i32 (f : Int) + 1) = i32 ((f + 1 : Nat) : Int) := by rw [i32_lit, i32_add]; rfl
    have l2 := rmx_le (f := fun f => maP t f 7 3) (z := 0) (c := 9) (by omega) f (fun i _ => maP_le t i 7 3)
    have k := p_ss (F := F) (c := 0) (M := 8) hF ht (show f < 8 by omega) (show 0 < 8 by omega) (show rmx (fun f => maP t f 7 3) 0 f ≤ 100 by omega) (Or.inl ⟨rfl, rfl⟩) (fun z4 => f_X12_rooms_L44 F (i64 (t : Int)) (i32 (0 : Nat)) (i32 (f : Int)) (fun z4 => f_X12_rooms_L34 F τ (i64 (t : Int)) (i32 (0 : Nat)) N z4 (i32 ((f + 1 : Nat) : Int))) (G + 1) z4 (i32 ((0 + 1 : Nat) : Int))) 8 0 F (by omega) (by omega)
    rw [rm_tale] at k
    rw [← ih, f_X12_rooms_L34, e2, if_neg (by rw [show (8 : Int32) = i32 8 from rfl, i32_le (by omega)]; omega)]
    conv => lhs; arg 6; rw [hG]
    rw [f_X12_rooms_L44, if_pos (show i32 ((0 : Nat) : Int) = 0 from rfl), if_neg (by decide)]
    refine k.trans ?_
    rw [f_X12_rooms_L44, if_pos (show i32 ((0 : Nat) : Int) = 0 from rfl), if_pos (by decide), rmx]
