/-! corners, and who wins -/
theorem i32_or (a b : Nat) : i32 (a : Int) ||| i32 (b : Int) = i32 ((a ||| b : Nat) : Int) := by
  apply Int32.toBitVec_inj.1
  rw [← i32_nat, ← i32_nat, ← i32_nat]
  show BitVec.ofNat 32 a ||| BitVec.ofNat 32 b = BitVec.ofNat 32 (a ||| b)
  apply BitVec.eq_of_getLsbD_eq
  intro i hi
  simp [hi]
theorem i32_xor (a b : Nat) : i32 (a : Int) ^^^ i32 (b : Int) = i32 ((a ^^^ b : Nat) : Int) := by
  apply Int32.toBitVec_inj.1
  rw [← i32_nat, ← i32_nat, ← i32_nat]
  show BitVec.ofNat 32 a ^^^ BitVec.ofNat 32 b = BitVec.ofNat 32 (a ^^^ b)
  apply BitVec.eq_of_getLsbD_eq
  intro i hi
  simp [hi]
theorem i32_and (a b : Nat) : i32 (a : Int) &&& i32 (b : Int) = i32 ((a &&& b : Nat) : Int) := by
  apply Int32.toBitVec_inj.1
  rw [← i32_nat, ← i32_nat, ← i32_nat]
  show BitVec.ofNat 32 a &&& BitVec.ofNat 32 b = BitVec.ofNat 32 (a &&& b)
  apply BitVec.eq_of_getLsbD_eq
  intro i hi
  simp [hi]
def ptK (cr : Nat) : Nat → Int := fun x => ((cr / 2 ^ x % 2 : Nat) : Int)
theorem ptK_in {p : Int} (hp : 1 < p) (cr m : Nat) : inP p (ptK cr) m := fun x _ => by unfold ptK; omega
theorem wS_01 {p : Int} {pt c : Nat → Int} {n : Nat} (hp : 1 < p) (hw : wf c n) (hpt : inP 2 pt 6) : ∀ j, j ≤ n → inP 2 (wS p pt c j) (hg c j) := by
  intro j
  induction j with
  | zero => intro _ i hi; exact absurd hi (Nat.not_lt_zero i)
  | succ j ih =>
    intro hj i hi
    have h1 := ih (by omega)
    have h2 := hw.2.1 j (by omega)
    by_cases c1 : c j < 6
    · simp (disch := omega) only [↓reduceIte, iT_lt, iF_lt, iT_le, iF_le, iT_eq, iF_eq, nT_lt, nF_lt, nT_le, nF_le, nT_eq, nF_eq, and_self, and_true, true_and, and_false, false_and, not_true_eq_false, not_false_eq_true, ne_eq, or_self, or_false, false_or, or_true, true_or, Option.bind_some, i32_lit, i64_lit, i32_add, i32_sub, i32_mul, i32_neg, i64_add, i64_sub, i64_neg, i32_lt, i32_le, i32_eq, i64_lt, i64_le, i64_eq, i32_cn, i32_cl, i32_l, i64_i, i32_nat, Int.toNat_natCast, hg] at hi
      simp (disch := omega) only [↓reduceIte, iT_lt, iF_lt, iT_le, iF_le, iT_eq, iF_eq, nT_lt, nF_lt, nT_le, nF_le, nT_eq, nF_eq, and_self, and_true, true_and, and_false, false_and, not_true_eq_false, not_false_eq_true, ne_eq, or_self, or_false, false_or, or_true, true_or, Option.bind_some, i32_lit, i64_lit, i32_add, i32_sub, i32_mul, i32_neg, i64_add, i64_sub, i64_neg, i32_lt, i32_le, i32_eq, i64_lt, i64_le, i64_eq, i32_cn, i32_cl, i32_l, i64_i, i32_nat, Int.toNat_natCast, wS]
      by_cases e : i = hg c j
      · rw [uI_t _ _ e]; exact hpt _ (by omega)
      · rw [uI_f _ _ (by omega)]; exact h1 i (by omega)
    · by_cases c2 : c j = 6
      · simp (disch := omega) only [↓reduceIte, iT_lt, iF_lt, iT_le, iF_le, iT_eq, iF_eq, nT_lt, nF_lt, nT_le, nF_le, nT_eq, nF_eq, and_self, and_true, true_and, and_false, false_and, not_true_eq_false, not_false_eq_true, ne_eq, or_self, or_false, false_or, or_true, true_or, Option.bind_some, i32_lit, i64_lit, i32_add, i32_sub, i32_mul, i32_neg, i64_add, i64_sub, i64_neg, i32_lt, i32_le, i32_eq, i64_lt, i64_le, i64_eq, i32_cn, i32_cl, i32_l, i64_i, i32_nat, Int.toNat_natCast, hg] at hi
        simp (disch := omega) only [↓reduceIte, iT_lt, iF_lt, iT_le, iF_le, iT_eq, iF_eq, nT_lt, nF_lt, nT_le, nF_le, nT_eq, nF_eq, and_self, and_true, true_and, and_false, false_and, not_true_eq_false, not_false_eq_true, ne_eq, or_self, or_false, false_or, or_true, true_or, Option.bind_some, i32_lit, i64_lit, i32_add, i32_sub, i32_mul, i32_neg, i64_add, i64_sub, i64_neg, i32_lt, i32_le, i32_eq, i64_lt, i64_le, i64_eq, i32_cn, i32_cl, i32_l, i64_i, i32_nat, Int.toNat_natCast, wS]
        have hu := h1 (hg c j - 1) (by have := h2.2.2.1 c2; omega)
        by_cases e : i = hg c j - 1
        · rw [uI_t _ _ e, Int.emod_eq_of_lt (by omega) (by omega)]; omega
        · rw [uI_f _ _ (by omega)]; exact h1 i (by omega)
      · have h3 := h2.2.2.2 (by omega)
        have hu := h1 (hg c j - 2) (by omega)
        have hv := h1 (hg c j - 1) (by omega)
        have hm : 0 ≤ wS p pt c j (hg c j - 2) * wS p pt c j (hg c j - 1) ∧ wS p pt c j (hg c j - 2) * wS p pt c j (hg c j - 1) < 2 ∧ 0 ≤ wS p pt c j (hg c j - 2) + wS p pt c j (hg c j - 1) - wS p pt c j (hg c j - 2) * wS p pt c j (hg c j - 1) ∧ wS p pt c j (hg c j - 2) + wS p pt c j (hg c j - 1) - wS p pt c j (hg c j - 2) * wS p pt c j (hg c j - 1) < 2 := by
          have eu : wS p pt c j (hg c j - 2) = 0 ∨ wS p pt c j (hg c j - 2) = 1 := by omega
          have ev : wS p pt c j (hg c j - 1) = 0 ∨ wS p pt c j (hg c j - 1) = 1 := by omega
          rcases eu with eu | eu <;> rcases ev with ev | ev <;> rw [eu, ev] <;> decide
        simp (disch := omega) only [↓reduceIte, iT_lt, iF_lt, iT_le, iF_le, iT_eq, iF_eq, nT_lt, nF_lt, nT_le, nF_le, nT_eq, nF_eq, and_self, and_true, true_and, and_false, false_and, not_true_eq_false, not_false_eq_true, ne_eq, or_self, or_false, false_or, or_true, true_or, Option.bind_some, i32_lit, i64_lit, i32_add, i32_sub, i32_mul, i32_neg, i64_add, i64_sub, i64_neg, i32_lt, i32_le, i32_eq, i64_lt, i64_le, i64_eq, i32_cn, i32_cl, i32_l, i64_i, i32_nat, Int.toNat_natCast, hg] at hi
        by_cases c3 : c j = 7
        · simp (disch := omega) only [↓reduceIte, iT_lt, iF_lt, iT_le, iF_le, iT_eq, iF_eq, nT_lt, nF_lt, nT_le, nF_le, nT_eq, nF_eq, and_self, and_true, true_and, and_false, false_and, not_true_eq_false, not_false_eq_true, ne_eq, or_self, or_false, false_or, or_true, true_or, Option.bind_some, i32_lit, i64_lit, i32_add, i32_sub, i32_mul, i32_neg, i64_add, i64_sub, i64_neg, i32_lt, i32_le, i32_eq, i64_lt, i64_le, i64_eq, i32_cn, i32_cl, i32_l, i64_i, i32_nat, Int.toNat_natCast, wS]
          by_cases e : i = hg c j - 2
          · rw [uI_t _ _ e, Int.emod_eq_of_lt (by omega) (by omega)]; omega
          · rw [uI_f _ _ (by omega)]; exact h1 i (by omega)
        · simp (disch := omega) only [↓reduceIte, iT_lt, iF_lt, iT_le, iF_le, iT_eq, iF_eq, nT_lt, nF_lt, nT_le, nF_le, nT_eq, nF_eq, and_self, and_true, true_and, and_false, false_and, not_true_eq_false, not_false_eq_true, ne_eq, or_self, or_false, false_or, or_true, true_or, Option.bind_some, i32_lit, i64_lit, i32_add, i32_sub, i32_mul, i32_neg, i64_add, i64_sub, i64_neg, i32_lt, i32_le, i32_eq, i64_lt, i64_le, i64_eq, i32_cn, i32_cl, i32_l, i64_i, i32_nat, Int.toNat_natCast, wS]
          by_cases e : i = hg c j - 2
          · rw [uI_t _ _ e, Int.emod_eq_of_lt (by omega) (by omega)]; omega
          · rw [uI_f _ _ (by omega)]; exact h1 i (by omega)
theorem Wv_01 {p : Int} {pt c : Nat → Int} {n : Nat} (hp : 1 < p) (hw : wf c n) (hpt : inP 2 pt 6) : Wv p pt c n = 0 ∨ Wv p pt c n = 1 := by
  have := wS_01 hp hw hpt n (Nat.le_refl n) 0 (by have := hw.2.2.2; omega)
  unfold Wv
  omega
def wonF (c : Nat → Int) (n tn : Nat) : Nat → Nat → Nat → Bool
  | 0, _, cr => decide (Wv 1000000007 (ptK cr) c n = 1)
  | k + 1, i, cr => if tn / 2 ^ i % 2 = 1 then wonF c n tn k (i + 1) cr && wonF c n tn k (i + 1) (cr + 2 ^ i) else wonF c n tn k (i + 1) cr || wonF c n tn k (i + 1) (cr + 2 ^ i)
theorem pow_lt6 {i : Nat} (h : i < 6) : 2 ^ i ≤ 32 := by
  have : 2 ^ i ≤ 2 ^ 5 := Nat.pow_le_pow_right (by decide) (by omega)
  simpa using this
theorem pow_le6 {i : Nat} (h : i ≤ 6) : 2 ^ i ≤ 64 := by
  have : 2 ^ i ≤ 2 ^ 6 := Nat.pow_le_pow_right (by decide) (by omega)
  simpa using this
theorem ptK_add {cr i x : Nat} (h : cr < 2 ^ i) (hx : x < i) : ptK (cr + 2 ^ i) x = ptK cr x := by
  unfold ptK
  obtain ⟨m, rfl⟩ : ∃ m, i = x + 1 + m := ⟨i - x - 1, by omega⟩
  congr 1
  rw [show 2 ^ (x + 1 + m) = 2 ^ x * (2 * 2 ^ m) by rw [Nat.pow_add, Nat.pow_succ, Nat.mul_assoc], Nat.add_mul_div_left _ _ (Nat.pow_pos (by decide))]
  omega
theorem ptK_top {cr i : Nat} (h : cr < 2 ^ i) : ptK (cr + 2 ^ i) i = 1 := by
  unfold ptK
  rw [Nat.add_div_right _ (Nat.pow_pos (by decide)), Nat.div_eq_of_lt h]
  rfl
theorem ptK_low {cr i : Nat} (h : cr < 2 ^ i) : ptK cr i = 0 := by
  unfold ptK
  rw [Nat.div_eq_of_lt h]
  rfl
theorem gF_won {c : Nat → Int} {n nm tn : Nat} (hw : wf c n) (hc : nmB c n nm) : ∀ k i cr pt, i + k = nm → cr < 2 ^ i → (∀ x, x < i → pt x = ptK cr x) → gF 1000000007 c n tn k i pt = if wonF c n tn k i cr then 1 else 0 := by
  intro k
  induction k with
  | zero =>
    intro i cr pt hi hcr h
    obtain rfl : i = nm := by omega
    have h1 := Wv_cong (p := 1000000007) hw hc h
    have h2 := Wv_01 (p := 1000000007) (by decide) hw (ptK_in (p := 2) (by decide) cr 6)
    simp only [gF, wonF, h1]
    rcases h2 with h2 | h2 <;> simp [h2]
  | succ k ih =>
    intro i cr pt hi hcr h
    have a := ih (i + 1) cr (uI pt i 0) (by omega) (by rw [Nat.pow_succ]; omega) (fun x hx => by
      by_cases e : x = i
      · rw [uI_t _ _ e, e, ptK_low hcr]
      · rw [uI_f _ _ (by omega)]; exact h x (by omega))
    have b := ih (i + 1) (cr + 2 ^ i) (uI pt i 1) (by omega) (by rw [Nat.pow_succ]; omega) (fun x hx => by
      by_cases e : x = i
      · rw [uI_t _ _ e, e, ptK_top hcr]
      · rw [uI_f _ _ (by omega), ptK_add hcr (by omega)]; exact h x (by omega))
    rw [gF, wonF, a, b]
    cases wonF c n tn k (i + 1) cr <;> cases wonF c n tn k (i + 1) (cr + 2 ^ i) <;> by_cases e : tn / 2 ^ i % 2 = 1 <;> simp [e]
theorem p_mtrue_L {s n b : Nat} (hb : b < 64) (K : hSt → Option (Int32 × hSt)) :
    ∀ k t N τ, t + k = 6 → k < N → (∀ x, x < t → τ.2.1 208 x = i64 (ptK b x)) → ∃ υ, f_X12_isTrue_L2 (i32 s) (i32 b) K N τ (i32 t) = K υ ∧ fr [208] τ υ ∧ rowJ υ 208 (ptK b) 6 := by
  intro k
  induction k with
  | zero =>
    intro t N τ ht hN h
    obtain ⟨N, rfl⟩ : ∃ q, N = q + 1 := ⟨N - 1, by omega⟩
    obtain rfl : t = 6 := by omega
    refine ⟨τ, ?_, fr_rf _ _, h⟩
    rw [f_X12_isTrue_L2]
    simp (disch := omega) only [↓reduceIte, iT_lt, iF_lt, iT_le, iF_le, iT_eq, iF_eq, nT_lt, nF_lt, nT_le, nF_le, nT_eq, nF_eq, and_self, and_true, true_and, and_false, false_and, not_true_eq_false, not_false_eq_true, ne_eq, or_self, or_false, false_or, or_true, true_or, Option.bind_some, i32_lit, i64_lit, i32_add, i32_sub, i32_mul, i32_neg, i64_add, i64_sub, i64_neg, i32_lt, i32_le, i32_eq, i64_lt, i64_le, i64_eq, i32_cn, i32_cl, i32_l, i64_i, i32_nat, Int.toNat_natCast, sI_2, sJ_1, sJ_22, sR_1, sR_21, sI_t, sI_r, sI_j, sJ_t, sJ_r, sJ_j, sR_t, sR_r, sR_j]
  | succ k ih =>
    intro t N τ ht hN h
    obtain ⟨N, rfl⟩ : ∃ q, N = q + 1 := ⟨N - 1, by omega⟩
    obtain ⟨υ, e1, e2, e3⟩ := ih (t + 1) N (sJ τ 208 t (i64 (ptK b t))) (by omega) (by omega) (fun x hx => by
      by_cases e : x = t
      · rw [sJ_t _ _ ⟨rfl, e⟩, e]
      · rw [sJ_j _ _ (by omega)]; exact h x (by omega))
    refine ⟨υ, ?_, fr_tr (fr_sJ τ _ (by rw [cd_a rfl]; decide)) e2, e3⟩
    rw [← e1, f_X12_isTrue_L2]
    have h9 := bit_rg b t
    simp (disch := omega) only [↓reduceIte, iT_lt, iF_lt, iT_le, iF_le, iT_eq, iF_eq, nT_lt, nF_lt, nT_le, nF_le, nT_eq, nF_eq, and_self, and_true, true_and, and_false, false_and, not_true_eq_false, not_false_eq_true, ne_eq, or_self, or_false, false_or, or_true, true_or, Option.bind_some, i32_lit, i64_lit, i32_add, i32_sub, i32_mul, i32_neg, i64_add, i64_sub, i64_neg, i32_lt, i32_le, i32_eq, i64_lt, i64_le, i64_eq, i32_cn, i32_cl, i32_l, i64_i, i32_nat, Int.toNat_natCast, sI_2, sJ_1, sJ_22, sR_1, sR_21, sI_t, sI_r, sI_j, sJ_t, sJ_r, sJ_j, sR_t, sR_r, sR_j, bitI hb (show t < 32 by omega)]
    rfl
theorem p_mtrue {Z : hZ} {s n nm F b : Nat} {c : Nat → Int} (hF : 300 ≤ F) (hw : wf c n) (hb : b < 64) (τ : hSt) (hs : mSg τ s c n) : ∃ υ, f_X12_isTrue F Z τ (i32 s) (i32 b) = some (if Wv 1000000007 (ptK b) c n = 1 then 1 else 0, υ) ∧ fr [207, 208] τ υ := by
  unfold f_X12_isTrue
  obtain ⟨υ, e1, e2, e3⟩ := p_mtrue_L (s := s) (n := n) hb (fun σ1 => (f_X12_worthAt F Z σ1 (i32 s) (1000000007 : Int64)).bind fun q3 => (if q3.1 = (1 : Int64) then some ((1 : Int32), q3.2) else some ((0 : Int32), q3.2))) 6 0 F τ (by omega) (by omega) (fun x hx => absurd hx (Nat.not_lt_zero x))
  have hq := ptK_in (p := 1000000007) (by decide) b 6
  obtain ⟨υ2, b1, b2⟩ := p_mworth (Z := Z) (F := F) hF υ (mSg_fr e2 (by decide) (by decide) hs) hw (p := 1000000007) (by decide) hq e3
  refine ⟨υ2, ?_, fr_tr (fr_mono e2 (by decide)) (fr_mono b2 (by decide))⟩
  refine Eq.trans e1 ?_
  rw [show (1000000007 : Int64) = i64 1000000007 from rfl, b1]
  have hr := Wv_rg (p := 1000000007) (by decide) hw hq
  simp (disch := omega) only [↓reduceIte, iT_lt, iF_lt, iT_le, iF_le, iT_eq, iF_eq, nT_lt, nF_lt, nT_le, nF_le, nT_eq, nF_eq, and_self, and_true, true_and, and_false, false_and, not_true_eq_false, not_false_eq_true, ne_eq, or_self, or_false, false_or, or_true, true_or, Option.bind_some, i32_lit, i64_lit, i32_add, i32_sub, i32_mul, i32_neg, i64_add, i64_sub, i64_neg, i32_lt, i32_le, i32_eq, i64_lt, i64_le, i64_eq, i32_cn, i32_cl, i32_l, i64_i, i32_nat, Int.toNat_natCast, sI_2, sJ_1, sJ_22, sR_1, sR_21, sI_t, sI_r, sI_j, sJ_t, sJ_r, sJ_j, sR_t, sR_r, sR_j]
  by_cases e : Wv 1000000007 (ptK b) c n = 1
  · simp [e]
  · simp [e]
theorem p_mwon {Z : hZ} {s n nm F tn : Nat} {c : Nat → Int} (hF : 300 ≤ F) (hw : wf c n) (hc : nmB c n nm) (ht : tn < 64) :
    ∀ (k i cr d : Nat) (τ : hSt), i + k = nm → k < d → cr < 2 ^ i → mSg τ s c n → τ.1 204 s = i32 (nm : Nat) → ∃ υ, (G_Mw F Z d) τ (i32 s) (i32 tn) (i32 i) (i32 cr) = some (if wonF c n tn k i cr then 1 else 0, υ) ∧ fr [207, 208] τ υ := by
  intro k
  induction k with
  | zero =>
    intro i cr d τ hi hd hcr hs hn
    obtain ⟨d, rfl⟩ : ∃ q, d = q + 1 := ⟨d - 1, by omega⟩
    have hs1 := hs.1
    have hc1 := hc.1
    have := pow_le6 (i := i) (by omega)
    obtain ⟨υ, e1, e2⟩ := p_mtrue (Z := Z) (nm := nm) hF hw (b := cr) (by omega) τ hs
    refine ⟨υ, ?_, e2⟩
    rw [G_Mw, b_X12_isWon]
    simp (disch := omega) only [↓reduceIte, iT_lt, iF_lt, iT_le, iF_le, iT_eq, iF_eq, nT_lt, nF_lt, nT_le, nF_le, nT_eq, nF_eq, and_self, and_true, true_and, and_false, false_and, not_true_eq_false, not_false_eq_true, ne_eq, or_self, or_false, false_or, or_true, true_or, Option.bind_some, i32_lit, i64_lit, i32_add, i32_sub, i32_mul, i32_neg, i64_add, i64_sub, i64_neg, i32_lt, i32_le, i32_eq, i64_lt, i64_le, i64_eq, i32_cn, i32_cl, i32_l, i64_i, i32_nat, Int.toNat_natCast, sI_2, sJ_1, sJ_22, sR_1, sR_21, sI_t, sI_r, sI_j, sJ_t, sJ_r, sJ_j, sR_t, sR_r, sR_j, hn, e1]
    by_cases e : Wv 1000000007 (ptK cr) c n = 1
    · simp [e, wonF]
    · simp [e, wonF]
  | succ k ih =>
    intro i cr d τ hi hd hcr hs hn
    obtain ⟨d, rfl⟩ : ∃ q, d = q + 1 := ⟨d - 1, by omega⟩
    have hs1 := hs.1
    have hc1 := hc.1
    have hpi := pow_lt6 (i := i) (by omega)
    obtain ⟨υ, a1, a2⟩ := ih (i + 1) cr d τ (by omega) (by omega) (by rw [Nat.pow_succ]; omega) hs hn
    obtain ⟨υ2, b1, b2⟩ := ih (i + 1) (cr + 2 ^ i) d υ (by omega) (by omega) (by rw [Nat.pow_succ]; omega) (mSg_fr a2 (by decide) (by decide) hs) (by rw [fr_I a2 204 rfl (by decide)]; exact hn)
    refine ⟨υ2, ?_, fr_tr a2 b2⟩
    rw [G_Mw, b_X12_isWon]
    have hor : i32 (cr : Int) ||| ((1 : Int32) <<< (i32 (i : Int) &&& 31)) = i32 ((cr + 2 ^ i : Nat) : Int) := by
      rw [sh1 (by omega), i32_or]
      congr 2
      have := Nat.two_pow_add_eq_or_of_lt hcr 1
      rw [Nat.mul_one] at this
      rw [Nat.or_comm, ← this, Nat.add_comm]
    have hbb := bit_rg tn i
    rw [hor]
    simp (disch := omega) only [↓reduceIte, iT_lt, iF_lt, iT_le, iF_le, iT_eq, iF_eq, nT_lt, nF_lt, nT_le, nF_le, nT_eq, nF_eq, and_self, and_true, true_and, and_false, false_and, not_true_eq_false, not_false_eq_true, ne_eq, or_self, or_false, false_or, or_true, true_or, Option.bind_some, i32_lit, i64_lit, i32_add, i32_sub, i32_mul, i32_neg, i64_add, i64_sub, i64_neg, i32_lt, i32_le, i32_eq, i64_lt, i64_le, i64_eq, i32_cn, i32_cl, i32_l, i64_i, i32_nat, Int.toNat_natCast, sI_2, sJ_1, sJ_22, sR_1, sR_21, sI_t, sI_r, sI_j, sJ_t, sJ_r, sJ_j, sR_t, sR_r, sR_j, hn]
    rw [show (i : Int) + 1 = ((i + 1 : Nat) : Int) from rfl, a1]
    simp (disch := omega) only [↓reduceIte, iT_lt, iF_lt, iT_le, iF_le, iT_eq, iF_eq, nT_lt, nF_lt, nT_le, nF_le, nT_eq, nF_eq, and_self, and_true, true_and, and_false, false_and, not_true_eq_false, not_false_eq_true, ne_eq, or_self, or_false, false_or, or_true, true_or, Option.bind_some, i32_lit, i64_lit, i32_add, i32_sub, i32_mul, i32_neg, i64_add, i64_sub, i64_neg, i32_lt, i32_le, i32_eq, i64_lt, i64_le, i64_eq, i32_cn, i32_cl, i32_l, i64_i, i32_nat, Int.toNat_natCast, sI_2, sJ_1, sJ_22, sR_1, sR_21, sI_t, sI_r, sI_j, sJ_t, sJ_r, sJ_j, sR_t, sR_r, sR_j]
    rw [b1]
    simp (disch := omega) only [↓reduceIte, iT_lt, iF_lt, iT_le, iF_le, iT_eq, iF_eq, nT_lt, nF_lt, nT_le, nF_le, nT_eq, nF_eq, and_self, and_true, true_and, and_false, false_and, not_true_eq_false, not_false_eq_true, ne_eq, or_self, or_false, false_or, or_true, true_or, Option.bind_some, i32_lit, i64_lit, i32_add, i32_sub, i32_mul, i32_neg, i64_add, i64_sub, i64_neg, i32_lt, i32_le, i32_eq, i64_lt, i64_le, i64_eq, i32_cn, i32_cl, i32_l, i64_i, i32_nat, Int.toNat_natCast, sI_2, sJ_1, sJ_22, sR_1, sR_21, sI_t, sI_r, sI_j, sJ_t, sJ_r, sJ_j, sR_t, sR_r, sR_j, bitI ht (show i < 32 by omega)]
    rw [wonF]
    generalize tn / 2 ^ i % 2 = w at hbb ⊢
    have hw3 : w = 0 ∨ w = 1 := by omega
    rcases hw3 with rfl | rfl <;> cases wonF c n tn k (i + 1) cr <;> cases wonF c n tn k (i + 1) (cr + 2 ^ i) <;> rfl
