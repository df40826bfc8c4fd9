/-! WORTH: a row of signs over a stack -/
def uI (f : Nat → Int) (k : Nat) (v : Int) : Nat → Int := fun j => if j = k then v else f j
theorem uI_t (f : Nat → Int) {k j : Nat} (v : Int) (h : j = k) : uI f k v j = v := by simp [uI, h]
theorem uI_f (f : Nat → Int) {k j : Nat} (v : Int) (h : j < k ∨ k < j) : uI f k v j = f j := by
  have : j ≠ k := by omega
  simp [uI, this]
/-- the height of the stack behind the first signs -/
def hg (c : Nat → Int) : Nat → Nat
  | 0 => 0
  | j + 1 => if c j < 6 then hg c j + 1 else if c j = 6 then hg c j else hg c j - 1
def wS (p : Int) (pt : Nat → Int) (c : Nat → Int) : Nat → Nat → Int
  | 0 => fun _ => 0
  | j + 1 => if c j < 6 then uI (wS p pt c j) (hg c j) (pt (c j).toNat) else if c j = 6 then uI (wS p pt c j) (hg c j - 1) ((1 - wS p pt c j (hg c j - 1)) % p) else if c j = 7 then uI (wS p pt c j) (hg c j - 2) (wS p pt c j (hg c j - 2) * wS p pt c j (hg c j - 1) % p) else uI (wS p pt c j) (hg c j - 2) ((wS p pt c j (hg c j - 2) + wS p pt c j (hg c j - 1) - wS p pt c j (hg c j - 2) * wS p pt c j (hg c j - 1)) % p)
/-- a well-made row of signs -/
def wf (c : Nat → Int) (n : Nat) : Prop := n ≤ 200 ∧ (∀ j, j < n → 0 ≤ c j ∧ c j ≤ 8 ∧ (c j = 6 → 1 ≤ hg c j) ∧ (7 ≤ c j → 2 ≤ hg c j)) ∧ (∀ j, j ≤ n → hg c j ≤ 60) ∧ hg c n = 1
def Wv (p : Int) (pt : Nat → Int) (c : Nat → Int) (n : Nat) : Int := wS p pt c n 0
def inP (p : Int) (f : Nat → Int) (n : Nat) : Prop := ∀ i, i < n → 0 ≤ f i ∧ f i < p
theorem mod_rg (a : Int) {p : Int} (hp : 0 < p) : 0 ≤ a % p ∧ a % p < p := ⟨Int.emod_nonneg _ (by omega), Int.emod_lt_of_pos _ hp⟩
theorem wS_rg {p : Int} {pt c : Nat → Int} {n : Nat} (hp : 0 < p) (hw : wf c n) (hpt : inP p pt 6) : ∀ j, j ≤ n → inP p (wS p pt c j) (hg c j) := by
  intro j
  induction j with
  | zero => intro _ i hi; exact absurd hi (Nat.not_lt_zero i)
  | succ j ih =>
    intro hj i hi
    have h1 := ih (by omega)
    have h2 := hw.2.1 j (by omega)
    by_cases c1 : c j < 6
    · simp (disch := omega) only [↓reduceIte, iT_lt, iF_lt, iT_le, iF_le, iT_eq, iF_eq, nT_lt, nF_lt, nT_le, nF_le, nT_eq, nF_eq, and_self, and_true, true_and, and_false, false_and, not_true_eq_false, not_false_eq_true, ne_eq, or_self, or_false, false_or, or_true, true_or, Option.bind_some, i32_lit, i64_lit, i32_add, i32_sub, i32_mul, i32_neg, i64_add, i64_sub, i64_neg, i32_lt, i32_le, i32_eq, i64_lt, i64_le, i64_eq, i32_cn, i32_cl, i32_l, i64_i, i32_nat, Int.toNat_natCast, hg] at hi
      simp (disch := omega) only [↓reduceIte, iT_lt, iF_lt, iT_le, iF_le, iT_eq, iF_eq, nT_lt, nF_lt, nT_le, nF_le, nT_eq, nF_eq, and_self, and_true, true_and, and_false, false_and, not_true_eq_false, not_false_eq_true, ne_eq, or_self, or_false, false_or, or_true, true_or, Option.bind_some, i32_lit, i64_lit, i32_add, i32_sub, i32_mul, i32_neg, i64_add, i64_sub, i64_neg, i32_lt, i32_le, i32_eq, i64_lt, i64_le, i64_eq, i32_cn, i32_cl, i32_l, i64_i, i32_nat, Int.toNat_natCast, wS]
      by_cases e : i = hg c j
      · rw [uI_t _ _ e]; exact hpt _ (by omega)
      · rw [uI_f _ _ (by omega)]; exact h1 i (by omega)
    · by_cases c2 : c j = 6
      · simp (disch := omega) only [↓reduceIte, iT_lt, iF_lt, iT_le, iF_le, iT_eq, iF_eq, nT_lt, nF_lt, nT_le, nF_le, nT_eq, nF_eq, and_self, and_true, true_and, and_false, false_and, not_true_eq_false, not_false_eq_true, ne_eq, or_self, or_false, false_or, or_true, true_or, Option.bind_some, i32_lit, i64_lit, i32_add, i32_sub, i32_mul, i32_neg, i64_add, i64_sub, i64_neg, i32_lt, i32_le, i32_eq, i64_lt, i64_le, i64_eq, i32_cn, i32_cl, i32_l, i64_i, i32_nat, Int.toNat_natCast, hg] at hi
        simp (disch := omega) only [↓reduceIte, iT_lt, iF_lt, iT_le, iF_le, iT_eq, iF_eq, nT_lt, nF_lt, nT_le, nF_le, nT_eq, nF_eq, and_self, and_true, true_and, and_false, false_and, not_true_eq_false, not_false_eq_true, ne_eq, or_self, or_false, false_or, or_true, true_or, Option.bind_some, i32_lit, i64_lit, i32_add, i32_sub, i32_mul, i32_neg, i64_add, i64_sub, i64_neg, i32_lt, i32_le, i32_eq, i64_lt, i64_le, i64_eq, i32_cn, i32_cl, i32_l, i64_i, i32_nat, Int.toNat_natCast, wS]
        by_cases e : i = hg c j - 1
        · rw [uI_t _ _ e]; exact mod_rg _ hp
        · rw [uI_f _ _ (by omega)]; exact h1 i (by omega)
      · have := h2.2.2.2 (by omega)
        simp (disch := omega) only [↓reduceIte, iT_lt, iF_lt, iT_le, iF_le, iT_eq, iF_eq, nT_lt, nF_lt, nT_le, nF_le, nT_eq, nF_eq, and_self, and_true, true_and, and_false, false_and, not_true_eq_false, not_false_eq_true, ne_eq, or_self, or_false, false_or, or_true, true_or, Option.bind_some, i32_lit, i64_lit, i32_add, i32_sub, i32_mul, i32_neg, i64_add, i64_sub, i64_neg, i32_lt, i32_le, i32_eq, i64_lt, i64_le, i64_eq, i32_cn, i32_cl, i32_l, i64_i, i32_nat, Int.toNat_natCast, hg] at hi
        by_cases c3 : c j = 7
        · simp (disch := omega) only [↓reduceIte, iT_lt, iF_lt, iT_le, iF_le, iT_eq, iF_eq, nT_lt, nF_lt, nT_le, nF_le, nT_eq, nF_eq, and_self, and_true, true_and, and_false, false_and, not_true_eq_false, not_false_eq_true, ne_eq, or_self, or_false, false_or, or_true, true_or, Option.bind_some, i32_lit, i64_lit, i32_add, i32_sub, i32_mul, i32_neg, i64_add, i64_sub, i64_neg, i32_lt, i32_le, i32_eq, i64_lt, i64_le, i64_eq, i32_cn, i32_cl, i32_l, i64_i, i32_nat, Int.toNat_natCast, wS]
          by_cases e : i = hg c j - 2
          · rw [uI_t _ _ e]; exact mod_rg _ hp
          · rw [uI_f _ _ (by omega)]; exact h1 i (by omega)
        · simp (disch := omega) only [↓reduceIte, iT_lt, iF_lt, iT_le, iF_le, iT_eq, iF_eq, nT_lt, nF_lt, nT_le, nF_le, nT_eq, nF_eq, and_self, and_true, true_and, and_false, false_and, not_true_eq_false, not_false_eq_true, ne_eq, or_self, or_false, false_or, or_true, true_or, Option.bind_some, i32_lit, i64_lit, i32_add, i32_sub, i32_mul, i32_neg, i64_add, i64_sub, i64_neg, i32_lt, i32_le, i32_eq, i64_lt, i64_le, i64_eq, i32_cn, i32_cl, i32_l, i64_i, i32_nat, Int.toNat_natCast, wS]
          by_cases e : i = hg c j - 2
          · rw [uI_t _ _ e]; exact mod_rg _ hp
          · rw [uI_f _ _ (by omega)]; exact h1 i (by omega)
theorem Wv_rg {p : Int} {pt c : Nat → Int} {n : Nat} (hp : 0 < p) (hw : wf c n) (hpt : inP p pt 6) : 0 ≤ Wv p pt c n ∧ Wv p pt c n < p := wS_rg hp hw hpt n (Nat.le_refl n) 0 (by have := hw.2.2.2; omega)
/-- WORTH looks at the point's places alone -/
theorem wS_cong {p : Int} {pt qt c : Nat → Int} {n m : Nat} (hc : ∀ j, j < n → c j < 6 → (c j).toNat < m) (h : ∀ i, i < m → pt i = qt i) : ∀ j, j ≤ n → wS p pt c j = wS p qt c j := by
  intro j
  induction j with
  | zero => intro _; rfl
  | succ j ih =>
    intro hj
    simp only [wS, ih (by omega)]
    by_cases c1 : c j < 6
    · simp only [c1, if_true]; rw [h _ (hc j (by omega) c1)]
    · simp only [c1, if_false]
def sgn (Z : hZ) (r : Nat) (c : Nat → Int) (n : Nat) : Prop := Z.2.1 (r + 1000) = n ∧ ∀ j, j < n → Z.2.2.1 (r + 1000) j = i32 (c j)
def rowJ (σ : hSt) (r : Nat) (f : Nat → Int) (n : Nat) : Prop := ∀ i, i < n → σ.2.1 r i = i64 (f i)
theorem p_worthOf_L {Z : hZ} {r n : Nat} {p : Int} {pt c : Nat → Int} (hs : sgn Z r c n) (hw : wf c n) (hp : 1 < p ∧ p ≤ 1000000007) (hpt : inP p pt 6) (K : hSt → Int32 → Option (Int64 × hSt)) :
    ∀ k j N σ, j + k = n → k < N → rowJ σ 9 pt 6 → rowJ σ 8 (wS p pt c j) (hg c j) → ∃ σ', f_X3_worthOf_L17 Z r (i64 p) (i32 n) K N σ (i32 (hg c j : Nat)) (i32 (j : Nat)) = K σ' (i32 (hg c n : Nat)) ∧ fr [8] σ σ' ∧ rowJ σ' 8 (wS p pt c n) (hg c n) := by
  intro k
  induction k with
  | zero =>
    intro j N σ hj hN h9 h8
    obtain ⟨N, rfl⟩ : ∃ q, N = q + 1 := ⟨N - 1, by omega⟩
    obtain rfl : j = n := by omega
    have := hw.1
    refine ⟨σ, ?_, fr_rf _ _, h8⟩
    rw [f_X3_worthOf_L17]
    simp (disch := omega) only [↓reduceIte, iT_lt, iF_lt, iT_le, iF_le, iT_eq, iF_eq, nT_lt, nF_lt, nT_le, nF_le, nT_eq, nF_eq, and_self, and_true, true_and, and_false, false_and, not_true_eq_false, not_false_eq_true, ne_eq, or_self, or_false, false_or, or_true, true_or, Option.bind_some, i32_lit, i64_lit, i32_add, i32_sub, i32_mul, i32_neg, i64_add, i64_sub, i64_neg, i32_lt, i32_le, i32_eq, i64_lt, i64_le, i64_eq, i32_cn, i32_cl, i32_l, i64_i, i32_nat, Int.toNat_natCast, sI_2, sJ_1, sJ_22, sR_1, sR_21, sI_t, sI_r, sI_j, sJ_t, sJ_r, sJ_j, sR_t, sR_r, sR_j]
  | succ k ih =>
    intro j N σ hj hN h9 h8
    obtain ⟨N, rfl⟩ : ∃ q, N = q + 1 := ⟨N - 1, by omega⟩
    have hn := hw.1
    have h2 := hw.2.1 j (by omega)
    have hh := hw.2.2.1 j (by omega)
    have hR := wS_rg (by omega) hw hpt j (by omega)
    rw [f_X3_worthOf_L17]
    have hc : Z.2.2.1 (r + 1000) j = i32 (c j) := hs.2 j (by omega)
    have step : ∀ (v : Int64) (q : Nat) (w : Int), v = i64 w → (∀ i, i < hg c (j + 1) → wS p pt c (j + 1) i = uI (wS p pt c j) q w i) → (hg c (j + 1) ≤ hg c j ∨ hg c (j + 1) = q + 1 ∧ q = hg c j) → ∃ σ', f_X3_worthOf_L17 Z r (i64 p) (i32 n) K N (sJ σ 8 q v) (i32 (hg c (j + 1) : Nat)) (i32 ((j + 1 : Nat) : Int)) = K σ' (i32 (hg c n : Nat)) ∧ fr [8] σ σ' ∧ rowJ σ' 8 (wS p pt c n) (hg c n) := by
      intro v q w hv hf hq
      obtain ⟨σ', e1, e2, e3⟩ := ih (j + 1) N (sJ σ 8 q v) (by omega) (by omega) (fun i hi => by rw [sJ_r _ _ (by omega)]; exact h9 i hi) (fun i hi => by
        rw [hf i hi]
        by_cases e : i = q
        · rw [sJ_t _ _ ⟨rfl, e⟩, uI_t _ _ e, hv]
        · rw [sJ_j _ _ (by omega), uI_f _ _ (by omega)]; exact h8 i (by omega))
      exact ⟨σ', e1, fr_tr (fr_sJ σ v (by rw [cd_a rfl]; decide)) e2, e3⟩
    have hj1 : (i32 (j : Int) + 1) = i32 ((j + 1 : Nat) : Int) := by rw [i32_lit, i32_add]; rfl
    rw [hj1]
    by_cases c1 : c j < 6
    · have hg1 : hg c (j + 1) = hg c j + 1 := by simp (disch := omega) only [↓reduceIte, iT_lt, iF_lt, iT_le, iF_le, iT_eq, iF_eq, nT_lt, nF_lt, nT_le, nF_le, nT_eq, nF_eq, and_self, and_true, true_and, and_false, false_and, not_true_eq_false, not_false_eq_true, ne_eq, or_self, or_false, false_or, or_true, true_or, Option.bind_some, i32_lit, i64_lit, i32_add, i32_sub, i32_mul, i32_neg, i64_add, i64_sub, i64_neg, i32_lt, i32_le, i32_eq, i64_lt, i64_le, i64_eq, i32_cn, i32_cl, i32_l, i64_i, i32_nat, Int.toNat_natCast, hg]
      have s := step (i64 (pt (c j).toNat)) (hg c j) (pt (c j).toNat) rfl (fun i hi => by simp (disch := omega) only [↓reduceIte, iT_lt, iF_lt, iT_le, iF_le, iT_eq, iF_eq, nT_lt, nF_lt, nT_le, nF_le, nT_eq, nF_eq, and_self, and_true, true_and, and_false, false_and, not_true_eq_false, not_false_eq_true, ne_eq, or_self, or_false, false_or, or_true, true_or, Option.bind_some, i32_lit, i64_lit, i32_add, i32_sub, i32_mul, i32_neg, i64_add, i64_sub, i64_neg, i32_lt, i32_le, i32_eq, i64_lt, i64_le, i64_eq, i32_cn, i32_cl, i32_l, i64_i, i32_nat, Int.toNat_natCast, wS]) (Or.inr ⟨hg1, rfl⟩)
      rw [hg1] at s
      have h99 := h9 (c j).toNat (by omega)
      simp (disch := omega) only [↓reduceIte, iT_lt, iF_lt, iT_le, iF_le, iT_eq, iF_eq, nT_lt, nF_lt, nT_le, nF_le, nT_eq, nF_eq, and_self, and_true, true_and, and_false, false_and, not_true_eq_false, not_false_eq_true, ne_eq, or_self, or_false, false_or, or_true, true_or, Option.bind_some, i32_lit, i64_lit, i32_add, i32_sub, i32_mul, i32_neg, i64_add, i64_sub, i64_neg, i32_lt, i32_le, i32_eq, i64_lt, i64_le, i64_eq, i32_cn, i32_cl, i32_l, i64_i, i32_nat, Int.toNat_natCast, sI_2, sJ_1, sJ_22, sR_1, sR_21, sI_t, sI_r, sI_j, sJ_t, sJ_r, sJ_j, sR_t, sR_r, sR_j, hc, hs.1, h99]
      exact s
    · by_cases c2 : c j = 6
      · have hg1 : hg c (j + 1) = hg c j := by simp (disch := omega) only [↓reduceIte, iT_lt, iF_lt, iT_le, iF_le, iT_eq, iF_eq, nT_lt, nF_lt, nT_le, nF_le, nT_eq, nF_eq, and_self, and_true, true_and, and_false, false_and, not_true_eq_false, not_false_eq_true, ne_eq, or_self, or_false, false_or, or_true, true_or, Option.bind_some, i32_lit, i64_lit, i32_add, i32_sub, i32_mul, i32_neg, i64_add, i64_sub, i64_neg, i32_lt, i32_le, i32_eq, i64_lt, i64_le, i64_eq, i32_cn, i32_cl, i32_l, i64_i, i32_nat, Int.toNat_natCast, hg]
        have h3 := h2.2.2.1 c2
        have s := step (i64 ((1 - wS p pt c j (hg c j - 1)) % p)) (hg c j - 1) _ rfl (fun i hi => by simp (disch := omega) only [↓reduceIte, iT_lt, iF_lt, iT_le, iF_le, iT_eq, iF_eq, nT_lt, nF_lt, nT_le, nF_le, nT_eq, nF_eq, and_self, and_true, true_and, and_false, false_and, not_true_eq_false, not_false_eq_true, ne_eq, or_self, or_false, false_or, or_true, true_or, Option.bind_some, i32_lit, i64_lit, i32_add, i32_sub, i32_mul, i32_neg, i64_add, i64_sub, i64_neg, i32_lt, i32_le, i32_eq, i64_lt, i64_le, i64_eq, i32_cn, i32_cl, i32_l, i64_i, i32_nat, Int.toNat_natCast, wS]) (Or.inl (by omega))
        rw [hg1] at s
        have h88 := h8 (hg c j - 1) (by omega)
        have hr := hR (hg c j - 1) (by omega)
        have e1 : ((hg c j : Nat) : Int) - 1 = ((hg c j - 1 : Nat) : Int) := by omega
        have hm := p_minus (a := 1) (p := p) ⟨by omega, by omega⟩ hr hp.2
        simp (disch := omega) only [↓reduceIte, iT_lt, iF_lt, iT_le, iF_le, iT_eq, iF_eq, nT_lt, nF_lt, nT_le, nF_le, nT_eq, nF_eq, and_self, and_true, true_and, and_false, false_and, not_true_eq_false, not_false_eq_true, ne_eq, or_self, or_false, false_or, or_true, true_or, Option.bind_some, i32_lit, i64_lit, i32_add, i32_sub, i32_mul, i32_neg, i64_add, i64_sub, i64_neg, i32_lt, i32_le, i32_eq, i64_lt, i64_le, i64_eq, i32_cn, i32_cl, i32_l, i64_i, i32_nat, Int.toNat_natCast, sI_2, sJ_1, sJ_22, sR_1, sR_21, sI_t, sI_r, sI_j, sJ_t, sJ_r, sJ_j, sR_t, sR_r, sR_j, hc, hs.1, e1, h88, hm]
        exact s
      · have h3 := h2.2.2.2 (by omega)
        have hg1 : hg c (j + 1) = hg c j - 1 := by simp (disch := omega) only [↓reduceIte, iT_lt, iF_lt, iT_le, iF_le, iT_eq, iF_eq, nT_lt, nF_lt, nT_le, nF_le, nT_eq, nF_eq, and_self, and_true, true_and, and_false, false_and, not_true_eq_false, not_false_eq_true, ne_eq, or_self, or_false, false_or, or_true, true_or, Option.bind_some, i32_lit, i64_lit, i32_add, i32_sub, i32_mul, i32_neg, i64_add, i64_sub, i64_neg, i32_lt, i32_le, i32_eq, i64_lt, i64_le, i64_eq, i32_cn, i32_cl, i32_l, i64_i, i32_nat, Int.toNat_natCast, hg]
        have hu := h8 (hg c j - 2) (by omega)
        have hv := h8 (hg c j - 1) (by omega)
        have hur := hR (hg c j - 2) (by omega)
        have hvr := hR (hg c j - 1) (by omega)
        have e1 : ((hg c j : Nat) : Int) - 1 = ((hg c j - 1 : Nat) : Int) := by omega
        have e2 : ((hg c j - 1 : Nat) : Int) - 1 = ((hg c j - 2 : Nat) : Int) := by omega
        have e3 : ((hg c j : Nat) : Int) + -1 = ((hg c j - 1 : Nat) : Int) := by omega
        have ht := p_times hur hvr hp.2
        by_cases c3 : c j = 7
        · have s := step (i64 (wS p pt c j (hg c j - 2) * wS p pt c j (hg c j - 1) % p)) (hg c j - 2) _ rfl (fun i hi => by simp (disch := omega) only [↓reduceIte, iT_lt, iF_lt, iT_le, iF_le, iT_eq, iF_eq, nT_lt, nF_lt, nT_le, nF_le, nT_eq, nF_eq, and_self, and_true, true_and, and_false, false_and, not_true_eq_false, not_false_eq_true, ne_eq, or_self, or_false, false_or, or_true, true_or, Option.bind_some, i32_lit, i64_lit, i32_add, i32_sub, i32_mul, i32_neg, i64_add, i64_sub, i64_neg, i32_lt, i32_le, i32_eq, i64_lt, i64_le, i64_eq, i32_cn, i32_cl, i32_l, i64_i, i32_nat, Int.toNat_natCast, wS]) (Or.inl (by omega))
          rw [hg1] at s
          simp (disch := omega) only [↓reduceIte, iT_lt, iF_lt, iT_le, iF_le, iT_eq, iF_eq, nT_lt, nF_lt, nT_le, nF_le, nT_eq, nF_eq, and_self, and_true, true_and, and_false, false_and, not_true_eq_false, not_false_eq_true, ne_eq, or_self, or_false, false_or, or_true, true_or, Option.bind_some, i32_lit, i64_lit, i32_add, i32_sub, i32_mul, i32_neg, i64_add, i64_sub, i64_neg, i32_lt, i32_le, i32_eq, i64_lt, i64_le, i64_eq, i32_cn, i32_cl, i32_l, i64_i, i32_nat, Int.toNat_natCast, sI_2, sJ_1, sJ_22, sR_1, sR_21, sI_t, sI_r, sI_j, sJ_t, sJ_r, sJ_j, sR_t, sR_r, sR_j, hc, hs.1, e1, e2, e3, hu, hv, ht]
          exact s
        · have s := step (i64 ((wS p pt c j (hg c j - 2) + wS p pt c j (hg c j - 1) - wS p pt c j (hg c j - 2) * wS p pt c j (hg c j - 1)) % p)) (hg c j - 2) _ rfl (fun i hi => by simp (disch := omega) only [↓reduceIte, iT_lt, iF_lt, iT_le, iF_le, iT_eq, iF_eq, nT_lt, nF_lt, nT_le, nF_le, nT_eq, nF_eq, and_self, and_true, true_and, and_false, false_and, not_true_eq_false, not_false_eq_true, ne_eq, or_self, or_false, false_or, or_true, true_or, Option.bind_some, i32_lit, i64_lit, i32_add, i32_sub, i32_mul, i32_neg, i64_add, i64_sub, i64_neg, i32_lt, i32_le, i32_eq, i64_lt, i64_le, i64_eq, i32_cn, i32_cl, i32_l, i64_i, i32_nat, Int.toNat_natCast, wS]) (Or.inl (by omega))
          rw [hg1] at s
          have ha := p_plus hur hvr hp.2
          have hb := p_minus (mod_rg (wS p pt c j (hg c j - 2) + wS p pt c j (hg c j - 1)) (by omega : 0 < p)) (mod_rg (wS p pt c j (hg c j - 2) * wS p pt c j (hg c j - 1)) (by omega : 0 < p)) hp.2
          rw [← Int.sub_emod] at hb
          simp (disch := omega) only [↓reduceIte, iT_lt, iF_lt, iT_le, iF_le, iT_eq, iF_eq, nT_lt, nF_lt, nT_le, nF_le, nT_eq, nF_eq, and_self, and_true, true_and, and_false, false_and, not_true_eq_false, not_false_eq_true, ne_eq, or_self, or_false, false_or, or_true, true_or, Option.bind_some, i32_lit, i64_lit, i32_add, i32_sub, i32_mul, i32_neg, i64_add, i64_sub, i64_neg, i32_lt, i32_le, i32_eq, i64_lt, i64_le, i64_eq, i32_cn, i32_cl, i32_l, i64_i, i32_nat, Int.toNat_natCast, sI_2, sJ_1, sJ_22, sR_1, sR_21, sI_t, sI_r, sI_j, sJ_t, sJ_r, sJ_j, sR_t, sR_r, sR_j, hc, hs.1, e1, e2, e3, hu, hv, ht, ha, hb]
          exact s
theorem p_worthOf {Z : hZ} {r n F : Nat} {p : Int} {pt c : Nat → Int} (hF : 300 ≤ F) (hs : sgn Z r c n) (hw : wf c n) (hp : 1 < p ∧ p ≤ 1000000007) (hpt : inP p pt 6) (σ : hSt) (h9 : rowJ σ 9 pt 6) : ∃ σ', f_X3_worthOf F Z σ r (i64 p) = some (i64 (Wv p pt c n), σ') ∧ fr [8] σ σ' := by
  unfold f_X3_worthOf
  have hn := hw.1
  rw [hs.1, i32_nat]
  obtain ⟨σ', e1, e2, e3⟩ := p_worthOf_L hs hw hp hpt _ n 0 F σ (by omega) (by omega) h9 (fun i hi => absurd hi (Nat.not_lt_zero i))
  refine ⟨σ', ?_, e2⟩
  refine Eq.trans e1 ?_
  have h8 := e3 0 (by rw [hw.2.2.2]; exact Nat.one_pos)
  rw [hw.2.2.2]
  simp (disch := omega) only [↓reduceIte, iT_lt, iF_lt, iT_le, iF_le, iT_eq, iF_eq, nT_lt, nF_lt, nT_le, nF_le, nT_eq, nF_eq, and_self, and_true, true_and, and_false, false_and, not_true_eq_false, not_false_eq_true, ne_eq, or_self, or_false, false_or, or_true, true_or, Option.bind_some, i32_lit, i64_lit, i32_add, i32_sub, i32_mul, i32_neg, i64_add, i64_sub, i64_neg, i32_lt, i32_le, i32_eq, i64_lt, i64_le, i64_eq, i32_cn, i32_cl, i32_l, i64_i, i32_nat, Int.toNat_natCast, sI_2, sJ_1, sJ_22, sR_1, sR_21, sI_t, sI_r, sI_j, sJ_t, sJ_r, sJ_j, sR_t, sR_r, sR_j]
  show some (σ'.2.1 8 0, σ') = _
  rw [h8]; rfl
