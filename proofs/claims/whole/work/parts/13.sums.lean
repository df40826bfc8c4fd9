/-! sums over corners -/
def sumF (p : Int) (c : Nat → Int) (n : Nat) : Nat → Nat → (Nat → Int) → Int
  | 0, _, pt => Wv p pt c n
  | k + 1, i, pt => (sumF p c n k (i + 1) (uI pt i 0) + sumF p c n k (i + 1) (uI pt i 1)) % p
def sB (f : Nat → Int) : Nat → Int
  | 0 => 0
  | m + 1 => sB f m + f m
theorem sB_cong {f g : Nat → Int} : ∀ m, (∀ b, b < m → f b = g b) → sB f m = sB g m
  | 0, _ => rfl
  | m + 1, h => by rw [sB, sB, sB_cong m (fun b hb => h b (by omega)), h m (by omega)]
theorem sB_two (f : Nat → Int) : ∀ m, sB f (2 * m) = sB (fun b => f (2 * b)) m + sB (fun b => f (2 * b + 1)) m
  | 0 => rfl
  | m + 1 => by
    show sB f (2 * m + 1 + 1) = _
    rw [sB, sB, sB_two f m, sB, sB]
    omega
def ptC (pt : Nat → Int) (i k b : Nat) : Nat → Int := fun x => if i ≤ x ∧ x < i + k then ((b / 2 ^ (x - i) % 2 : Nat) : Int) else pt x
theorem ptC_even (pt : Nat → Int) (i k b : Nat) : ptC (uI pt i 0) (i + 1) k b = ptC pt i (k + 1) (2 * b) := by
  funext x
  unfold ptC
  by_cases h : x = i
  · subst h
    simp (disch := omega) only [↓reduceIte, iT_lt, iF_lt, iT_le, iF_le, iT_eq, iF_eq, nT_lt, nF_lt, nT_le, nF_le, nT_eq, nF_eq, and_self, and_true, true_and, and_false, false_and, not_true_eq_false, not_false_eq_true, ne_eq, or_self, or_false, false_or, or_true, true_or, Option.bind_some, i32_lit, i64_lit, i32_add, i32_sub, i32_mul, i32_neg, i64_add, i64_sub, i64_neg, i32_lt, i32_le, i32_eq, i64_lt, i64_le, i64_eq, i32_cn, i32_cl, i32_l, i64_i, i32_nat, Int.toNat_natCast, uI_t]
    simp
  · by_cases h2 : i + 1 ≤ x ∧ x < i + 1 + k
    · rw [if_pos h2, if_pos (by omega)]
      obtain ⟨m, rfl⟩ : ∃ m, x = i + 1 + m := ⟨x - (i + 1), by omega⟩
      rw [show i + 1 + m - (i + 1) = m by omega, show i + 1 + m - i = m + 1 by omega, Nat.pow_succ, Nat.mul_comm (2 ^ m) 2, Nat.mul_div_mul_left _ _ (by decide)]
    · rw [if_neg h2, if_neg (by omega), uI_f _ _ (by omega)]
theorem ptC_odd (pt : Nat → Int) (i k b : Nat) : ptC (uI pt i 1) (i + 1) k b = ptC pt i (k + 1) (2 * b + 1) := by
  funext x
  unfold ptC
  by_cases h : x = i
  · subst h
    simp (disch := omega) only [↓reduceIte, iT_lt, iF_lt, iT_le, iF_le, iT_eq, iF_eq, nT_lt, nF_lt, nT_le, nF_le, nT_eq, nF_eq, and_self, and_true, true_and, and_false, false_and, not_true_eq_false, not_false_eq_true, ne_eq, or_self, or_false, false_or, or_true, true_or, Option.bind_some, i32_lit, i64_lit, i32_add, i32_sub, i32_mul, i32_neg, i64_add, i64_sub, i64_neg, i32_lt, i32_le, i32_eq, i64_lt, i64_le, i64_eq, i32_cn, i32_cl, i32_l, i64_i, i32_nat, Int.toNat_natCast, uI_t]
    simp
  · by_cases h2 : i + 1 ≤ x ∧ x < i + 1 + k
    · rw [if_pos h2, if_pos (by omega)]
      obtain ⟨m, rfl⟩ : ∃ m, x = i + 1 + m := ⟨x - (i + 1), by omega⟩
      rw [show i + 1 + m - (i + 1) = m by omega, show i + 1 + m - i = m + 1 by omega, Nat.pow_succ, Nat.mul_comm (2 ^ m) 2, ← Nat.div_div_eq_div_mul, show (2 * b + 1) / 2 = b by omega]
    · rw [if_neg h2, if_neg (by omega), uI_f _ _ (by omega)]
theorem uI_in {p : Int} {pt : Nat → Int} {i m : Nat} {v : Int} (h : inP p pt m) (hv : 0 ≤ v ∧ v < p) : inP p (uI pt i v) m := by
  intro x hx
  by_cases e : x = i
  · rw [uI_t _ _ e]; exact hv
  · rw [uI_f _ _ (by omega)]; exact h x hx
theorem ptC_in {p : Int} {pt : Nat → Int} {i k b m : Nat} (hp : 1 < p) (h : inP p pt m) : inP p (ptC pt i k b) m := by
  intro x hx
  unfold ptC
  split
  · omega
  · exact h x hx
theorem sumF_B {p : Int} {c : Nat → Int} {n : Nat} (hp : 1 < p) (hw : wf c n) : ∀ k i pt, inP p pt 6 → sumF p c n k i pt = sB (fun b => Wv p (ptC pt i k b) c n) (2 ^ k) % p := by
  intro k
  induction k with
  | zero =>
    intro i pt h
    have e : ptC pt i 0 0 = pt := by funext x; unfold ptC; rw [if_neg (by omega)]
    have := Wv_rg (by omega) hw h
    show Wv p pt c n = (0 + Wv p (ptC pt i 0 0) c n) % p
    rw [e, Int.zero_add, Int.emod_eq_of_lt this.1 this.2]
  | succ k ih =>
    intro i pt h
    rw [sumF, ih _ _ (uI_in h (by omega)), ih _ _ (uI_in h (by omega)), ← Int.add_emod, Nat.pow_succ, Nat.mul_comm (2 ^ k) 2, sB_two]
    simp only [ptC_even, ptC_odd]
theorem sumF_rg {p : Int} {c : Nat → Int} {n : Nat} (hp : 1 < p) (hw : wf c n) (k i : Nat) {pt : Nat → Int} (h : inP p pt 6) : 0 ≤ sumF p c n k i pt ∧ sumF p c n k i pt < p := by
  rw [sumF_B hp hw k i pt h]; exact mod_rg _ (by omega)
/-- all NAMES of the signs are below this -/
def nmB (c : Nat → Int) (n nm : Nat) : Prop := nm ≤ 6 ∧ ∀ j, j < n → c j < 6 → c j < nm
theorem Wv_cong {p : Int} {pt qt c : Nat → Int} {n m : Nat} (hw : wf c n) (hc : nmB c n m) (h : ∀ i, i < m → pt i = qt i) : Wv p pt c n = Wv p qt c n := by
  unfold Wv
  rw [wS_cong (m := m) (n := n) (fun j hj hl => by have := hc.2 j hj hl; have := (hw.2.1 j hj).1; omega) h n (Nat.le_refl n)]
theorem sumF_cong {p : Int} {c : Nat → Int} {n nm : Nat} (hw : wf c n) (hc : nmB c n nm) : ∀ k i pt qt, nm ≤ i + k → (∀ x, x < i → pt x = qt x) → sumF p c n k i pt = sumF p c n k i qt := by
  intro k
  induction k with
  | zero => intro i pt qt hi h; exact Wv_cong hw hc (fun x hx => h x (by omega))
  | succ k ih =>
    intro i pt qt hi h
    have f : ∀ v : Int, ∀ x, x < i + 1 → uI pt i v x = uI qt i v x := by
      intro v x hx
      by_cases e : x = i
      · rw [uI_t _ _ e, uI_t _ _ e]
      · rw [uI_f _ _ (by omega), uI_f _ _ (by omega)]; exact h x (by omega)
    rw [sumF, sumF, ih _ _ _ (by omega) (f 0), ih _ _ _ (by omega) (f 1)]
theorem rowJ_up {σ : hSt} {r m i : Nat} {f : Nat → Int} {v : Int} (h : rowJ σ r f m) : rowJ (sJ σ r i (i64 v)) r (uI f i v) m := by
  intro x hx
  by_cases e : x = i
  · rw [sJ_t _ _ ⟨rfl, e⟩, uI_t _ _ e]
  · rw [sJ_j _ _ (by omega), uI_f _ _ (by omega)]; exact h x hx
theorem p_msum {Z : hZ} {s n nm F : Nat} {p : Int} {c : Nat → Int} (hF : 300 ≤ F) (hw : wf c n) (hc : nmB c n nm) (hp : 1 < p ∧ p ≤ 1000000007) :
    ∀ k i d τ pt, i + k = nm ∨ (k = 0 ∧ nm ≤ i ∧ i ≤ 6) → k < d → mSg τ s c n → τ.1 204 s = i32 (nm : Nat) → rowJ τ 208 pt 6 → inP p pt 6 → ∃ υ qt, (G_Ms F Z d) τ (i32 s) (i32 i) (i64 p) = some (i64 (sumF p c n k i pt), υ) ∧ fr [207, 208] τ υ ∧ rowJ υ 208 qt 6 ∧ inP p qt 6 ∧ ∀ x, x < i → qt x = pt x := by
  intro k
  induction k with
  | zero =>
    intro i d τ pt hi hd hs hn h9 hpt
    obtain ⟨d, rfl⟩ : ∃ q, d = q + 1 := ⟨d - 1, by omega⟩
    obtain ⟨υ, e1, e2⟩ := p_mworth (Z := Z) hF τ hs hw hp hpt h9
    have := hs.1
    have := hc.1
    refine ⟨υ, pt, ?_, fr_mono e2 (by decide), ?_, hpt, fun _ _ => rfl⟩
    · rw [G_Ms, b_X12_sumFrom]
      simp (disch := omega) only [↓reduceIte, iT_lt, iF_lt, iT_le, iF_le, iT_eq, iF_eq, nT_lt, nF_lt, nT_le, nF_le, nT_eq, nF_eq, and_self, and_true, true_and, and_false, false_and, not_true_eq_false, not_false_eq_true, ne_eq, or_self, or_false, false_or, or_true, true_or, Option.bind_some, i32_lit, i64_lit, i32_add, i32_sub, i32_mul, i32_neg, i64_add, i64_sub, i64_neg, i32_lt, i32_le, i32_eq, i64_lt, i64_le, i64_eq, i32_cn, i32_cl, i32_l, i64_i, i32_nat, Int.toNat_natCast, sI_2, sJ_1, sJ_22, sR_1, sR_21, sI_t, sI_r, sI_j, sJ_t, sJ_r, sJ_j, sR_t, sR_r, sR_j, hn, e1]
      rfl
    · unfold rowJ; rw [fr_J e2 208 rfl (by decide)]; exact h9
  | succ k ih =>
    intro i d τ pt hi hd hs hn h9 hpt
    obtain ⟨d, rfl⟩ : ∃ q, d = q + 1 := ⟨d - 1, by omega⟩
    have hs1 := hs.1
    have hc1 := hc.1
    have f0 : fr [207, 208] τ (sJ τ 208 i (i64 0)) := fr_sJ τ _ (by rw [cd_a rfl]; decide)
    obtain ⟨υ, qt, a1, a2, a3, a4, a5⟩ := ih (i + 1) d (sJ τ 208 i (i64 0)) (uI pt i 0) (by omega) (by omega) (mSg_fr f0 (by decide) (by decide) hs) hn (rowJ_up h9) (uI_in hpt (by omega))
    have f1 : fr [207, 208] υ (sJ υ 208 i (i64 1)) := fr_sJ υ _ (by rw [cd_a rfl]; decide)
    have f2 := fr_tr (fr_tr f0 a2) f1
    obtain ⟨υ2, qt2, b1, b2, b3, b4, b5⟩ := ih (i + 1) d (sJ υ 208 i (i64 1)) (uI qt i 1) (by omega) (by omega) (mSg_fr f2 (by decide) (by decide) hs) (by rw [fr_I f2 204 rfl (by decide)]; exact hn) (rowJ_up a3) (uI_in a4 (by omega))
    have e3 : sumF p c n k (i + 1) (uI qt i 1) = sumF p c n k (i + 1) (uI pt i 1) := sumF_cong hw hc k (i + 1) _ _ (by omega) (fun x hx => by
      by_cases e : x = i
      · rw [uI_t _ _ e, uI_t _ _ e]
      · rw [uI_f _ _ (by omega), uI_f _ _ (by omega), a5 x (by omega), uI_f _ _ (by omega)])
    rw [e3] at b1
    have r1 := sumF_rg hp.1 hw k (i + 1) (uI_in (i := i) (v := 0) hpt (by omega))
    have r2 := sumF_rg hp.1 hw k (i + 1) (uI_in (i := i) (v := 1) hpt (by omega))
    refine ⟨υ2, qt2, ?_, fr_tr f2 b2, b3, b4, fun x hx => ?_⟩
    · rw [G_Ms, b_X12_sumFrom]
      have hj1 : (i32 (i : Int) + i32 1) = i32 ((i + 1 : Nat) : Int) := by rw [i32_add]; rfl
      simp (disch := omega) only [↓reduceIte, iT_lt, iF_lt, iT_le, iF_le, iT_eq, iF_eq, nT_lt, nF_lt, nT_le, nF_le, nT_eq, nF_eq, and_self, and_true, true_and, and_false, false_and, not_true_eq_false, not_false_eq_true, ne_eq, or_self, or_false, false_or, or_true, true_or, Option.bind_some, i32_lit, i64_lit, i32_add, i32_sub, i32_mul, i32_neg, i64_add, i64_sub, i64_neg, i32_lt, i32_le, i32_eq, i64_lt, i64_le, i64_eq, i32_cn, i32_cl, i32_l, i64_i, i32_nat, Int.toNat_natCast, sI_2, sJ_1, sJ_22, sR_1, sR_21, sI_t, sI_r, sI_j, sJ_t, sJ_r, sJ_j, sR_t, sR_r, sR_j, hn]
      rw [show (i : Int) + 1 = ((i + 1 : Nat) : Int) from rfl, a1]
      simp (disch := omega) only [↓reduceIte, iT_lt, iF_lt, iT_le, iF_le, iT_eq, iF_eq, nT_lt, nF_lt, nT_le, nF_le, nT_eq, nF_eq, and_self, and_true, true_and, and_false, false_and, not_true_eq_false, not_false_eq_true, ne_eq, or_self, or_false, false_or, or_true, true_or, Option.bind_some, i32_lit, i64_lit, i32_add, i32_sub, i32_mul, i32_neg, i64_add, i64_sub, i64_neg, i32_lt, i32_le, i32_eq, i64_lt, i64_le, i64_eq, i32_cn, i32_cl, i32_l, i64_i, i32_nat, Int.toNat_natCast, sI_2, sJ_1, sJ_22, sR_1, sR_21, sI_t, sI_r, sI_j, sJ_t, sJ_r, sJ_j, sR_t, sR_r, sR_j]
      rw [b1]
      simp (disch := omega) only [↓reduceIte, iT_lt, iF_lt, iT_le, iF_le, iT_eq, iF_eq, nT_lt, nF_lt, nT_le, nF_le, nT_eq, nF_eq, and_self, and_true, true_and, and_false, false_and, not_true_eq_false, not_false_eq_true, ne_eq, or_self, or_false, false_or, or_true, true_or, Option.bind_some, i32_lit, i64_lit, i32_add, i32_sub, i32_mul, i32_neg, i64_add, i64_sub, i64_neg, i32_lt, i32_le, i32_eq, i64_lt, i64_le, i64_eq, i32_cn, i32_cl, i32_l, i64_i, i32_nat, Int.toNat_natCast, sI_2, sJ_1, sJ_22, sR_1, sR_21, sI_t, sI_r, sI_j, sJ_t, sJ_r, sJ_j, sR_t, sR_r, sR_j, i64_rem, sumF]
    · rw [b5 x (by omega), uI_f _ _ (by omega), a5 x (by omega), uI_f _ _ (by omega)]
theorem p_put {Z : hZ} (σ : hSt) {i : Nat} (v : Int) (hi : i < 6) : f_X3_put Z σ (i32 (i : Int)) (i64 v) = some ((), sJ σ 9 i (i64 v)) := by
  unfold f_X3_put
  simp (disch := omega) only [↓reduceIte, iT_lt, iF_lt, iT_le, iF_le, iT_eq, iF_eq, nT_lt, nF_lt, nT_le, nF_le, nT_eq, nF_eq, and_self, and_true, true_and, and_false, false_and, not_true_eq_false, not_false_eq_true, ne_eq, or_self, or_false, false_or, or_true, true_or, Option.bind_some, i32_lit, i64_lit, i32_add, i32_sub, i32_mul, i32_neg, i64_add, i64_sub, i64_neg, i32_lt, i32_le, i32_eq, i64_lt, i64_le, i64_eq, i32_cn, i32_cl, i32_l, i64_i, i32_nat, Int.toNat_natCast, sI_2, sJ_1, sJ_22, sR_1, sR_21, sI_t, sI_r, sI_j, sJ_t, sJ_r, sJ_j, sR_t, sR_r, sR_j]
theorem bit_i32 {b t : Nat} (hb : b < 64) (ht : t < 6) : (i32 (b : Int) >>> (i32 (t : Int) &&& 31)) &&& 1 = i32 ((b / 2 ^ t % 2 : Nat) : Int) := by
  rw [i32_shr (by omega) (by omega), i32_and1]
  congr 1
theorem bit_rg (b t : Nat) : b / 2 ^ t % 2 ≤ 1 := by omega
theorem p_over_L30 {Z : hZ} {i f b : Nat} {pt : Nat → Int} {p tot : Int64} (hif : i + f ≤ 6) (hb : b < 64) (K : hSt → Option (Int64 × hSt)) :
    ∀ k t N σ, t + k = f → k < N → (∃ qt, rowJ σ 9 qt 6 ∧ (∀ x, x < 6 → (x < i ∨ i + f ≤ x) → qt x = pt x) ∧ ∀ x, i ≤ x → x < i + t → qt x = ((b / 2 ^ (x - i) % 2 : Nat) : Int)) → ∃ σ', f_X3_overCorners_L30 Z (i32 i) p (i32 f) tot (i32 b) K N σ (i32 t) = K σ' ∧ fr [9] σ σ' ∧ rowJ σ' 9 (ptC pt i f b) 6 := by
  intro k
  induction k with
  | zero =>
    intro t N σ ht hN h
    obtain ⟨N, rfl⟩ : ∃ q, N = q + 1 := ⟨N - 1, by omega⟩
    obtain rfl : t = f := by omega
    obtain ⟨qt, h1, h2, h3⟩ := h
    refine ⟨σ, ?_, fr_rf _ _, fun x hx => ?_⟩
    · rw [f_X3_overCorners_L30]
      simp (disch := omega) only [↓reduceIte, iT_lt, iF_lt, iT_le, iF_le, iT_eq, iF_eq, nT_lt, nF_lt, nT_le, nF_le, nT_eq, nF_eq, and_self, and_true, true_and, and_false, false_and, not_true_eq_false, not_false_eq_true, ne_eq, or_self, or_false, false_or, or_true, true_or, Option.bind_some, i32_lit, i64_lit, i32_add, i32_sub, i32_mul, i32_neg, i64_add, i64_sub, i64_neg, i32_lt, i32_le, i32_eq, i64_lt, i64_le, i64_eq, i32_cn, i32_cl, i32_l, i64_i, i32_nat, Int.toNat_natCast, sI_2, sJ_1, sJ_22, sR_1, sR_21, sI_t, sI_r, sI_j, sJ_t, sJ_r, sJ_j, sR_t, sR_r, sR_j]
    · rw [h1 x hx]
      unfold ptC
      by_cases c : i ≤ x ∧ x < i + t
      · rw [if_pos c, h3 x c.1 c.2]
      · rw [if_neg c, h2 x hx (by omega)]
  | succ k ih =>
    intro t N σ ht hN h
    obtain ⟨N, rfl⟩ : ∃ q, N = q + 1 := ⟨N - 1, by omega⟩
    obtain ⟨qt, h1, h2, h3⟩ := h
    have f1 : fr [9] σ (sJ σ 9 (i + t) (i64 ((b / 2 ^ t % 2 : Nat) : Int))) := fr_sJ σ _ (by rw [cd_a rfl]; decide)
    obtain ⟨σ', e1, e2, e3⟩ := ih (t + 1) N (sJ σ 9 (i + t) (i64 ((b / 2 ^ t % 2 : Nat) : Int))) (by omega) (by omega) ⟨uI qt (i + t) ((b / 2 ^ t % 2 : Nat) : Int), rowJ_up h1, fun x hx hc => by rw [uI_f _ _ (by omega)]; exact h2 x hx hc, fun x ha hc => by
      by_cases e : x = i + t
      · rw [uI_t _ _ e, e, show i + t - i = t by omega]
      · rw [uI_f _ _ (by omega)]; exact h3 x ha (by omega)⟩
    refine ⟨σ', ?_, fr_tr f1 e2, e3⟩
    rw [← e1, f_X3_overCorners_L30, bit_i32 hb (by omega)]
    have h9 := bit_rg b t
    have hp := p_put (Z := Z) σ (i := i + t) ((b / 2 ^ t % 2 : Nat) : Int) (by omega)
    rw [Int.natCast_add] at hp
    simp (disch := omega) only [↓reduceIte, iT_lt, iF_lt, iT_le, iF_le, iT_eq, iF_eq, nT_lt, nF_lt, nT_le, nF_le, nT_eq, nF_eq, and_self, and_true, true_and, and_false, false_and, not_true_eq_false, not_false_eq_true, ne_eq, or_self, or_false, false_or, or_true, true_or, Option.bind_some, i32_lit, i64_lit, i32_add, i32_sub, i32_mul, i32_neg, i64_add, i64_sub, i64_neg, i32_lt, i32_le, i32_eq, i64_lt, i64_le, i64_eq, i32_cn, i32_cl, i32_l, i64_i, i32_nat, Int.toNat_natCast, sI_2, sJ_1, sJ_22, sR_1, sR_21, sI_t, sI_r, sI_j, sJ_t, sJ_r, sJ_j, sR_t, sR_r, sR_j, hp]
    rfl
theorem sh1 {f : Nat} (hf : f < 7) : (1 : Int32) <<< (i32 (f : Int) &&& 31) = i32 ((2 ^ f : Nat) : Int) := by
  rw [i32_lit, i32_shl _ (by omega)]
  congr 1
  simp
theorem p_over_L18 {Z : hZ} {r n nm F i f : Nat} {p : Int} {pt c : Nat → Int} (hF : 300 ≤ F) (hs : sgn Z r c n) (hw : wf c n) (hc : nmB c n nm) (hp : 1 < p ∧ p ≤ 1000000007) (hpt : inP p pt 6) (hif : i + f = nm ∨ (f = 0 ∧ i ≤ 6)) :
    ∀ k b N σ, b + k = 2 ^ f → k < N → (∃ qt, rowJ σ 9 qt 6 ∧ (∀ x, x < 6 → (x < i ∨ i + f ≤ x) → qt x = pt x) ∧ inP p qt 6) → ∃ σ', f_X3_overCorners_L18 F Z r (i32 i) (i64 p) (i32 f) N σ (i64 (sB (fun b => Wv p (ptC pt i f b) c n) b % p)) (i32 b) = some (i64 (sB (fun b => Wv p (ptC pt i f b) c n) (2 ^ f) % p), σ') ∧ fr [8, 9] σ σ' ∧ ∃ qt, rowJ σ' 9 qt 6 ∧ (∀ x, x < 6 → (x < i ∨ i + f ≤ x) → qt x = pt x) ∧ inP p qt 6 := by
  have hnm := hc.1
  have h2f : 2 ^ f ≤ 64 := by
    have : 2 ^ f ≤ 2 ^ 6 := Nat.pow_le_pow_right (by decide) (by omega)
    simpa using this
  intro k
  induction k with
  | zero =>
    intro b N σ hb hN h
    obtain ⟨N, rfl⟩ : ∃ q, N = q + 1 := ⟨N - 1, by omega⟩
    obtain rfl : b = 2 ^ f := by omega
    refine ⟨σ, ?_, fr_rf _ _, h⟩
    rw [f_X3_overCorners_L18, sh1 (by omega), if_pos (Int32.le_refl _)]
  | succ k ih =>
    intro b N σ hb hN h
    obtain ⟨N, rfl⟩ : ∃ q, N = q + 1 := ⟨N - 1, by omega⟩
    obtain ⟨qt, h1, h2, -⟩ := h
    obtain ⟨σ1, a1, a2, a3⟩ := p_over_L30 (Z := Z) (i := i) (f := f) (b := b) (pt := pt) (p := i64 p) (tot := i64 (sB (fun b => Wv p (ptC pt i f b) c n) b % p)) (by omega) (by omega) (fun σ1 => (f_X3_worthOf F Z σ1 r (i64 p)).bind fun q5 => (f_X3_plus (i64 (sB (fun b => Wv p (ptC pt i f b) c n) b % p)) q5.1 (i64 p)).bind fun q6 => f_X3_overCorners_L18 F Z r (i32 i) (i64 p) (i32 f) N q5.2 q6 (i32 b + (1 : Int32))) f 0 F σ (by omega) (by omega) ⟨qt, h1, h2, fun x ha hb => absurd hb (by omega)⟩
    have hq := ptC_in (i := i) (k := f) (b := b) hp.1 hpt
    obtain ⟨σ2, b1, b2⟩ := p_worthOf (Z := Z) (F := F) hF hs hw hp hq σ1 a3
    have r1 := Wv_rg (by omega) hw hq
    have r2 := p_plus (mod_rg (sB (fun b => Wv p (ptC pt i f b) c n) b) (by omega : 0 < p)) r1 hp.2
    rw [Int.emod_add_emod] at r2
    have f2 : fr [8, 9] σ σ2 := fr_tr (fr_mono a2 (by decide)) (fr_mono b2 (by decide))
    obtain ⟨σ3, c1, c2, c3⟩ := ih (b + 1) N σ2 (by omega) (by omega) ⟨ptC pt i f b, by unfold rowJ; rw [fr_J b2 9 rfl (by decide)]; exact a3, fun x hx hh => by unfold ptC; rw [if_neg (by omega)], hq⟩
    refine ⟨σ3, ?_, fr_tr f2 c2, c3⟩
    rw [f_X3_overCorners_L18, sh1 (by omega)]
    rw [show ((0 : Nat) : Int) = 0 from rfl, ← i32_lit0] at a1
    simp (disch := omega) only [↓reduceIte, iT_lt, iF_lt, iT_le, iF_le, iT_eq, iF_eq, nT_lt, nF_lt, nT_le, nF_le, nT_eq, nF_eq, and_self, and_true, true_and, and_false, false_and, not_true_eq_false, not_false_eq_true, ne_eq, or_self, or_false, false_or, or_true, true_or, Option.bind_some, i32_lit, i64_lit, i32_add, i32_sub, i32_mul, i32_neg, i64_add, i64_sub, i64_neg, i32_lt, i32_le, i32_eq, i64_lt, i64_le, i64_eq, i32_cn, i32_cl, i32_l, i64_i, i32_nat, Int.toNat_natCast, sI_2, sJ_1, sJ_22, sR_1, sR_21, sI_t, sI_r, sI_j, sJ_t, sJ_r, sJ_j, sR_t, sR_r, sR_j]
    rw [i32_lit0, i32_lit 1, i32_add] at a1
    refine Eq.trans a1 ?_
    rw [b1]
    simp (disch := omega) only [↓reduceIte, iT_lt, iF_lt, iT_le, iF_le, iT_eq, iF_eq, nT_lt, nF_lt, nT_le, nF_le, nT_eq, nF_eq, and_self, and_true, true_and, and_false, false_and, not_true_eq_false, not_false_eq_true, ne_eq, or_self, or_false, false_or, or_true, true_or, Option.bind_some, i32_lit, i64_lit, i32_add, i32_sub, i32_mul, i32_neg, i64_add, i64_sub, i64_neg, i32_lt, i32_le, i32_eq, i64_lt, i64_le, i64_eq, i32_cn, i32_cl, i32_l, i64_i, i32_nat, Int.toNat_natCast, sI_2, sJ_1, sJ_22, sR_1, sR_21, sI_t, sI_r, sI_j, sJ_t, sJ_r, sJ_j, sR_t, sR_r, sR_j, r2]
    exact c1
theorem p_over {Z : hZ} {r n nm F i : Nat} {p : Int} {pt c : Nat → Int} (hF : 300 ≤ F) (hs : sgn Z r c n) (hn : Z.2.2.1 r 2 = i32 (nm : Nat)) (hw : wf c n) (hc : nmB c n nm) (hp : 1 < p ∧ p ≤ 1000000007) (hpt : inP p pt 6) (hi : i ≤ 6) (σ : hSt) (h9 : rowJ σ 9 pt 6) :
    ∃ σ', f_X3_overCorners F Z σ r (i32 i) (i64 p) = some (i64 (sumF p c n (nm - i) i pt), σ') ∧ fr [8, 9] σ σ' ∧ ∃ qt, rowJ σ' 9 qt 6 ∧ inP p qt 6 ∧ (∀ x, x < i → qt x = pt x) := by
  have hnm := hc.1
  have h64 : 2 ^ (nm - i) ≤ 64 := by
    have : 2 ^ (nm - i) ≤ 2 ^ 6 := Nat.pow_le_pow_right (by decide) (by omega)
    simpa using this
  obtain ⟨σ', e1, e2, qt, e3, e4, e5⟩ := p_over_L18 (F := F) hF hs hw hc hp hpt (i := i) (f := nm - i) (by omega) (2 ^ (nm - i)) 0 F σ (by omega) (by omega) ⟨pt, h9, fun _ _ _ => rfl, hpt⟩
  refine ⟨σ', ?_, e2, qt, e3, e5, fun x hx => e4 x (by omega) (Or.inl hx)⟩
  rw [sumF_B hp.1 hw _ _ _ hpt, ← e1]
  unfold f_X3_overCorners
  rw [hn, i32_sub]
  by_cases h : i < nm
  · have e : (nm : Int) - (i : Int) = ((nm - i : Nat) : Int) := by omega
    simp (disch := omega) only [↓reduceIte, iT_lt, iF_lt, iT_le, iF_le, iT_eq, iF_eq, nT_lt, nF_lt, nT_le, nF_le, nT_eq, nF_eq, and_self, and_true, true_and, and_false, false_and, not_true_eq_false, not_false_eq_true, ne_eq, or_self, or_false, false_or, or_true, true_or, Option.bind_some, i32_lit, i64_lit, i32_add, i32_sub, i32_mul, i32_neg, i64_add, i64_sub, i64_neg, i32_lt, i32_le, i32_eq, i64_lt, i64_le, i64_eq, i32_cn, i32_cl, i32_l, i64_i, i32_nat, Int.toNat_natCast, sI_2, sJ_1, sJ_22, sR_1, sR_21, sI_t, sI_r, sI_j, sJ_t, sJ_r, sJ_j, sR_t, sR_r, sR_j, e, sB, Int.zero_emod]
    rfl
  · have e : nm - i = 0 := by omega
    rw [e]
    simp (disch := omega) only [↓reduceIte, iT_lt, iF_lt, iT_le, iF_le, iT_eq, iF_eq, nT_lt, nF_lt, nT_le, nF_le, nT_eq, nF_eq, and_self, and_true, true_and, and_false, false_and, not_true_eq_false, not_false_eq_true, ne_eq, or_self, or_false, false_or, or_true, true_or, Option.bind_some, i32_lit, i64_lit, i32_add, i32_sub, i32_mul, i32_neg, i64_add, i64_sub, i64_neg, i32_lt, i32_le, i32_eq, i64_lt, i64_le, i64_eq, i32_cn, i32_cl, i32_l, i64_i, i32_nat, Int.toNat_natCast, sI_2, sJ_1, sJ_22, sR_1, sR_21, sI_t, sI_r, sI_j, sJ_t, sJ_r, sJ_j, sR_t, sR_r, sR_j, sB, Int.zero_emod]
    rfl
