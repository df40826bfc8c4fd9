/-! games with the point set for the first names alone -/
theorem rowJ_lo {σ : hSt} {r i : Nat} {pt : Nat → Int} {v : Int} (h : rowJ σ r (uI pt i v) (i + 1)) : rowJ σ r pt i := fun x hx => by
  have := h x (by omega)
  rw [uI_f _ _ (by omega)] at this
  exact this
theorem pg_gw {Z : hZ} {r n nm F tn : Nat} {p : Int} {c : Nat → Int} (hF : 300 ≤ F) (hs : sgn Z r c n) (hn : Z.2.2.1 r 2 = i32 (nm : Nat)) (hw : wf c n) (hc : nmB c n nm) (hp : 1 < p ∧ p ≤ 1000000007) (ht : tn < 64) :
    ∀ k i d σ pt, i + k = nm → k < d → rowJ σ 9 pt i → inP p pt 6 → ∃ σ', (G_X3g F Z d) σ r (i32 tn) (i64 p) (i32 i) = some (i64 (gF p c n tn k i pt), σ') ∧ fr [8, 9] σ σ' ∧ rowJ σ' 9 pt i := by
  intro k
  induction k with
  | zero =>
    intro i d σ pt hi hd h9 hpt
    obtain ⟨d, rfl⟩ : ∃ q, d = q + 1 := ⟨d - 1, by omega⟩
    obtain rfl : i = nm := by omega
    obtain ⟨σ', e1, e2⟩ := pg_worthOf (Z := Z) hF hs hw hc hp hpt σ h9
    have := hc.1
    refine ⟨σ', ?_, fr_mono e2 (by decide), ?_⟩
    · rw [G_X3g, b_X3_gameWorth]
      simp (disch := omega) only [↓reduceIte, iT_lt, iF_lt, iT_le, iF_le, iT_eq, iF_eq, nT_lt, nF_lt, nT_le, nF_le, nT_eq, nF_eq, and_self, and_true, true_and, and_false, false_and, not_true_eq_false, not_false_eq_true, ne_eq, or_self, or_false, false_or, or_true, true_or, Option.bind_some, i32_lit, i64_lit, i32_add, i32_sub, i32_mul, i32_neg, i64_add, i64_sub, i64_neg, i32_lt, i32_le, i32_eq, i64_lt, i64_le, i64_eq, i32_cn, i32_cl, i32_l, i64_i, i32_nat, Int.toNat_natCast, sI_2, sJ_1, sJ_22, sR_1, sR_21, sI_t, sI_r, sI_j, sJ_t, sJ_r, sJ_j, sR_t, sR_r, sR_j, hn, e1]
      rfl
    · unfold rowJ; rw [fr_J e2 9 rfl (by decide)]; exact h9
  | succ k ih =>
    intro i d σ pt hi hd h9 hpt
    obtain ⟨d, rfl⟩ : ∃ q, d = q + 1 := ⟨d - 1, by omega⟩
    have hc1 := hc.1
    have f0 : fr [8, 9] σ (sJ σ 9 i (i64 0)) := fr_sJ σ _ (by rw [cd_a rfl]; decide)
    obtain ⟨υ, a1, a2, a3⟩ := ih (i + 1) d (sJ σ 9 i (i64 0)) (uI pt i 0) (by omega) (by omega) (rowJ_ex h9) (uI_in hpt (by omega))
    have f1 : fr [8, 9] υ (sJ υ 9 i (i64 1)) := fr_sJ υ _ (by rw [cd_a rfl]; decide)
    have f2 := fr_tr (fr_tr f0 a2) f1
    obtain ⟨υ2, b1, b2, b3⟩ := ih (i + 1) d (sJ υ 9 i (i64 1)) (uI pt i 1) (by omega) (by omega) (rowJ_ex (rowJ_lo a3)) (uI_in hpt (by omega))
    have r1 := gF_rg (tn := tn) hp.1 hw k (i + 1) _ (uI_in (i := i) (v := 0) hpt (by omega))
    have r2 := gF_rg (tn := tn) hp.1 hw k (i + 1) _ (uI_in (i := i) (v := 1) hpt (by omega))
    have p0 := p_put (Z := Z) σ (i := i) 0 (by omega)
    have p1 := p_put (Z := Z) υ (i := i) 1 (by omega)
    have t1 := p_times r1 r2 hp.2
    have t2 := p_plus r1 r2 hp.2
    have t3 := p_minus (mod_rg (gF p c n tn k (i + 1) (uI pt i 0) + gF p c n tn k (i + 1) (uI pt i 1)) (by omega : 0 < p)) (mod_rg (gF p c n tn k (i + 1) (uI pt i 0) * gF p c n tn k (i + 1) (uI pt i 1)) (by omega : 0 < p)) hp.2
    rw [← Int.sub_emod] at t3
    refine ⟨υ2, ?_, fr_tr f2 b2, rowJ_lo b3⟩
    have hb := bit_rg tn i
    rw [G_X3g, b_X3_gameWorth, gF]
    by_cases hbit : tn / 2 ^ i % 2 = 1
    · simp (disch := omega) only [↓reduceIte, iT_lt, iF_lt, iT_le, iF_le, iT_eq, iF_eq, nT_lt, nF_lt, nT_le, nF_le, nT_eq, nF_eq, and_self, and_true, true_and, and_false, false_and, not_true_eq_false, not_false_eq_true, ne_eq, or_self, or_false, false_or, or_true, true_or, Option.bind_some, i32_lit, i64_lit, i32_add, i32_sub, i32_mul, i32_neg, i64_add, i64_sub, i64_neg, i32_lt, i32_le, i32_eq, i64_lt, i64_le, i64_eq, i32_cn, i32_cl, i32_l, i64_i, i32_nat, Int.toNat_natCast, sI_2, sJ_1, sJ_22, sR_1, sR_21, sI_t, sI_r, sI_j, sJ_t, sJ_r, sJ_j, sR_t, sR_r, sR_j, hn, p0]
      rw [show (i : Int) + 1 = ((i + 1 : Nat) : Int) from rfl, a1]
      simp (disch := omega) only [↓reduceIte, iT_lt, iF_lt, iT_le, iF_le, iT_eq, iF_eq, nT_lt, nF_lt, nT_le, nF_le, nT_eq, nF_eq, and_self, and_true, true_and, and_false, false_and, not_true_eq_false, not_false_eq_true, ne_eq, or_self, or_false, false_or, or_true, true_or, Option.bind_some, i32_lit, i64_lit, i32_add, i32_sub, i32_mul, i32_neg, i64_add, i64_sub, i64_neg, i32_lt, i32_le, i32_eq, i64_lt, i64_le, i64_eq, i32_cn, i32_cl, i32_l, i64_i, i32_nat, Int.toNat_natCast, sI_2, sJ_1, sJ_22, sR_1, sR_21, sI_t, sI_r, sI_j, sJ_t, sJ_r, sJ_j, sR_t, sR_r, sR_j, p1]
      rw [b1]
      simp (disch := omega) only [↓reduceIte, iT_lt, iF_lt, iT_le, iF_le, iT_eq, iF_eq, nT_lt, nF_lt, nT_le, nF_le, nT_eq, nF_eq, and_self, and_true, true_and, and_false, false_and, not_true_eq_false, not_false_eq_true, ne_eq, or_self, or_false, false_or, or_true, true_or, Option.bind_some, i32_lit, i64_lit, i32_add, i32_sub, i32_mul, i32_neg, i64_add, i64_sub, i64_neg, i32_lt, i32_le, i32_eq, i64_lt, i64_le, i64_eq, i32_cn, i32_cl, i32_l, i64_i, i32_nat, Int.toNat_natCast, sI_2, sJ_1, sJ_22, sR_1, sR_21, sI_t, sI_r, sI_j, sJ_t, sJ_r, sJ_j, sR_t, sR_r, sR_j, t1, bitI ht (show i < 32 by omega), hbit]
    · simp (disch := omega) only [↓reduceIte, iT_lt, iF_lt, iT_le, iF_le, iT_eq, iF_eq, nT_lt, nF_lt, nT_le, nF_le, nT_eq, nF_eq, and_self, and_true, true_and, and_false, false_and, not_true_eq_false, not_false_eq_true, ne_eq, or_self, or_false, false_or, or_true, true_or, Option.bind_some, i32_lit, i64_lit, i32_add, i32_sub, i32_mul, i32_neg, i64_add, i64_sub, i64_neg, i32_lt, i32_le, i32_eq, i64_lt, i64_le, i64_eq, i32_cn, i32_cl, i32_l, i64_i, i32_nat, Int.toNat_natCast, sI_2, sJ_1, sJ_22, sR_1, sR_21, sI_t, sI_r, sI_j, sJ_t, sJ_r, sJ_j, sR_t, sR_r, sR_j, hn, p0]
      rw [show (i : Int) + 1 = ((i + 1 : Nat) : Int) from rfl, a1]
      simp (disch := omega) only [↓reduceIte, iT_lt, iF_lt, iT_le, iF_le, iT_eq, iF_eq, nT_lt, nF_lt, nT_le, nF_le, nT_eq, nF_eq, and_self, and_true, true_and, and_false, false_and, not_true_eq_false, not_false_eq_true, ne_eq, or_self, or_false, false_or, or_true, true_or, Option.bind_some, i32_lit, i64_lit, i32_add, i32_sub, i32_mul, i32_neg, i64_add, i64_sub, i64_neg, i32_lt, i32_le, i32_eq, i64_lt, i64_le, i64_eq, i32_cn, i32_cl, i32_l, i64_i, i32_nat, Int.toNat_natCast, sI_2, sJ_1, sJ_22, sR_1, sR_21, sI_t, sI_r, sI_j, sJ_t, sJ_r, sJ_j, sR_t, sR_r, sR_j, p1]
      rw [b1]
      simp (disch := omega) only [↓reduceIte, iT_lt, iF_lt, iT_le, iF_le, iT_eq, iF_eq, nT_lt, nF_lt, nT_le, nF_le, nT_eq, nF_eq, and_self, and_true, true_and, and_false, false_and, not_true_eq_false, not_false_eq_true, ne_eq, or_self, or_false, false_or, or_true, true_or, Option.bind_some, i32_lit, i64_lit, i32_add, i32_sub, i32_mul, i32_neg, i64_add, i64_sub, i64_neg, i32_lt, i32_le, i32_eq, i64_lt, i64_le, i64_eq, i32_cn, i32_cl, i32_l, i64_i, i32_nat, Int.toNat_natCast, sI_2, sJ_1, sJ_22, sR_1, sR_21, sI_t, sI_r, sI_j, sJ_t, sJ_r, sJ_j, sR_t, sR_r, sR_j, t1, t2, t3, bitI ht (show i < 32 by omega)]
theorem pg_mfold {Z : hZ} {s n nm F tn : Nat} {p : Int} {c : Nat → Int} (hF : 300 ≤ F) (hw : wf c n) (hc : nmB c n nm) (hp : 1 < p ∧ p ≤ 1000000007) (ht : tn < 64) :
    ∀ k i d τ pt, i + k = nm ∨ (k = 0 ∧ nm ≤ i ∧ i ≤ 6) → k < d → mSg τ s c n → τ.1 204 s = i32 (nm : Nat) → rowJ τ 208 pt i → inP p pt 6 → ∃ υ, (G_Mf F Z d) τ (i32 s) (i32 tn) (i32 i) (i64 p) = some (i64 (gF p c n tn k i pt), υ) ∧ fr [207, 208] τ υ ∧ rowJ υ 208 pt i := by
  intro k
  induction k with
  | zero =>
    intro i d τ pt hi hd hs hn h9 hpt
    obtain ⟨d, rfl⟩ : ∃ q, d = q + 1 := ⟨d - 1, by omega⟩
    obtain ⟨υ, e1, e2⟩ := pg_mworth (Z := Z) hF τ hs hw hc hp hpt (fun x hx => h9 x (by omega))
    have := hs.1
    have := hc.1
    refine ⟨υ, ?_, fr_mono e2 (by decide), ?_⟩
    · rw [G_Mf, b_X12_folded]
      simp (disch := omega) only [↓reduceIte, iT_lt, iF_lt, iT_le, iF_le, iT_eq, iF_eq, nT_lt, nF_lt, nT_le, nF_le, nT_eq, nF_eq, and_self, and_true, true_and, and_false, false_and, not_true_eq_false, not_false_eq_true, ne_eq, or_self, or_false, false_or, or_true, true_or, Option.bind_some, i32_lit, i64_lit, i32_add, i32_sub, i32_mul, i32_neg, i64_add, i64_sub, i64_neg, i32_lt, i32_le, i32_eq, i64_lt, i64_le, i64_eq, i32_cn, i32_cl, i32_l, i64_i, i32_nat, Int.toNat_natCast, sI_2, sJ_1, sJ_22, sR_1, sR_21, sI_t, sI_r, sI_j, sJ_t, sJ_r, sJ_j, sR_t, sR_r, sR_j, hn, e1]
      rfl
    · unfold rowJ; rw [fr_J e2 208 rfl (by decide)]; exact h9
  | succ k ih =>
    intro i d τ pt hi hd hs hn h9 hpt
    obtain ⟨d, rfl⟩ : ∃ q, d = q + 1 := ⟨d - 1, by omega⟩
    have hs1 := hs.1
    have hc1 := hc.1
    have f0 : fr [207, 208] τ (sJ τ 208 i (i64 0)) := fr_sJ τ _ (by rw [cd_a rfl]; decide)
    obtain ⟨υ, a1, a2, a3⟩ := ih (i + 1) d (sJ τ 208 i (i64 0)) (uI pt i 0) (by omega) (by omega) (mSg_fr f0 (by decide) (by decide) hs) hn (rowJ_ex h9) (uI_in hpt (by omega))
    have f1 : fr [207, 208] υ (sJ υ 208 i (i64 1)) := fr_sJ υ _ (by rw [cd_a rfl]; decide)
    have f2 := fr_tr (fr_tr f0 a2) f1
    obtain ⟨υ2, b1, b2, b3⟩ := ih (i + 1) d (sJ υ 208 i (i64 1)) (uI pt i 1) (by omega) (by omega) (mSg_fr f2 (by decide) (by decide) hs) (by rw [fr_I f2 204 rfl (by decide)]; exact hn) (rowJ_ex (rowJ_lo a3)) (uI_in hpt (by omega))
    have r1 := gF_rg (tn := tn) hp.1 hw k (i + 1) _ (uI_in (i := i) (v := 0) hpt (by omega))
    have r2 := gF_rg (tn := tn) hp.1 hw k (i + 1) _ (uI_in (i := i) (v := 1) hpt (by omega))
    have hb2 := mul_bd r1 r2 hp.2
    have hm := mod_rg (gF p c n tn k (i + 1) (uI pt i 0) * gF p c n tn k (i + 1) (uI pt i 1)) (by omega : 0 < p)
    have t3 := p_mrest (a := gF p c n tn k (i + 1) (uI pt i 0) + gF p c n tn k (i + 1) (uI pt i 1) - gF p c n tn k (i + 1) (uI pt i 0) * gF p c n tn k (i + 1) (uI pt i 1) % p) (p := p) ⟨by omega, by omega⟩ ⟨by omega, by omega⟩
    rw [Int.sub_emod_emod] at t3
    refine ⟨υ2, ?_, fr_tr f2 b2, rowJ_lo b3⟩
    have hb := bit_rg tn i
    rw [G_Mf, b_X12_folded, gF]
    by_cases hbit : tn / 2 ^ i % 2 = 1
    · simp (disch := omega) only [↓reduceIte, iT_lt, iF_lt, iT_le, iF_le, iT_eq, iF_eq, nT_lt, nF_lt, nT_le, nF_le, nT_eq, nF_eq, and_self, and_true, true_and, and_false, false_and, not_true_eq_false, not_false_eq_true, ne_eq, or_self, or_false, false_or, or_true, true_or, Option.bind_some, i32_lit, i64_lit, i32_add, i32_sub, i32_mul, i32_neg, i64_add, i64_sub, i64_neg, i32_lt, i32_le, i32_eq, i64_lt, i64_le, i64_eq, i32_cn, i32_cl, i32_l, i64_i, i32_nat, Int.toNat_natCast, sI_2, sJ_1, sJ_22, sR_1, sR_21, sI_t, sI_r, sI_j, sJ_t, sJ_r, sJ_j, sR_t, sR_r, sR_j, hn]
      rw [show (i : Int) + 1 = ((i + 1 : Nat) : Int) from rfl, a1]
      simp (disch := omega) only [↓reduceIte, iT_lt, iF_lt, iT_le, iF_le, iT_eq, iF_eq, nT_lt, nF_lt, nT_le, nF_le, nT_eq, nF_eq, and_self, and_true, true_and, and_false, false_and, not_true_eq_false, not_false_eq_true, ne_eq, or_self, or_false, false_or, or_true, true_or, Option.bind_some, i32_lit, i64_lit, i32_add, i32_sub, i32_mul, i32_neg, i64_add, i64_sub, i64_neg, i32_lt, i32_le, i32_eq, i64_lt, i64_le, i64_eq, i32_cn, i32_cl, i32_l, i64_i, i32_nat, Int.toNat_natCast, sI_2, sJ_1, sJ_22, sR_1, sR_21, sI_t, sI_r, sI_j, sJ_t, sJ_r, sJ_j, sR_t, sR_r, sR_j]
      rw [b1]
      simp (disch := omega) only [↓reduceIte, iT_lt, iF_lt, iT_le, iF_le, iT_eq, iF_eq, nT_lt, nF_lt, nT_le, nF_le, nT_eq, nF_eq, and_self, and_true, true_and, and_false, false_and, not_true_eq_false, not_false_eq_true, ne_eq, or_self, or_false, false_or, or_true, true_or, Option.bind_some, i32_lit, i64_lit, i32_add, i32_sub, i32_mul, i32_neg, i64_add, i64_sub, i64_neg, i32_lt, i32_le, i32_eq, i64_lt, i64_le, i64_eq, i32_cn, i32_cl, i32_l, i64_i, i32_nat, Int.toNat_natCast, sI_2, sJ_1, sJ_22, sR_1, sR_21, sI_t, sI_r, sI_j, sJ_t, sJ_r, sJ_j, sR_t, sR_r, sR_j, i64_mul, i64_rem, bitI ht (show i < 32 by omega), hbit]
    · simp (disch := omega) only [↓reduceIte, iT_lt, iF_lt, iT_le, iF_le, iT_eq, iF_eq, nT_lt, nF_lt, nT_le, nF_le, nT_eq, nF_eq, and_self, and_true, true_and, and_false, false_and, not_true_eq_false, not_false_eq_true, ne_eq, or_self, or_false, false_or, or_true, true_or, Option.bind_some, i32_lit, i64_lit, i32_add, i32_sub, i32_mul, i32_neg, i64_add, i64_sub, i64_neg, i32_lt, i32_le, i32_eq, i64_lt, i64_le, i64_eq, i32_cn, i32_cl, i32_l, i64_i, i32_nat, Int.toNat_natCast, sI_2, sJ_1, sJ_22, sR_1, sR_21, sI_t, sI_r, sI_j, sJ_t, sJ_r, sJ_j, sR_t, sR_r, sR_j, hn]
      rw [show (i : Int) + 1 = ((i + 1 : Nat) : Int) from rfl, a1]
      simp (disch := omega) only [↓reduceIte, iT_lt, iF_lt, iT_le, iF_le, iT_eq, iF_eq, nT_lt, nF_lt, nT_le, nF_le, nT_eq, nF_eq, and_self, and_true, true_and, and_false, false_and, not_true_eq_false, not_false_eq_true, ne_eq, or_self, or_false, false_or, or_true, true_or, Option.bind_some, i32_lit, i64_lit, i32_add, i32_sub, i32_mul, i32_neg, i64_add, i64_sub, i64_neg, i32_lt, i32_le, i32_eq, i64_lt, i64_le, i64_eq, i32_cn, i32_cl, i32_l, i64_i, i32_nat, Int.toNat_natCast, sI_2, sJ_1, sJ_22, sR_1, sR_21, sI_t, sI_r, sI_j, sJ_t, sJ_r, sJ_j, sR_t, sR_r, sR_j]
      rw [b1]
      simp (disch := omega) only [↓reduceIte, iT_lt, iF_lt, iT_le, iF_le, iT_eq, iF_eq, nT_lt, nF_lt, nT_le, nF_le, nT_eq, nF_eq, and_self, and_true, true_and, and_false, false_and, not_true_eq_false, not_false_eq_true, ne_eq, or_self, or_false, false_or, or_true, true_or, Option.bind_some, i32_lit, i64_lit, i32_add, i32_sub, i32_mul, i32_neg, i64_add, i64_sub, i64_neg, i32_lt, i32_le, i32_eq, i64_lt, i64_le, i64_eq, i32_cn, i32_cl, i32_l, i64_i, i32_nat, Int.toNat_natCast, sI_2, sJ_1, sJ_22, sR_1, sR_21, sI_t, sI_r, sI_j, sJ_t, sJ_r, sJ_j, sR_t, sR_r, sR_j, i64_mul, i64_rem, t3, bitI ht (show i < 32 by omega)]
