/-! GAMES -/
def gF (p : Int) (c : Nat → Int) (n tn : Nat) : Nat → Nat → (Nat → Int) → Int
  | 0, _, pt => Wv p pt c n
  | k + 1, i, pt => if tn / 2 ^ i % 2 = 1 then gF p c n tn k (i + 1) (uI pt i 0) * gF p c n tn k (i + 1) (uI pt i 1) % p else (gF p c n tn k (i + 1) (uI pt i 0) + gF p c n tn k (i + 1) (uI pt i 1) - gF p c n tn k (i + 1) (uI pt i 0) * gF p c n tn k (i + 1) (uI pt i 1)) % p
theorem gF_rg {p : Int} {c : Nat → Int} {n tn : Nat} (hp : 1 < p) (hw : wf c n) : ∀ k i pt, inP p pt 6 → 0 ≤ gF p c n tn k i pt ∧ gF p c n tn k i pt < p := by
  intro k
  cases k with
  | zero => intro i pt h; exact Wv_rg (by omega) hw h
  | succ k =>
    intro i pt h
    rw [gF]
    split
    · exact mod_rg _ (by omega)
    · exact mod_rg _ (by omega)
theorem gF_cong {p : Int} {c : Nat → Int} {n nm tn : Nat} (hw : wf c n) (hc : nmB c n nm) : ∀ k i pt qt, nm ≤ i + k → (∀ x, x < i → pt x = qt x) → gF p c n tn k i pt = gF p c n tn k i qt := by
  intro k
  induction k with
  | zero => intro i pt qt hi h; exact Wv_cong hw hc (fun x hx => h x (by omega))
  | succ k ih =>
    intro i pt qt hi h
    have f : ∀ v : Int, ∀ x, x < i + 1 → uI pt i v x = uI qt i v x := by
      intro v x hx
      by_cases e : x = i
      · rw [uI_t _ _ e, uI_t _ _ e]
      · rw [uI_f _ _ (by omega), uI_f _ _ (by omega)]; exact h x (by omega)
    rw [gF, gF, ih _ _ _ (by omega) (f 0), ih _ _ _ (by omega) (f 1)]
theorem bitI {b t : Nat} (hb : b < 64) (ht : t < 32) : (i32 (b : Int) >>> (i32 (t : Int) &&& i32 31)) &&& i32 1 = i32 ((b / 2 ^ t % 2 : Nat) : Int) := by
  rw [show i32 31 = (31 : Int32) from rfl, i32_shr ht (by omega), show i32 1 = (1 : Int32) from rfl, i32_and1]
  congr 1
theorem p_gw {Z : hZ} {r n nm F tn : Nat} {p : Int} {c : Nat → Int} (hF : 300 ≤ F) (hs : sgn Z r c n) (hn : Z.2.2.1 r 2 = i32 (nm : Nat)) (hw : wf c n) (hc : nmB c n nm) (hp : 1 < p ∧ p ≤ 1000000007) (ht : tn < 64) :
    ∀ k i d σ pt, i + k = nm → k < d → rowJ σ 9 pt 6 → inP p pt 6 → ∃ σ' qt, (G_X3g F Z d) σ r (i32 tn) (i64 p) (i32 i) = some (i64 (gF p c n tn k i pt), σ') ∧ fr [8, 9] σ σ' ∧ rowJ σ' 9 qt 6 ∧ inP p qt 6 ∧ ∀ x, x < i → qt x = pt x := by
  intro k
  induction k with
  | zero =>
    intro i d σ pt hi hd h9 hpt
    obtain ⟨d, rfl⟩ : ∃ q, d = q + 1 := ⟨d - 1, by omega⟩
    obtain ⟨σ', e1, e2⟩ := p_worthOf (Z := Z) hF hs hw hp hpt σ h9
    have := hc.1
    refine ⟨σ', pt, ?_, fr_mono e2 (by decide), ?_, hpt, fun _ _ => rfl⟩
    · rw [G_X3g, b_X3_gameWorth]
      simp (disch := omega) only [↓reduceIte, iT_lt, iF_lt, iT_le, iF_le, iT_eq, iF_eq, nT_lt, nF_lt, nT_le, nF_le, nT_eq, nF_eq, and_self, and_true, true_and, and_false, false_and, not_true_eq_false, not_false_eq_true, ne_eq, or_self, or_false, false_or, or_true, true_or, Option.bind_some, i32_lit, i64_lit, i32_add, i32_sub, i32_mul, i32_neg, i64_add, i64_sub, i64_neg, i32_lt, i32_le, i32_eq, i64_lt, i64_le, i64_eq, i32_cn, i32_cl, i32_l, i64_i, i32_nat, Int.toNat_natCast, sI_2, sJ_1, sJ_22, sR_1, sR_21, sI_t, sI_r, sI_j, sJ_t, sJ_r, sJ_j, sR_t, sR_r, sR_j, hn, e1]
      rfl
    · unfold rowJ; rw [fr_J e2 9 rfl (by decide)]; exact h9
  | succ k ih =>
    intro i d σ pt hi hd h9 hpt
    obtain ⟨d, rfl⟩ : ∃ q, d = q + 1 := ⟨d - 1, by omega⟩
    have hc1 := hc.1
    have f0 : fr [8, 9] σ (sJ σ 9 i (i64 0)) := fr_sJ σ _ (by rw [cd_a rfl]; decide)
    obtain ⟨υ, qt, a1, a2, a3, a4, a5⟩ := ih (i + 1) d (sJ σ 9 i (i64 0)) (uI pt i 0) (by omega) (by omega) (rowJ_up h9) (uI_in hpt (by omega))
    have f1 : fr [8, 9] υ (sJ υ 9 i (i64 1)) := fr_sJ υ _ (by rw [cd_a rfl]; decide)
    have f2 := fr_tr (fr_tr f0 a2) f1
    obtain ⟨υ2, qt2, b1, b2, b3, b4, b5⟩ := ih (i + 1) d (sJ υ 9 i (i64 1)) (uI qt i 1) (by omega) (by omega) (rowJ_up a3) (uI_in a4 (by omega))
    have e3 : gF p c n tn k (i + 1) (uI qt i 1) = gF p c n tn k (i + 1) (uI pt i 1) := gF_cong hw hc k (i + 1) _ _ (by omega) (fun x hx => by
      by_cases e : x = i
      · rw [uI_t _ _ e, uI_t _ _ e]
      · rw [uI_f _ _ (by omega), uI_f _ _ (by omega), a5 x (by omega), uI_f _ _ (by omega)])
    rw [e3] at b1
    have r1 := gF_rg (tn := tn) hp.1 hw k (i + 1) _ (uI_in (i := i) (v := 0) hpt (by omega))
    have r2 := gF_rg (tn := tn) hp.1 hw k (i + 1) _ (uI_in (i := i) (v := 1) hpt (by omega))
    have p0 := p_put (Z := Z) σ (i := i) 0 (by omega)
    have p1 := p_put (Z := Z) υ (i := i) 1 (by omega)
    have t1 := p_times r1 r2 hp.2
    have t2 := p_plus r1 r2 hp.2
    have t3 := p_minus (mod_rg (gF p c n tn k (i + 1) (uI pt i 0) + gF p c n tn k (i + 1) (uI pt i 1)) (by omega : 0 < p)) (mod_rg (gF p c n tn k (i + 1) (uI pt i 0) * gF p c n tn k (i + 1) (uI pt i 1)) (by omega : 0 < p)) hp.2
    rw [← Int.sub_emod] at t3
    refine ⟨υ2, qt2, ?_, fr_tr f2 b2, b3, b4, fun x hx => ?_⟩
    · have hb := bit_rg tn i
      rw [G_X3g, b_X3_gameWorth, gF]
      by_cases hbit : tn / 2 ^ i % 2 = 1
      · simp (disch := omega) only [↓reduceIte, iT_lt, iF_lt, iT_le, iF_le, iT_eq, iF_eq, nT_lt, nF_lt, nT_le, nF_le, nT_eq, nF_eq, and_self, and_true, true_and, and_false, false_and, not_true_eq_false, not_false_eq_true, ne_eq, or_self, or_false, false_or, or_true, true_or, Option.bind_some, i32_lit, i64_lit, i32_add, i32_sub, i32_mul, i32_neg, i64_add, i64_sub, i64_neg, i32_lt, i32_le, i32_eq, i64_lt, i64_le, i64_eq, i32_cn, i32_cl, i32_l, i64_i, i32_nat, Int.toNat_natCast, sI_2, sJ_1, sJ_22, sR_1, sR_21, sI_t, sI_r, sI_j, sJ_t, sJ_r, sJ_j, sR_t, sR_r, sR_j, hn, p0]
        rw [show (i : Int) + 1 = ((i + 1 : Nat) : Int) from rfl, a1]
        simp (disch := omega) only [↓reduceIte, iT_lt, iF_lt, iT_le, iF_le, iT_eq, iF_eq, nT_lt, nF_lt, nT_le, nF_le, nT_eq, nF_eq, and_self, and_true, true_and, and_false, false_and, not_true_eq_false, not_false_eq_true, ne_eq, or_self, or_false, false_or, or_true, true_or, Option.bind_some, i32_lit, i64_lit, i32_add, i32_sub, i32_mul, i32_neg, i64_add, i64_sub, i64_neg, i32_lt, i32_le, i32_eq, i64_lt, i64_le, i64_eq, i32_cn, i32_cl, i32_l, i64_i, i32_nat, Int.toNat_natCast, sI_2, sJ_1, sJ_22, sR_1, sR_21, sI_t, sI_r, sI_j, sJ_t, sJ_r, sJ_j, sR_t, sR_r, sR_j, p1]
        rw [b1]
        simp (disch := omega) only [↓reduceIte, iT_lt, iF_lt, iT_le, iF_le, iT_eq, iF_eq, nT_lt, nF_lt, nT_le, nF_le, nT_eq, nF_eq, and_self, and_true, true_and, and_false, false_and, not_true_eq_false, not_false_eq_true, ne_eq, or_self, or_false, false_or, or_true, true_or, Option.bind_some, i32_lit, i64_lit, i32_add, i32_sub, i32_mul, i32_neg, i64_add, i64_sub, i64_neg, i32_lt, i32_le, i32_eq, i64_lt, i64_le, i64_eq, i32_cn, i32_cl, i32_l, i64_i, i32_nat, Int.toNat_natCast, sI_2, sJ_1, sJ_22, sR_1, sR_21, sI_t, sI_r, sI_j, sJ_t, sJ_r, sJ_j, sR_t, sR_r, sR_j, t1, bitI ht (show i < 32 by omega), hbit]
      · simp (disch := omega) only [↓reduceIte, iT_lt, iF_lt, iT_le, iF_le, iT_eq, iF_eq, nT_lt, nF_lt, nT_le, nF_le, nT_eq, nF_eq, and_self, and_true, true_and, and_false, false_and, not_true_eq_false, not_false_eq_true, ne_eq, or_self, or_false, false_or, or_true, true_or, Option.bind_some, i32_lit, i64_lit, i32_add, i32_sub, i32_mul, i32_neg, i64_add, i64_sub, i64_neg, i32_lt, i32_le, i32_eq, i64_lt, i64_le, i64_eq, i32_cn, i32_cl, i32_l, i64_i, i32_nat, Int.toNat_natCast, sI_2, sJ_1, sJ_22, sR_1, sR_21, sI_t, sI_r, sI_j, sJ_t, sJ_r, sJ_j, sR_t, sR_r, sR_j, hn, p0]
        rw [show (i : Int) + 1 = ((i + 1 : Nat) : Int) from rfl, a1]
        simp (disch := omega) only [↓reduceIte, iT_lt, iF_lt, iT_le, iF_le, iT_eq, iF_eq, nT_lt, nF_lt, nT_le, nF_le, nT_eq, nF_eq, and_self, and_true, true_and, and_false, false_and, not_true_eq_false, not_false_eq_true, ne_eq, or_self, or_false, false_or, or_true, true_or, Option.bind_some, i32_lit, i64_lit, i32_add, i32_sub, i32_mul, i32_neg, i64_add, i64_sub, i64_neg, i32_lt, i32_le, i32_eq, i64_lt, i64_le, i64_eq, i32_cn, i32_cl, i32_l, i64_i, i32_nat, Int.toNat_natCast, sI_2, sJ_1, sJ_22, sR_1, sR_21, sI_t, sI_r, sI_j, sJ_t, sJ_r, sJ_j, sR_t, sR_r, sR_j, p1]
        rw [b1]
        simp (disch := omega) only [↓reduceIte, iT_lt, iF_lt, iT_le, iF_le, iT_eq, iF_eq, nT_lt, nF_lt, nT_le, nF_le, nT_eq, nF_eq, and_self, and_true, true_and, and_false, false_and, not_true_eq_false, not_false_eq_true, ne_eq, or_self, or_false, false_or, or_true, true_or, Option.bind_some, i32_lit, i64_lit, i32_add, i32_sub, i32_mul, i32_neg, i64_add, i64_sub, i64_neg, i32_lt, i32_le, i32_eq, i64_lt, i64_le, i64_eq, i32_cn, i32_cl, i32_l, i64_i, i32_nat, Int.toNat_natCast, sI_2, sJ_1, sJ_22, sR_1, sR_21, sI_t, sI_r, sI_j, sJ_t, sJ_r, sJ_j, sR_t, sR_r, sR_j, t1, t2, t3, bitI ht (show i < 32 by omega)]
    · rw [b5 x (by omega), uI_f _ _ (by omega), a5 x (by omega), uI_f _ _ (by omega)]
theorem p_mfold {Z : hZ} {s n nm F tn : Nat} {p : Int} {c : Nat → Int} (hF : 300 ≤ F) (hw : wf c n) (hc : nmB c n nm) (hp : 1 < p ∧ p ≤ 1000000007) (ht : tn < 64) :
    ∀ k i d τ pt, i + k = nm ∨ (k = 0 ∧ nm ≤ i ∧ i ≤ 6) → k < d → mSg τ s c n → τ.1 204 s = i32 (nm : Nat) → rowJ τ 208 pt 6 → inP p pt 6 → ∃ υ qt, (G_Mf F Z d) τ (i32 s) (i32 tn) (i32 i) (i64 p) = some (i64 (gF p c n tn k i pt), υ) ∧ fr [207, 208] τ υ ∧ rowJ υ 208 qt 6 ∧ inP p qt 6 ∧ ∀ x, x < i → qt x = pt x := by
  intro k
  induction k with
  | zero =>
    intro i d τ pt hi hd hs hn h9 hpt
    obtain ⟨d, rfl⟩ : ∃ q, d = q + 1 := ⟨d - 1, by omega⟩
    obtain ⟨υ, e1, e2⟩ := p_mworth (Z := Z) hF τ hs hw hp hpt h9
    have := hs.1
    have := hc.1
    refine ⟨υ, pt, ?_, fr_mono e2 (by decide), ?_, hpt, fun _ _ => rfl⟩
    · rw [G_Mf, b_X12_folded]
      simp (disch := omega) only [↓reduceIte, iT_lt, iF_lt, iT_le, iF_le, iT_eq, iF_eq, nT_lt, nF_lt, nT_le, nF_le, nT_eq, nF_eq, and_self, and_true, true_and, and_false, false_and, not_true_eq_false, not_false_eq_true, ne_eq, or_self, or_false, false_or, or_true, true_or, Option.bind_some, i32_lit, i64_lit, i32_add, i32_sub, i32_mul, i32_neg, i64_add, i64_sub, i64_neg, i32_lt, i32_le, i32_eq, i64_lt, i64_le, i64_eq, i32_cn, i32_cl, i32_l, i64_i, i32_nat, Int.toNat_natCast, sI_2, sJ_1, sJ_22, sR_1, sR_21, sI_t, sI_r, sI_j, sJ_t, sJ_r, sJ_j, sR_t, sR_r, sR_j, hn, e1]
      rfl
    · unfold rowJ; rw [fr_J e2 208 rfl (by decide)]; exact h9
  | succ k ih =>
    intro i d τ pt hi hd hs hn h9 hpt
    obtain ⟨d, rfl⟩ : ∃ q, d = q + 1 := ⟨d - 1, by omega⟩
    have hs1 := hs.1
    have hc1 := hc.1
    have f0 : fr [207, 208] τ (sJ τ 208 i (i64 0)) := fr_sJ τ _ (by rw [cd_a rfl]; decide)
    obtain ⟨υ, qt, a1, a2, a3, a4, a5⟩ := ih (i + 1) d (sJ τ 208 i (i64 0)) (uI pt i 0) (by omega) (by omega) (mSg_fr f0 (by decide) (by decide) hs) hn (rowJ_up h9) (uI_in hpt (by omega))
    have f1 : fr [207, 208] υ (sJ υ 208 i (i64 1)) := fr_sJ υ _ (by rw [cd_a rfl]; decide)
    have f2 := fr_tr (fr_tr f0 a2) f1
    obtain ⟨υ2, qt2, b1, b2, b3, b4, b5⟩ := ih (i + 1) d (sJ υ 208 i (i64 1)) (uI qt i 1) (by omega) (by omega) (mSg_fr f2 (by decide) (by decide) hs) (by rw [fr_I f2 204 rfl (by decide)]; exact hn) (rowJ_up a3) (uI_in a4 (by omega))
    have e3 : gF p c n tn k (i + 1) (uI qt i 1) = gF p c n tn k (i + 1) (uI pt i 1) := gF_cong hw hc k (i + 1) _ _ (by omega) (fun x hx => by
      by_cases e : x = i
      · rw [uI_t _ _ e, uI_t _ _ e]
      · rw [uI_f _ _ (by omega), uI_f _ _ (by omega), a5 x (by omega), uI_f _ _ (by omega)])
    rw [e3] at b1
    have r1 := gF_rg (tn := tn) hp.1 hw k (i + 1) _ (uI_in (i := i) (v := 0) hpt (by omega))
    have r2 := gF_rg (tn := tn) hp.1 hw k (i + 1) _ (uI_in (i := i) (v := 1) hpt (by omega))
    have hb2 := mul_bd r1 r2 hp.2
    have hm := mod_rg (gF p c n tn k (i + 1) (uI pt i 0) * gF p c n tn k (i + 1) (uI pt i 1)) (by omega : 0 < p)
    have t3 := p_mrest (a := gF p c n tn k (i + 1) (uI pt i 0) + gF p c n tn k (i + 1) (uI pt i 1) - gF p c n tn k (i + 1) (uI pt i 0) * gF p c n tn k (i + 1) (uI pt i 1) % p) (p := p) ⟨by omega, by omega⟩ ⟨by omega, by omega⟩
    rw [Int.sub_emod_emod] at t3
    refine ⟨υ2, qt2, ?_, fr_tr f2 b2, b3, b4, fun x hx => ?_⟩
    · have hb := bit_rg tn i
      rw [G_Mf, b_X12_folded, gF]
      by_cases hbit : tn / 2 ^ i % 2 = 1
      · simp (disch := omega) only [↓reduceIte, iT_lt, iF_lt, iT_le, iF_le, iT_eq, iF_eq, nT_lt, nF_lt, nT_le, nF_le, nT_eq, nF_eq, and_self, and_true, true_and, and_false, false_and, not_true_eq_false, not_false_eq_true, ne_eq, or_self, or_false, false_or, or_true, true_or, Option.bind_some, i32_lit, i64_lit, i32_add, i32_sub, i32_mul, i32_neg, i64_add, i64_sub, i64_neg, i32_lt, i32_le, i32_eq, i64_lt, i64_le, i64_eq, i32_cn, i32_cl, i32_l, i64_i, i32_nat, Int.toNat_natCast, sI_2, sJ_1, sJ_22, sR_1, sR_21, sI_t, sI_r, sI_j, sJ_t, sJ_r, sJ_j, sR_t, sR_r, sR_j, hn]
        rw [show (i : Int) + 1 = ((i + 1 : Nat) : Int) from rfl, a1]
        simp (disch := omega) only [↓reduceIte, iT_lt, iF_lt, iT_le, iF_le, iT_eq, iF_eq, nT_lt, nF_lt, nT_le, nF_le, nT_eq, nF_eq, and_self, and_true, true_and, and_false, false_and, not_true_eq_false, not_false_eq_true, ne_eq, or_self, or_false, false_or, or_true, true_or, Option.bind_some, i32_lit, i64_lit, i32_add, i32_sub, i32_mul, i32_neg, i64_add, i64_sub, i64_neg, i32_lt, i32_le, i32_eq, i64_lt, i64_le, i64_eq, i32_cn, i32_cl, i32_l, i64_i, i32_nat, Int.toNat_natCast, sI_2, sJ_1, sJ_22, sR_1, sR_21, sI_t, sI_r, sI_j, sJ_t, sJ_r, sJ_j, sR_t, sR_r, sR_j]
        rw [b1]
        simp (disch := omega) only [↓reduceIte, iT_lt, iF_lt, iT_le, iF_le, iT_eq, iF_eq, nT_lt, nF_lt, nT_le, nF_le, nT_eq, nF_eq, and_self, and_true, true_and, and_false, false_and, not_true_eq_false, not_false_eq_true, ne_eq, or_self, or_false, false_or, or_true, true_or, Option.bind_some, i32_lit, i64_lit, i32_add, i32_sub, i32_mul, i32_neg, i64_add, i64_sub, i64_neg, i32_lt, i32_le, i32_eq, i64_lt, i64_le, i64_eq, i32_cn, i32_cl, i32_l, i64_i, i32_nat, Int.toNat_natCast, sI_2, sJ_1, sJ_22, sR_1, sR_21, sI_t, sI_r, sI_j, sJ_t, sJ_r, sJ_j, sR_t, sR_r, sR_j, i64_mul, i64_rem, bitI ht (show i < 32 by omega), hbit]
      · simp (disch := omega) only [↓reduceIte, iT_lt, iF_lt, iT_le, iF_le, iT_eq, iF_eq, nT_lt, nF_lt, nT_le, nF_le, nT_eq, nF_eq, and_self, and_true, true_and, and_false, false_and, not_true_eq_false, not_false_eq_true, ne_eq, or_self, or_false, false_or, or_true, true_or, Option.bind_some, i32_lit, i64_lit, i32_add, i32_sub, i32_mul, i32_neg, i64_add, i64_sub, i64_neg, i32_lt, i32_le, i32_eq, i64_lt, i64_le, i64_eq, i32_cn, i32_cl, i32_l, i64_i, i32_nat, Int.toNat_natCast, sI_2, sJ_1, sJ_22, sR_1, sR_21, sI_t, sI_r, sI_j, sJ_t, sJ_r, sJ_j, sR_t, sR_r, sR_j, hn]
        rw [show (i : Int) + 1 = ((i + 1 : Nat) : Int) from rfl, a1]
        simp (disch := omega) only [↓reduceIte, iT_lt, iF_lt, iT_le, iF_le, iT_eq, iF_eq, nT_lt, nF_lt, nT_le, nF_le, nT_eq, nF_eq, and_self, and_true, true_and, and_false, false_and, not_true_eq_false, not_false_eq_true, ne_eq, or_self, or_false, false_or, or_true, true_or, Option.bind_some, i32_lit, i64_lit, i32_add, i32_sub, i32_mul, i32_neg, i64_add, i64_sub, i64_neg, i32_lt, i32_le, i32_eq, i64_lt, i64_le, i64_eq, i32_cn, i32_cl, i32_l, i64_i, i32_nat, Int.toNat_natCast, sI_2, sJ_1, sJ_22, sR_1, sR_21, sI_t, sI_r, sI_j, sJ_t, sJ_r, sJ_j, sR_t, sR_r, sR_j]
        rw [b1]
        simp (disch := omega) only [↓reduceIte, iT_lt, iF_lt, iT_le, iF_le, iT_eq, iF_eq, nT_lt, nF_lt, nT_le, nF_le, nT_eq, nF_eq, and_self, and_true, true_and, and_false, false_and, not_true_eq_false, not_false_eq_true, ne_eq, or_self, or_false, false_or, or_true, true_or, Option.bind_some, i32_lit, i64_lit, i32_add, i32_sub, i32_mul, i32_neg, i64_add, i64_sub, i64_neg, i32_lt, i32_le, i32_eq, i64_lt, i64_le, i64_eq, i32_cn, i32_cl, i32_l, i64_i, i32_nat, Int.toNat_natCast, sI_2, sJ_1, sJ_22, sR_1, sR_21, sI_t, sI_r, sI_j, sJ_t, sJ_r, sJ_j, sR_t, sR_r, sR_j, i64_mul, i64_rem, t3, bitI ht (show i < 32 by omega)]
    · rw [b5 x (by omega), uI_f _ _ (by omega), a5 x (by omega), uI_f _ _ (by omega)]
