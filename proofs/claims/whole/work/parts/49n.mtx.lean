/-! the model's reading of LAWS and GIANTS -/
def WV : List Nat := [30006, 30007, 30008]
def okV (B : Nat → Nat) (n r bs g : Nat) (L : Nat → Int64) (τ : hSt) (p dp : Nat) : Prop := txM B n r bs τ p ∧ τ.1 200 7 = i32 (-1) ∧ τ.1 200 8 = i32 (dp : Int) ∧ τ.1 200 9 = i32 6 ∧ τ.2.2 200 29 = some (2 * g + 1) ∧ ∀ c, c ≤ 127 → 0 ≤ ixS (2 * g + 1) c → τ.2.1 213 c = L (ixS 4 c).toNat ∧ bd (L (ixS 4 c).toNat)
theorem okV_at {B : Nat → Nat} {n r bs g p q dp : Nat} {L : Nat → Int64} {τ : hSt} (h : okV B n r bs g L τ p dp) (hq : q ≤ n) : okV B n r bs g L (sI τ 200 6 (i32 (q : Int))) q dp := by
  obtain ⟨a1, a2, a3, a4, a5, a6⟩ := h
  refine ⟨txM_at a1 hq, ?_, ?_, ?_, a5, a6⟩
  · simp (disch := omega) only [↓reduceIte, iT_lt, iF_lt, iT_le, iF_le, iT_eq, iF_eq, nT_lt, nF_lt, nT_le, nF_le, nT_eq, nF_eq, and_self, and_true, true_and, and_false, false_and, not_true_eq_false, not_false_eq_true, ne_eq, or_self, or_false, false_or, or_true, true_or, Option.bind_some, i32_lit, i64_lit, i32_add, i32_sub, i32_mul, i32_neg, i64_add, i64_sub, i64_neg, i32_lt, i32_le, i32_eq, i64_lt, i64_le, i64_eq, i32_cn, i32_cl, i32_l, i64_i, i32_nat, Int.toNat_natCast, sI_2, sJ_1, sJ_22, sR_1, sR_21, sI_t, sI_r, sI_j, sJ_t, sJ_r, sJ_j, sR_t, sR_r, sR_j]; exact a2
  · simp (disch := omega) only [↓reduceIte, iT_lt, iF_lt, iT_le, iF_le, iT_eq, iF_eq, nT_lt, nF_lt, nT_le, nF_le, nT_eq, nF_eq, and_self, and_true, true_and, and_false, false_and, not_true_eq_false, not_false_eq_true, ne_eq, or_self, or_false, false_or, or_true, true_or, Option.bind_some, i32_lit, i64_lit, i32_add, i32_sub, i32_mul, i32_neg, i64_add, i64_sub, i64_neg, i32_lt, i32_le, i32_eq, i64_lt, i64_le, i64_eq, i32_cn, i32_cl, i32_l, i64_i, i32_nat, Int.toNat_natCast, sI_2, sJ_1, sJ_22, sR_1, sR_21, sI_t, sI_r, sI_j, sJ_t, sJ_r, sJ_j, sR_t, sR_r, sR_j]; exact a3
  · simp (disch := omega) only [↓reduceIte, iT_lt, iF_lt, iT_le, iF_le, iT_eq, iF_eq, nT_lt, nF_lt, nT_le, nF_le, nT_eq, nF_eq, and_self, and_true, true_and, and_false, false_and, not_true_eq_false, not_false_eq_true, ne_eq, or_self, or_false, false_or, or_true, true_or, Option.bind_some, i32_lit, i64_lit, i32_add, i32_sub, i32_mul, i32_neg, i64_add, i64_sub, i64_neg, i32_lt, i32_le, i32_eq, i64_lt, i64_le, i64_eq, i32_cn, i32_cl, i32_l, i64_i, i32_nat, Int.toNat_natCast, sI_2, sJ_1, sJ_22, sR_1, sR_21, sI_t, sI_r, sI_j, sJ_t, sJ_r, sJ_j, sR_t, sR_r, sR_j]; exact a4
theorem okV_dp {B : Nat → Nat} {n r bs g p dp dq : Nat} {L : Nat → Int64} {τ : hSt} (h : okV B n r bs g L τ p dp) : okV B n r bs g L (sI τ 200 8 (i32 (dq : Int))) p dq := by
  obtain ⟨a1, a2, a3, a4, a5, a6⟩ := h
  obtain ⟨t1, t2, t3, t4, t5, t6, t7, t8, t9⟩ := a1
  have := isBy_ne t3
  refine ⟨⟨t1, t2, t3, t4, t5, ?_, ?_, ?_, fun j hj => ?_⟩, ?_, ?_, ?_, a5, a6⟩
  · simp (disch := omega) only [↓reduceIte, iT_lt, iF_lt, iT_le, iF_le, iT_eq, iF_eq, nT_lt, nF_lt, nT_le, nF_le, nT_eq, nF_eq, and_self, and_true, true_and, and_false, false_and, not_true_eq_false, not_false_eq_true, ne_eq, or_self, or_false, false_or, or_true, true_or, Option.bind_some, i32_lit, i64_lit, i32_add, i32_sub, i32_mul, i32_neg, i64_add, i64_sub, i64_neg, i32_lt, i32_le, i32_eq, i64_lt, i64_le, i64_eq, i32_cn, i32_cl, i32_l, i64_i, i32_nat, Int.toNat_natCast, sI_2, sJ_1, sJ_22, sR_1, sR_21, sI_t, sI_r, sI_j, sJ_t, sJ_r, sJ_j, sR_t, sR_r, sR_j]; exact t6
  · simp (disch := omega) only [↓reduceIte, iT_lt, iF_lt, iT_le, iF_le, iT_eq, iF_eq, nT_lt, nF_lt, nT_le, nF_le, nT_eq, nF_eq, and_self, and_true, true_and, and_false, false_and, not_true_eq_false, not_false_eq_true, ne_eq, or_self, or_false, false_or, or_true, true_or, Option.bind_some, i32_lit, i64_lit, i32_add, i32_sub, i32_mul, i32_neg, i64_add, i64_sub, i64_neg, i32_lt, i32_le, i32_eq, i64_lt, i64_le, i64_eq, i32_cn, i32_cl, i32_l, i64_i, i32_nat, Int.toNat_natCast, sI_2, sJ_1, sJ_22, sR_1, sR_21, sI_t, sI_r, sI_j, sJ_t, sJ_r, sJ_j, sR_t, sR_r, sR_j]; exact t7
  · simp (disch := omega) only [↓reduceIte, iT_lt, iF_lt, iT_le, iF_le, iT_eq, iF_eq, nT_lt, nF_lt, nT_le, nF_le, nT_eq, nF_eq, and_self, and_true, true_and, and_false, false_and, not_true_eq_false, not_false_eq_true, ne_eq, or_self, or_false, false_or, or_true, true_or, Option.bind_some, i32_lit, i64_lit, i32_add, i32_sub, i32_mul, i32_neg, i64_add, i64_sub, i64_neg, i32_lt, i32_le, i32_eq, i64_lt, i64_le, i64_eq, i32_cn, i32_cl, i32_l, i64_i, i32_nat, Int.toNat_natCast, sI_2, sJ_1, sJ_22, sR_1, sR_21, sI_t, sI_r, sI_j, sJ_t, sJ_r, sJ_j, sR_t, sR_r, sR_j]; exact t8
  · rw [sI_r _ _ (by omega)]; exact t9 j hj
  · simp (disch := omega) only [↓reduceIte, iT_lt, iF_lt, iT_le, iF_le, iT_eq, iF_eq, nT_lt, nF_lt, nT_le, nF_le, nT_eq, nF_eq, and_self, and_true, true_and, and_false, false_and, not_true_eq_false, not_false_eq_true, ne_eq, or_self, or_false, false_or, or_true, true_or, Option.bind_some, i32_lit, i64_lit, i32_add, i32_sub, i32_mul, i32_neg, i64_add, i64_sub, i64_neg, i32_lt, i32_le, i32_eq, i64_lt, i64_le, i64_eq, i32_cn, i32_cl, i32_l, i64_i, i32_nat, Int.toNat_natCast, sI_2, sJ_1, sJ_22, sR_1, sR_21, sI_t, sI_r, sI_j, sJ_t, sJ_r, sJ_j, sR_t, sR_r, sR_j]; exact a2
  · simp (disch := omega) only [↓reduceIte, iT_lt, iF_lt, iT_le, iF_le, iT_eq, iF_eq, nT_lt, nF_lt, nT_le, nF_le, nT_eq, nF_eq, and_self, and_true, true_and, and_false, false_and, not_true_eq_false, not_false_eq_true, ne_eq, or_self, or_false, false_or, or_true, true_or, Option.bind_some, i32_lit, i64_lit, i32_add, i32_sub, i32_mul, i32_neg, i64_add, i64_sub, i64_neg, i32_lt, i32_le, i32_eq, i64_lt, i64_le, i64_eq, i32_cn, i32_cl, i32_l, i64_i, i32_nat, Int.toNat_natCast, sI_2, sJ_1, sJ_22, sR_1, sR_21, sI_t, sI_r, sI_j, sJ_t, sJ_r, sJ_j, sR_t, sR_r, sR_j]
  · simp (disch := omega) only [↓reduceIte, iT_lt, iF_lt, iT_le, iF_le, iT_eq, iF_eq, nT_lt, nF_lt, nT_le, nF_le, nT_eq, nF_eq, and_self, and_true, true_and, and_false, false_and, not_true_eq_false, not_false_eq_true, ne_eq, or_self, or_false, false_or, or_true, true_or, Option.bind_some, i32_lit, i64_lit, i32_add, i32_sub, i32_mul, i32_neg, i64_add, i64_sub, i64_neg, i32_lt, i32_le, i32_eq, i64_lt, i64_le, i64_eq, i32_cn, i32_cl, i32_l, i64_i, i32_nat, Int.toNat_natCast, sI_2, sJ_1, sJ_22, sR_1, sR_21, sI_t, sI_r, sI_j, sJ_t, sJ_r, sJ_j, sR_t, sR_r, sR_j]; exact a4
def resV (B : Nat → Nat) (n r bs g : Nat) (L : Nat → Int64) (τ : hSt) (dp : Nat) (rr : PR) (x : Option (Int64 × hSt)) : Prop := ∃ υ w, x = some (w, υ) ∧ fr WV τ υ ∧ (rr.1 = true → okV B n r bs g L υ rr.2.1 dp ∧ bd w ∧ ∀ s, evS L rr.2.2 s = w :: s) ∧ (rr.1 = false → υ.1 200 7 = i32 (rr.2.1 : Int))
theorem resV_pre {B : Nat → Nat} {n r bs g dp : Nat} {L : Nat → Int64} {τ τ1 : hSt} {rr : PR} {x : Option (Int64 × hSt)} (hf : fr WV τ τ1) (h : resV B n r bs g L τ1 dp rr x) : resV B n r bs g L τ dp rr x := by
  obtain ⟨υ, w, a1, a2, a3⟩ := h
  exact ⟨υ, w, a1, fr_tr hf a2, a3⟩
theorem resV_0 {B : Nat → Nat} {n r bs g dp p : Nat} {L : Nat → Int64} {τ υ : hSt} {w : Int64} {x : Option (Int64 × hSt)} (hx : x = some (w, υ)) (hf : fr WV τ υ) (h : υ.1 200 7 = i32 (p : Int)) : resV B n r bs g L τ dp (false, p, []) x := ⟨υ, w, hx, hf, (fun z => by cases z), fun _ => h⟩
theorem fr6 (τ : hSt) (v : Int32) : fr WV τ (sI τ 200 6 v) := fr_sI _ _ (by decide)
theorem fr7 (τ : hSt) (v : Int32) : fr WV τ (sI τ 200 7 v) := fr_sI _ _ (by decide)
theorem fr8 (τ : hSt) (v : Int32) : fr WV τ (sI τ 200 8 v) := fr_sI _ _ (by decide)
theorem p_mIsDigit {B : Nat → Nat} {n r bs p : Nat} {Z : hZ} {τ : hSt} (h : txM B n r bs τ p) : f_X12_isDigit Z τ = some (b01 (dg B n p)) := by
  obtain ⟨a1, a2, a3, a4, a5, a6, a7, a8, a9⟩ := h
  have hbl := blen_le (r := r)
  have e1 : ((bs : Int) + (p : Int)).toNat = bs + p := by omega
  unfold f_X12_isDigit
  by_cases c : p < n
  · obtain ⟨b1, b2, b3⟩ := a9 p c
    have hsg : (sgB (B p) < 48 ↔ (B p < 48 ∨ 128 ≤ B p)) ∧ (57 < sgB (B p) ↔ (57 < B p ∧ B p < 128)) ∧ -128 ≤ sgB (B p) ∧ sgB (B p) ≤ 127 := by unfold sgB; split <;> omega
    by_cases d : sgB (B p) < 48
    · have : dg B n p = false := by
        unfold dg
        simp only [Bool.and_eq_false_iff, decide_eq_false_iff_not]; omega
      rw [this]
      simp (disch := omega) only [↓reduceIte, iT_lt, iF_lt, iT_le, iF_le, iT_eq, iF_eq, nT_lt, nF_lt, nT_le, nF_le, nT_eq, nF_eq, and_self, and_true, true_and, and_false, false_and, not_true_eq_false, not_false_eq_true, ne_eq, or_self, or_false, false_or, or_true, true_or, Option.bind_some, i32_lit, i64_lit, i32_add, i32_sub, i32_mul, i32_neg, i64_add, i64_sub, i64_neg, i32_lt, i32_le, i32_eq, i64_lt, i64_le, i64_eq, i32_cn, i32_cl, i32_l, i64_i, i32_nat, Int.toNat_natCast, sI_2, sJ_1, sJ_22, sR_1, sR_21, sI_t, sI_r, sI_j, sJ_t, sJ_r, sJ_j, sR_t, sR_r, sR_j, a7, a8, a5, oc, a3, a6, e1, b1]
      rfl
    · by_cases d2 : 57 < sgB (B p)
      · have : dg B n p = false := by
          unfold dg
          simp only [Bool.and_eq_false_iff, decide_eq_false_iff_not]; omega
        rw [this]
        simp (disch := omega) only [↓reduceIte, iT_lt, iF_lt, iT_le, iF_le, iT_eq, iF_eq, nT_lt, nF_lt, nT_le, nF_le, nT_eq, nF_eq, and_self, and_true, true_and, and_false, false_and, not_true_eq_false, not_false_eq_true, ne_eq, or_self, or_false, false_or, or_true, true_or, Option.bind_some, i32_lit, i64_lit, i32_add, i32_sub, i32_mul, i32_neg, i64_add, i64_sub, i64_neg, i32_lt, i32_le, i32_eq, i64_lt, i64_le, i64_eq, i32_cn, i32_cl, i32_l, i64_i, i32_nat, Int.toNat_natCast, sI_2, sJ_1, sJ_22, sR_1, sR_21, sI_t, sI_r, sI_j, sJ_t, sJ_r, sJ_j, sR_t, sR_r, sR_j, a7, a8, a5, oc, a3, a6, e1, b1]
        rfl
      · have : dg B n p = true := by
          unfold dg
          simp only [Bool.and_eq_true, decide_eq_true_eq]; omega
        rw [this]
        simp (disch := omega) only [↓reduceIte, iT_lt, iF_lt, iT_le, iF_le, iT_eq, iF_eq, nT_lt, nF_lt, nT_le, nF_le, nT_eq, nF_eq, and_self, and_true, true_and, and_false, false_and, not_true_eq_false, not_false_eq_true, ne_eq, or_self, or_false, false_or, or_true, true_or, Option.bind_some, i32_lit, i64_lit, i32_add, i32_sub, i32_mul, i32_neg, i64_add, i64_sub, i64_neg, i32_lt, i32_le, i32_eq, i64_lt, i64_le, i64_eq, i32_cn, i32_cl, i32_l, i64_i, i32_nat, Int.toNat_natCast, sI_2, sJ_1, sJ_22, sR_1, sR_21, sI_t, sI_r, sI_j, sJ_t, sJ_r, sJ_j, sR_t, sR_r, sR_j, a7, a8, a5, oc, a3, a6, e1, b1]
        rfl
  · have : dg B n p = false := by
      unfold dg
      rw [decide_eq_false c]; rfl
    rw [this]
    simp (disch := omega) only [↓reduceIte, iT_lt, iF_lt, iT_le, iF_le, iT_eq, iF_eq, nT_lt, nF_lt, nT_le, nF_le, nT_eq, nF_eq, and_self, and_true, true_and, and_false, false_and, not_true_eq_false, not_false_eq_true, ne_eq, or_self, or_false, false_or, or_true, true_or, Option.bind_some, i32_lit, i64_lit, i32_add, i32_sub, i32_mul, i32_neg, i64_add, i64_sub, i64_neg, i32_lt, i32_le, i32_eq, i64_lt, i64_le, i64_eq, i32_cn, i32_cl, i32_l, i64_i, i32_nat, Int.toNat_natCast, sI_2, sJ_1, sJ_22, sR_1, sR_21, sI_t, sI_r, sI_j, sJ_t, sJ_r, sJ_j, sR_t, sR_r, sR_j, a7, a8]
    rfl
theorem okV_f {B : Nat → Nat} {n r bs g p dp : Nat} {L : Nat → Int64} {Z : hZ} {τ : hSt} (h : okV B n r bs g L τ p dp) : f_X12_fails Z τ = some (0, sI τ 200 7 (i32 (p : Int))) := p_fails h.2.1 h.1.2.2.2.2.2.2.2.1
theorem p_mtakes {B : Nat → Nat} {n r bs g p dp F c : Nat} {L : Nat → Int64} {Z : hZ} {τ : hSt} (hF : 300 ≤ F) (hc : 1 ≤ c ∧ c ≤ 255) (h : okV B n r bs g L τ p dp) : ∃ υ, fr WV τ υ ∧ (if pk B n (sk B n p) = c then f_X12_takes F Z τ (i32 (c : Int)) = some (1, υ) ∧ okV B n r bs g L υ (sk B n p + 1) dp ∧ sk B n p < n else f_X12_takes F Z τ (i32 (c : Int)) = some (0, υ) ∧ υ.1 200 7 = i32 (sk B n p : Int)) := by
  have hs := sk_rg (B := B) h.1.2.1
  have h1 := okV_at h hs.2
  have hbb := txM_b h.1
  unfold f_X12_takes
  rw [h.2.1, if_pos m1, p_look hF h.1, obs]
  dsimp only
  by_cases q : pk B n (sk B n p) = c
  · have hlt := pkp_lt (show pk B n (sk B n p) ≠ 0 by omega)
    have h2 := okV_at h (show sk B n p + 1 ≤ n by omega)
    refine ⟨_, fr6 τ (i32 ((sk B n p + 1 : Nat) : Int)), ?_⟩
    rw [if_pos q, if_pos ((lkV_pk hbb hc).mpr q)]
    refine ⟨?_, h2, hlt⟩
    rw [sI_t _ _ ⟨rfl, rfl⟩, sI_sI, i32_lit, i32_add]
    rfl
  · refine ⟨_, fr_tr (fr6 τ (i32 (sk B n p : Int))) (fr7 _ (i32 (sk B n p : Int))), ?_⟩
    rw [if_neg q, if_neg (by rw [lkV_pk hbb hc]; exact q), okV_f h1, obs]
    exact ⟨if_pos (Or.inl rfl), sI_t _ _ ⟨rfl, rfl⟩⟩
theorem p_mgoes0 {B : Nat → Nat} {n r bs g p : Nat} {L : Nat → Int64} {Z : hZ} {τ : hSt} (h : okV B n r bs g L τ p 6) : f_X12_goesIn Z τ = some (0, sI τ 200 7 (i32 (p : Int))) := by
  unfold f_X12_goesIn
  rw [h.2.2.1, h.2.2.2.1, if_pos (show i32 ((6 : Nat) : Int) = i32 6 from rfl), okV_f h, obs]
  rfl
theorem p_mgoes1 {B : Nat → Nat} {n r bs g p dp : Nat} {L : Nat → Int64} {Z : hZ} {τ : hSt} (h : okV B n r bs g L τ p dp) (hd : dp < 6) (hp : p < n) : ∃ υ, f_X12_goesIn Z τ = some (1, υ) ∧ fr WV τ υ ∧ okV B n r bs g L υ (p + 1) (dp + 1) := by
  have hn := h.1.1
  have h8 := h.1.2.2.2.2.2.2.2.1
  refine ⟨sI (sI τ 200 8 (i32 ((dp + 1 : Nat) : Int))) 200 6 (i32 ((p + 1 : Nat) : Int)), ?_, fr_tr (fr8 _ _) (fr6 _ _), okV_at (okV_dp h) (by omega)⟩
  have h3 := h.2.2.1
  have h4 := h.2.2.2.1
  unfold f_X12_goesIn
  simp (disch := omega) only [↓reduceIte, iT_lt, iF_lt, iT_le, iF_le, iT_eq, iF_eq, nT_lt, nF_lt, nT_le, nF_le, nT_eq, nF_eq, and_self, and_true, true_and, and_false, false_and, not_true_eq_false, not_false_eq_true, ne_eq, or_self, or_false, false_or, or_true, true_or, Option.bind_some, i32_lit, i64_lit, i32_add, i32_sub, i32_mul, i32_neg, i64_add, i64_sub, i64_neg, i32_lt, i32_le, i32_eq, i64_lt, i64_le, i64_eq, i32_cn, i32_cl, i32_l, i64_i, i32_nat, Int.toNat_natCast, sI_2, sJ_1, sJ_22, sR_1, sR_21, sI_t, sI_r, sI_j, sJ_t, sJ_r, sJ_j, sR_t, sR_r, sR_j, h3, h4, h8]
  rfl
