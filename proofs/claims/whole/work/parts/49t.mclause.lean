/-! clauses, model -/
def WK : List Nat := [30006, 30007, 30008, 30030, 30031]
theorem WV_K {τ υ : hSt} (h : fr WV τ υ) : fr WK τ υ := fr_mono h (by decide)
def fnd (τ : hSt) (g : Nat) (lab : Int) (fd : Option Int64) : Prop := τ.1 200 27 = i32 lab ∧ τ.2.2 200 28 = some (2 * g) ∧ (fd = none → τ.1 200 30 = 0 ∧ τ.2.1 200 31 = 0) ∧ (∀ v, fd = some v → τ.1 200 30 = 1 ∧ τ.2.1 200 31 = v)
theorem fnd_fr {τ υ : hSt} {g : Nat} {lab : Int} {fd : Option Int64} (h : fnd τ g lab fd) (f : fr WV τ υ) : fnd υ g lab fd := by
  obtain ⟨a1, a2, a3, a4⟩ := h
  refine ⟨by rw [f.1 200 27 (by decide)]; exact a1, by rw [f.2.2.1 200 28 (by decide)]; exact a2, fun z => ?_, fun v z => ?_⟩
  · rw [f.1 200 30 (by decide), f.2.1 200 31 (by decide)]; exact a3 z
  · rw [f.1 200 30 (by decide), f.2.1 200 31 (by decide)]; exact a4 v z
def fdN (L : Nat → Int64) (lab : Int) (c : Int × List Int × List Int) : Option Int64 → Option Int64
  | some v => some v
  | none => if c.1 = lab ∧ (c.2.1 = [] ∨ ev L c.2.1 ≠ 0) then some (ev L c.2.2) else none
def resK (B : Nat → Nat) (n r bs g : Nat) (L : Nat → Int64) (lab : Int) (fd : Option Int64) (c : Int × List Int × List Int) (τ : hSt) (rr : PR) (x : Option (Unit × hSt)) : Prop := ∃ υ, x = some ((), υ) ∧ fr WK τ υ ∧ ((rr.1 = true ∧ okV B n r bs g L υ rr.2.1 0 ∧ fnd υ g lab (fdN L lab c fd)) ∨ (rr.1 = false ∧ υ.1 200 7 = i32 (rr.2.1 : Int)) ∨ (rr.1 = false ∧ okV B n r bs g L υ rr.2.1 0 ∧ pk B n rr.2.1 = 63))
theorem resK_pre {B : Nat → Nat} {n r bs g : Nat} {L : Nat → Int64} {lab : Int} {fd : Option Int64} {c : Int × List Int × List Int} {τ τ1 : hSt} {rr : PR} {x : Option (Unit × hSt)} (hf : fr WV τ τ1) (h : resK B n r bs g L lab fd c τ1 rr x) : resK B n r bs g L lab fd c τ rr x := by
  obtain ⟨υ, a1, a2, a3⟩ := h
  exact ⟨υ, a1, fr_tr (WV_K hf) a2, a3⟩
theorem resK_0 {B : Nat → Nat} {n r bs g p : Nat} {L : Nat → Int64} {lab : Int} {fd : Option Int64} {c : Int × List Int × List Int} {τ υ : hSt} {x : Option (Unit × hSt)} (hx : x = some ((), υ)) (hf : fr WV τ υ) (h : υ.1 200 7 = i32 (p : Int)) : resK B n r bs g L lab fd c τ (false, p, []) x := ⟨υ, hx, WV_K hf, Or.inr (Or.inl ⟨rfl, h⟩)⟩
/-- what a clause leaves behind -/
def stl (own is : Int32) (v : Int64) (τ : hSt) : Option (Unit × hSt) := (if (τ.1 200 7) = (-1 : Int32) then (if (τ.1 200 30) = (0 : Int32) then (if own = (τ.1 200 27) then (if is = (0 : Int32) then some ((), τ) else some ((), (sJ (sI τ 200 30 (1 : Int32)) 200 31 v))) else some ((), τ)) else some ((), τ)) else some ((), τ))
theorem p_stl {B : Nat → Nat} {n r bs g p : Nat} {L : Nat → Int64} {lab o : Int} {fd : Option Int64} {C S : List Int} {b : Bool} {v : Int64} {υ : hSt} (ho : 0 ≤ o ∧ o ≤ 255) (hlab : 0 ≤ lab ∧ lab ≤ 255) (h : okV B n r bs g L υ p 0) (hf : fnd υ g lab fd) (hb : b = true ↔ (C = [] ∨ ev L C ≠ 0)) (hv : ev L S = v) : ∃ υ', stl (i32 o) (b01 b) v υ = some ((), υ') ∧ fr WK υ υ' ∧ okV B n r bs g L υ' p 0 ∧ fnd υ' g lab (fdN L lab (o, C, S) fd) := by
  unfold stl
  rw [h.2.1, if_pos m1]
  obtain ⟨a1, a2, a3, a4⟩ := hf
  cases fd with
  | some w =>
    rw [(a4 w rfl).1, if_neg n10]
    exact ⟨υ, rfl, fr_rf _ _, h, a1, a2, a3, a4⟩
  | none =>
    rw [(a3 rfl).1, if_pos rfl, a1]
    unfold fdN
    by_cases d : o = lab
    · rw [if_pos (show i32 o = i32 lab by rw [d])]
      cases b with
      | false =>
        have : ¬ (C = [] ∨ ev L C ≠ 0) := fun z => by have := hb.2 z; cases this
        rw [if_pos b01f, if_neg (show ¬ (o = lab ∧ (C = [] ∨ ev L C ≠ 0)) from fun z => this z.2)]
        exact ⟨υ, rfl, fr_rf _ _, h, a1, a2, a3, a4⟩
      | true =>
        rw [if_neg (show ¬ b01 true = 0 from n10), if_pos (show o = lab ∧ (C = [] ∨ ev L C ≠ 0) from ⟨d, hb.1 rfl⟩)]
        refine ⟨_, rfl, fr_tr (fr_sI υ _ (by decide)) (fr_sJ _ _ (by decide)), ?_, ?_⟩
        · obtain ⟨⟨t1, t2, t3, t4, t5, t6, t7, t8, t9⟩, b2, b3, b4, b5, b6⟩ := h
          have := isBy_ne t3
          refine ⟨⟨t1, t2, t3, t4, t5, ?_, ?_, ?_, fun j hj => ?_⟩, ?_, ?_, ?_, b5, fun c hc hi => ?_⟩
          · simp (disch := omega) only [↓reduceIte, iT_lt, iF_lt, iT_le, iF_le, iT_eq, iF_eq, nT_lt, nF_lt, nT_le, nF_le, nT_eq, nF_eq, and_self, and_true, true_and, and_false, false_and, not_true_eq_false, not_false_eq_true, ne_eq, or_self, or_false, false_or, or_true, true_or, Option.bind_some, i32_lit, i64_lit, i32_add, i32_sub, i32_mul, i32_neg, i64_add, i64_sub, i64_neg, i32_lt, i32_le, i32_eq, i64_lt, i64_le, i64_eq, i32_cn, i32_cl, i32_l, i64_i, i32_nat, Int.toNat_natCast, sI_2, sJ_1, sJ_22, sR_1, sR_21, sI_t, sI_r, sI_j, sJ_t, sJ_r, sJ_j, sR_t, sR_r, sR_j]; exact t6
          · simp (disch := omega) only [↓reduceIte, iT_lt, iF_lt, iT_le, iF_le, iT_eq, iF_eq, nT_lt, nF_lt, nT_le, nF_le, nT_eq, nF_eq, and_self, and_true, true_and, and_false, false_and, not_true_eq_false, not_false_eq_true, ne_eq, or_self, or_false, false_or, or_true, true_or, Option.bind_some, i32_lit, i64_lit, i32_add, i32_sub, i32_mul, i32_neg, i64_add, i64_sub, i64_neg, i32_lt, i32_le, i32_eq, i64_lt, i64_le, i64_eq, i32_cn, i32_cl, i32_l, i64_i, i32_nat, Int.toNat_natCast, sI_2, sJ_1, sJ_22, sR_1, sR_21, sI_t, sI_r, sI_j, sJ_t, sJ_r, sJ_j, sR_t, sR_r, sR_j]; exact t7
          · simp (disch := omega) only [↓reduceIte, iT_lt, iF_lt, iT_le, iF_le, iT_eq, iF_eq, nT_lt, nF_lt, nT_le, nF_le, nT_eq, nF_eq, and_self, and_true, true_and, and_false, false_and, not_true_eq_false, not_false_eq_true, ne_eq, or_self, or_false, false_or, or_true, true_or, Option.bind_some, i32_lit, i64_lit, i32_add, i32_sub, i32_mul, i32_neg, i64_add, i64_sub, i64_neg, i32_lt, i32_le, i32_eq, i64_lt, i64_le, i64_eq, i32_cn, i32_cl, i32_l, i64_i, i32_nat, Int.toNat_natCast, sI_2, sJ_1, sJ_22, sR_1, sR_21, sI_t, sI_r, sI_j, sJ_t, sJ_r, sJ_j, sR_t, sR_r, sR_j]; exact t8
          · rw [sJ_1, sI_r _ _ (by omega)]; exact t9 j hj
          · simp (disch := omega) only [↓reduceIte, iT_lt, iF_lt, iT_le, iF_le, iT_eq, iF_eq, nT_lt, nF_lt, nT_le, nF_le, nT_eq, nF_eq, and_self, and_true, true_and, and_false, false_and, not_true_eq_false, not_false_eq_true, ne_eq, or_self, or_false, false_or, or_true, true_or, Option.bind_some, i32_lit, i64_lit, i32_add, i32_sub, i32_mul, i32_neg, i64_add, i64_sub, i64_neg, i32_lt, i32_le, i32_eq, i64_lt, i64_le, i64_eq, i32_cn, i32_cl, i32_l, i64_i, i32_nat, Int.toNat_natCast, sI_2, sJ_1, sJ_22, sR_1, sR_21, sI_t, sI_r, sI_j, sJ_t, sJ_r, sJ_j, sR_t, sR_r, sR_j]; exact b2
          · simp (disch := omega) only [↓reduceIte, iT_lt, iF_lt, iT_le, iF_le, iT_eq, iF_eq, nT_lt, nF_lt, nT_le, nF_le, nT_eq, nF_eq, and_self, and_true, true_and, and_false, false_and, not_true_eq_false, not_false_eq_true, ne_eq, or_self, or_false, false_or, or_true, true_or, Option.bind_some, i32_lit, i64_lit, i32_add, i32_sub, i32_mul, i32_neg, i64_add, i64_sub, i64_neg, i32_lt, i32_le, i32_eq, i64_lt, i64_le, i64_eq, i32_cn, i32_cl, i32_l, i64_i, i32_nat, Int.toNat_natCast, sI_2, sJ_1, sJ_22, sR_1, sR_21, sI_t, sI_r, sI_j, sJ_t, sJ_r, sJ_j, sR_t, sR_r, sR_j]; exact b3
          · simp (disch := omega) only [↓reduceIte, iT_lt, iF_lt, iT_le, iF_le, iT_eq, iF_eq, nT_lt, nF_lt, nT_le, nF_le, nT_eq, nF_eq, and_self, and_true, true_and, and_false, false_and, not_true_eq_false, not_false_eq_true, ne_eq, or_self, or_false, false_or, or_true, true_or, Option.bind_some, i32_lit, i64_lit, i32_add, i32_sub, i32_mul, i32_neg, i64_add, i64_sub, i64_neg, i32_lt, i32_le, i32_eq, i64_lt, i64_le, i64_eq, i32_cn, i32_cl, i32_l, i64_i, i32_nat, Int.toNat_natCast, sI_2, sJ_1, sJ_22, sR_1, sR_21, sI_t, sI_r, sI_j, sJ_t, sJ_r, sJ_j, sR_t, sR_r, sR_j]; exact b4
          · rw [sJ_r _ _ (by omega)]; exact b6 c hc hi
        · refine ⟨?_, a2, fun z => (by cases z), fun w hw => ?_⟩
          · simp (disch := omega) only [↓reduceIte, iT_lt, iF_lt, iT_le, iF_le, iT_eq, iF_eq, nT_lt, nF_lt, nT_le, nF_le, nT_eq, nF_eq, and_self, and_true, true_and, and_false, false_and, not_true_eq_false, not_false_eq_true, ne_eq, or_self, or_false, false_or, or_true, true_or, Option.bind_some, i32_lit, i64_lit, i32_add, i32_sub, i32_mul, i32_neg, i64_add, i64_sub, i64_neg, i32_lt, i32_le, i32_eq, i64_lt, i64_le, i64_eq, i32_cn, i32_cl, i32_l, i64_i, i32_nat, Int.toNat_natCast, sI_2, sJ_1, sJ_22, sR_1, sR_21, sI_t, sI_r, sI_j, sJ_t, sJ_r, sJ_j, sR_t, sR_r, sR_j]; exact a1
          · have hw2 := Option.some.inj hw
            refine ⟨?_, ?_⟩
            · simp (disch := omega) only [↓reduceIte, iT_lt, iF_lt, iT_le, iF_le, iT_eq, iF_eq, nT_lt, nF_lt, nT_le, nF_le, nT_eq, nF_eq, and_self, and_true, true_and, and_false, false_and, not_true_eq_false, not_false_eq_true, ne_eq, or_self, or_false, false_or, or_true, true_or, Option.bind_some, i32_lit, i64_lit, i32_add, i32_sub, i32_mul, i32_neg, i64_add, i64_sub, i64_neg, i32_lt, i32_le, i32_eq, i64_lt, i64_le, i64_eq, i32_cn, i32_cl, i32_l, i64_i, i32_nat, Int.toNat_natCast, sI_2, sJ_1, sJ_22, sR_1, sR_21, sI_t, sI_r, sI_j, sJ_t, sJ_r, sJ_j, sR_t, sR_r, sR_j]
            · rw [sJ_t _ _ ⟨rfl, rfl⟩, ← hw2, hv]
    · rw [if_neg (show ¬ i32 o = i32 lab by rw [i32_eq (by omega)]; exact d), if_neg (show ¬ (o = lab ∧ (C = [] ∨ ev L C ≠ 0)) from fun z => d z.1)]
      exact ⟨υ, rfl, fr_rf _ _, h, a1, a2, a3, a4⟩
theorem ev_s {L : Nat → Int64} {l : List Int} {v : Int64} (h : ∀ s, evS L l s = v :: s) : ev L l = v := by unfold ev; rw [h]; rfl
theorem bJ_n {L : Nat → Int64} {C : List Int} {b : Bool} (h : ∀ s, evS L C s = bJ b :: s) : b = true ↔ (C = [] ∨ ev L C ≠ 0) := by
  have hne : C ≠ [] := fun z => by
    rw [z] at h
    have := h []
    cases this
  rw [ev_s h]
  cases b
  · refine ⟨fun z => (by cases z), fun z => ?_⟩
    rcases z with z | z
    · exact absurd z hne
    · exact absurd rfl z
  · exact ⟨fun _ => Or.inr (by decide), fun _ => rfl⟩
/-- behind a CONDITION: its mark and the SUM -/
theorem p_mcl2 {B : Nat → Nat} {n r bs g F : Nat} {L : Nat → Int64} {Z : hZ} {lab o : Int} {fd : Option Int64} {τ : hSt} {rr : PR} {x : Option (Int32 × hSt)} (hF : 300 ≤ F) (hg : g ≤ 1) (ho : 0 ≤ o ∧ o ≤ 255) (hlab : 0 ≤ lab ∧ lab ≤ 255) (hn : rr.2.1 ≤ n) (hn2 : n ≤ 200) (hf : fnd τ g lab fd) (h : resC B n r bs g L τ 0 rr x) : resK B n r bs g L lab fd (o, tQc B n g (stM B n rr)) τ (tQ B n g o (stM B n rr)) (x.bind fun q11 => (f_X12_takes F Z q11.2 (63 : Int32)).bind fun q12 => (if q12.1 = (0 : Int32) then some ((), q12.2) else (f_X12_reckon F Z q12.2).bind fun q14 => stl (i32 o) q11.1 q14.1 q14.2)) := by
  obtain ⟨υ, b, a1, a2, a3, a4⟩ := h
  rw [a1, obs]
  dsimp only
  unfold stM
  by_cases d : rr.1 = true
  · obtain ⟨b1, b3⟩ := a3 d
    obtain ⟨υ2, f2, t⟩ := p_mtakes (Z := Z) (c := 63) hF (by omega) b1
    rw [if_pos d]
    by_cases q : pk B n (sk B n rr.2.1) = 63
    · rw [if_pos q] at t
      obtain ⟨t1, t2, t3⟩ := t
      rw [if_pos q, show f_X12_takes F Z υ 63 = _ from t1, obs]
      dsimp only
      rw [if_neg n10]
      unfold tQ tQc
      dsimp only
      rw [sk_sk, if_pos rfl, if_pos q, if_pos q]
      obtain ⟨υ3, w, u1, u2, u3, u4⟩ := p_mreckon (Z := Z) (d := 6) hF hg rfl t2
      rw [u1, obs]
      dsimp only
      have fA : fr WV τ υ3 := fr_tr (fr_tr a2 f2) u2
      by_cases e : (tT B n g 6 (sk B n rr.2.1 + 1)).1 = true
      · obtain ⟨v1, v2, v3⟩ := u3 e
        obtain ⟨υ4, s1, s2, s3, s4⟩ := p_stl (o := o) (b := b) (C := rr.2.2) (S := (tT B n g 6 (sk B n rr.2.1 + 1)).2.2) ho hlab v1 (fnd_fr hf fA) (bJ_n b3) (ev_s v3)
        rw [if_pos e, s1]
        exact ⟨υ4, rfl, fr_tr (WV_K fA) s2, Or.inl ⟨rfl, s3, s4⟩⟩
      · have e' : (tT B n g 6 (sk B n rr.2.1 + 1)).1 = false := by cases h : (tT B n g 6 (sk B n rr.2.1 + 1)).1 with
          | false => rfl
          | true => exact absurd h e
        have g1 := (tT_PG B n g hg 6 _ (show sk B n rr.2.1 + 1 ≤ n from t3)).1
        rw [if_neg e]
        unfold stl
        rw [if_neg (f_ne (by omega) (u4 e'))]
        exact resK_0 rfl fA (u4 e')
    · rw [if_neg q] at t
      obtain ⟨t1, t2⟩ := t
      rw [if_neg q, show f_X12_takes F Z υ 63 = _ from t1, obs]
      unfold tQ
      exact resK_0 (if_pos rfl) (fr_tr a2 f2) t2
  · have d2 : rr.1 = false := by cases h : rr.1 with
      | false => rfl
      | true => exact absurd h d
    rw [if_neg d, show f_X12_takes F Z υ 63 = _ from p_mtake2 (c := 63) (by omega) (a4 d2), obs]
    unfold tQ
    exact resK_0 (if_pos rfl) a2 (a4 d2)
