/-! what codes are worth -/
def wk (c : Int32) (x y : Int64) : Int64 := (f_X3_worked c x y).getD 0
theorem p_worked (c : Int32) (x y : Int64) : f_X3_worked c x y = some (wk c x y) := by
  have : (f_X3_worked c x y).isSome = true := by
    unfold f_X3_worked
    by_cases h0 : y = 0
    · simp only [apply_ite Option.isSome, Option.isSome_some, ite_self, if_pos h0]
    · simp only [apply_ite Option.isSome, Option.isSome_some, ite_self, if_neg h0]
  unfold wk
  cases h : f_X3_worked c x y with
  | none => rw [h] at this; cases this
  | some v => rfl
def eop (L : Nat → Int64) (c : Int) (s : List Int64) : List Int64 := if c < 10000 then i64 c :: s else if c < 20000 then L (c - 10000).toNat :: s else if c = 20033 then (match s with | x :: t => (1 - x) :: t | [] => []) else (match s with | y :: x :: t => wk (i32 (c - 20000)) x y :: t | [x] => [x] | [] => [])
def evS (L : Nat → Int64) : List Int → List Int64 → List Int64
  | [], s => s
  | c :: l, s => evS L l (eop L c s)
theorem evS_app (L : Nat → Int64) : ∀ a b s, evS L (a ++ b) s = evS L b (evS L a s)
  | [], _, _ => rfl
  | _ :: a, b, s => evS_app L a b _
def VL (L : Nat → Int64) (l : List Int) (v : Int64) (m : Nat) : Prop := ∀ s, evS L l s = v :: s ∧ ∀ k, (evS L (l.take k) s).length ≤ s.length + m
theorem VL_up {L : Nat → Int64} {l : List Int} {v : Int64} {m m' : Nat} (h : VL L l v m) (hm : m ≤ m') : VL L l v m' := fun s => ⟨(h s).1, fun k => by have := (h s).2 k; omega⟩
theorem VL_1 {L : Nat → Int64} {c : Int} {v : Int64} (h : ∀ s, eop L c s = v :: s) : VL L [c] v 1 := by
  intro s
  refine ⟨h s, fun k => ?_⟩
  cases k with
  | zero => exact Nat.le_succ _
  | succ k =>
    rw [List.take_succ_cons, List.take_nil, evS, evS, h]
    exact Nat.le_refl _
theorem VL_bin {L : Nat → Int64} {a b : List Int} {x y : Int64} {m1 m2 : Nat} {c : Int} (ha : VL L a x m1) (hb : VL L b y m2) (hc : 20000 ≤ c ∧ c ≠ 20033) : VL L (a ++ (b ++ [c])) (wk (i32 (c - 20000)) x y) (if m1 < m2 + 1 then m2 + 1 else m1) := by
  have ho : ∀ s, eop L c (y :: x :: s) = wk (i32 (c - 20000)) x y :: s := by
    intro s
    unfold eop
    rw [if_neg (by omega), if_neg (by omega), if_neg hc.2]
  intro s
  constructor
  · rw [evS_app, evS_app, (ha s).1, (hb (x :: s)).1, evS, evS, ho]
  · intro k
    rw [List.take_append, evS_app]
    have h1 := (ha s).2 k
    by_cases e : k ≤ a.length
    · rw [show k - a.length = 0 by omega, List.take_zero, evS]
      split <;> omega
    · rw [List.take_of_length_le (show a.length ≤ k by omega), (ha s).1, List.take_append, evS_app]
      have h2 := (hb (x :: s)).2 (k - a.length)
      rw [List.length_cons] at h2
      by_cases e2 : k - a.length ≤ b.length
      · rw [show k - a.length - b.length = 0 by omega, List.take_zero, evS]
        split <;> omega
      · rw [List.take_of_length_le (show b.length ≤ k - a.length by omega), (hb (x :: s)).1, List.take_of_length_le (show [c].length ≤ k - a.length - b.length by rw [List.length_singleton]; omega), evS, evS, ho]
        rw [List.length_cons]
        split <;> omega
theorem VL_not {L : Nat → Int64} {a : List Int} {x : Int64} {m : Nat} (ha : VL L a x m) : VL L (a ++ [20033]) (1 - x) m := by
  have ho : ∀ s, eop L 20033 (x :: s) = (1 - x) :: s := fun s => rfl
  intro s
  constructor
  · rw [evS_app, (ha s).1, evS, evS, ho]
  · intro k
    rw [List.take_append, evS_app]
    have h1 := (ha s).2 k
    by_cases e : k ≤ a.length
    · rw [show k - a.length = 0 by omega, List.take_zero, evS]; exact h1
    · have h2 := (ha s).2 a.length
      rw [List.take_length, (ha s).1] at h2
      rw [List.take_of_length_le (show a.length ≤ k by omega), (ha s).1, List.take_of_length_le (show [(20033 : Int)].length ≤ k - a.length by rw [List.length_singleton]; omega), evS, evS, ho]
      exact h2
/-! class -/
def stk (σ : hSt) (s : List Int64) : Prop := ∀ i, i < s.length → σ.2.1 8 i = s.getD (s.length - 1 - i) 0
theorem stk_push {σ : hSt} {s : List Int64} {v : Int64} (h : stk σ s) : stk (sJ σ 8 s.length v) (v :: s) := by
  intro i hi
  rw [List.length_cons] at hi
  by_cases e : i = s.length
  · subst e
    rw [sJ_t _ _ ⟨rfl, rfl⟩, List.length_cons, show s.length + 1 - 1 - s.length = 0 by omega]
    rfl
  · rw [sJ_j _ _ (by omega), h i (by omega), List.length_cons, show s.length + 1 - 1 - i = (s.length - 1 - i) + 1 by omega]
    rfl
theorem stk_top {σ : hSt} {x : Int64} {s : List Int64} (h : stk σ (x :: s)) : σ.2.1 8 s.length = x ∧ stk σ s := by
  constructor
  · rw [h s.length (by rw [List.length_cons]; omega), List.length_cons, show s.length + 1 - 1 - s.length = 0 by omega]
    rfl
  · intro i hi
    rw [h i (by rw [List.length_cons]; omega), List.length_cons, show s.length + 1 - 1 - i = (s.length - 1 - i) + 1 by omega]
    rfl
/-- a text's code in its row -/
def cdZ (Z : hZ) (r : Nat) (l : List Int) : Prop := Z.2.1 r = l.length ∧ ∀ i, i < l.length → Z.2.2.1 r i = i32 (l.getD i 0)
/-- signs that the class writes -/
def cOk (c : Int) : Prop := 0 ≤ c ∧ (c < 10010 ∨ 20000 ≤ c) ∧ c ≤ 20255
theorem p_reck_L {Z : hZ} {r r4 n : Nat} {l : List Int} {L : Nat → Int64} {y2 y3 : Int32} {K : hSt → Int32 → Option (Int64 × hSt)} (hj : jlen r4 = 10) (hb : ob r4 = false) (h84 : r4 ≠ 8) (hn : n ≤ 1000) (hz : Z.2.1 r = n) (ht : y2 + y3 ≤ i32 (n : Int)) {e : Nat} (he : y2 + y3 = i32 (e : Int)) (hen : e ≤ n) :
    ∀ (l : List Int) (j N : Nat) (σ : hSt) (s : List Int64), j + l.length = e → l.length < N → (∀ i, i < l.length → Z.2.2.1 r (j + i) = i32 (l.getD i 0) ∧ cOk (l.getD i 0)) → (∀ i, i < 10 → σ.2.1 r4 i = L i) → stk σ s → (∀ k, (evS L (l.take k) s).length ≤ 60) → ∃ σ', f_X3_reckoned_L10 Z r r4 y2 y3 K N σ (i32 (s.length : Int)) (i32 (j : Int)) = K σ' (i32 ((evS L l s).length : Int)) ∧ fr [8] σ σ' ∧ stk σ' (evS L l s) := by
  intro l
  induction l with
  | nil =>
    intro j N σ s hl hN hc hL hs hk
    obtain ⟨N, rfl⟩ : ∃ q, N = q + 1 := ⟨N - 1, by omega⟩
    rw [List.length_nil] at hl
    refine ⟨σ, ?_, fr_rf _ _, hs⟩
    rw [f_X3_reckoned_L10, he, if_pos (by rw [i32_le (by omega)]; omega)]
    rfl
  | cons c l ih =>
    intro j N σ s hl hN hc hL hs hk
    obtain ⟨N, rfl⟩ : ∃ q, N = q + 1 := ⟨N - 1, by omega⟩
    rw [List.length_cons] at hl hN
    obtain ⟨hc0, hcO⟩ := hc 0 (by rw [List.length_cons]; omega)
    rw [Nat.add_zero] at hc0
    have hc0 : Z.2.2.1 r j = i32 c := hc0
    have hcO : cOk c := hcO
    obtain ⟨o1, o2, o3⟩ := hcO
    have hs60 : s.length ≤ 60 := hk 0
    have h1 : (eop L c s).length ≤ 60 := hk 1
    have step : ∀ σ1 : hSt, fr [8] σ σ1 → stk σ1 (eop L c s) → ∃ σ', f_X3_reckoned_L10 Z r r4 y2 y3 K N σ1 (i32 ((eop L c s).length : Int)) (i32 ((j + 1 : Nat) : Int)) = K σ' (i32 ((evS L (c :: l) s).length : Int)) ∧ fr [8] σ σ' ∧ stk σ' (evS L (c :: l) s) := by
      intro σ1 hf hs1
      obtain ⟨σ', e1, e2, e3⟩ := ih (j + 1) N σ1 (eop L c s) (by omega) (by omega) (fun i hi => by
        have := hc (i + 1) (by rw [List.length_cons]; omega)
        rw [show j + (i + 1) = j + 1 + i by omega] at this
        exact this) (fun i hi => by rw [fr_J hf r4 hb (by simp; omega)]; exact hL i hi) hs1 (fun k => hk (k + 1))
      exact ⟨σ', e1, fr_tr hf e2, e3⟩
    have hj1 : (i32 (j : Int) + 1) = i32 ((j + 1 : Nat) : Int) := by rw [i32_lit, i32_add]; rfl
    rw [f_X3_reckoned_L10, he, if_neg (by rw [i32_le (by omega)]; omega), hj1, hz]
    by_cases c1 : c < 10000
    · have e0 : eop L c s = i64 c :: s := by unfold eop; rw [if_pos c1]
      have st := step (sJ σ 8 s.length (i64 c)) (fr_sJ σ _ (by rw [cd_a rfl]; decide)) (by rw [e0]; exact stk_push hs)
      rw [e0, List.length_cons] at st
      simp (disch := omega) only [↓reduceIte, iT_lt, iF_lt, iT_le, iF_le, iT_eq, iF_eq, nT_lt, nF_lt, nT_le, nF_le, nT_eq, nF_eq, and_self, and_true, true_and, and_false, false_and, not_true_eq_false, not_false_eq_true, ne_eq, or_self, or_false, false_or, or_true, true_or, Option.bind_some, i32_lit, i64_lit, i32_add, i32_sub, i32_mul, i32_neg, i64_add, i64_sub, i64_neg, i32_lt, i32_le, i32_eq, i64_lt, i64_le, i64_eq, i32_cn, i32_cl, i32_l, i64_i, i32_nat, Int.toNat_natCast, sI_2, sJ_1, sJ_22, sR_1, sR_21, sI_t, sI_r, sI_j, sJ_t, sJ_r, sJ_j, sR_t, sR_r, sR_j, hc0]
      exact st
    · by_cases c2 : c < 20000
      · have e0 : eop L c s = L (c - 10000).toNat :: s := by unfold eop; rw [if_neg c1, if_pos c2]
        have st := step (sJ σ 8 s.length (L (c - 10000).toNat)) (fr_sJ σ _ (by rw [cd_a rfl]; decide)) (by rw [e0]; exact stk_push hs)
        rw [e0, List.length_cons] at st
        have hl2 := hL (c - 10000).toNat (by omega)
        have hw : f_X3_letterWorth Z σ (i32 (c - 10000)) r4 = some (L (c - 10000).toNat) := by
          unfold f_X3_letterWorth
          rw [hj]
          simp (disch := omega) only [↓reduceIte, iT_lt, iF_lt, iT_le, iF_le, iT_eq, iF_eq, nT_lt, nF_lt, nT_le, nF_le, nT_eq, nF_eq, and_self, and_true, true_and, and_false, false_and, not_true_eq_false, not_false_eq_true, ne_eq, or_self, or_false, false_or, or_true, true_or, Option.bind_some, i32_lit, i64_lit, i32_add, i32_sub, i32_mul, i32_neg, i64_add, i64_sub, i64_neg, i32_lt, i32_le, i32_eq, i64_lt, i64_le, i64_eq, i32_cn, i32_cl, i32_l, i64_i, i32_nat, Int.toNat_natCast, sI_2, sJ_1, sJ_22, sR_1, sR_21, sI_t, sI_r, sI_j, sJ_t, sJ_r, sJ_j, sR_t, sR_r, sR_j, hl2]
        simp (disch := omega) only [↓reduceIte, iT_lt, iF_lt, iT_le, iF_le, iT_eq, iF_eq, nT_lt, nF_lt, nT_le, nF_le, nT_eq, nF_eq, and_self, and_true, true_and, and_false, false_and, not_true_eq_false, not_false_eq_true, ne_eq, or_self, or_false, false_or, or_true, true_or, Option.bind_some, i32_lit, i64_lit, i32_add, i32_sub, i32_mul, i32_neg, i64_add, i64_sub, i64_neg, i32_lt, i32_le, i32_eq, i64_lt, i64_le, i64_eq, i32_cn, i32_cl, i32_l, i64_i, i32_nat, Int.toNat_natCast, sI_2, sJ_1, sJ_22, sR_1, sR_21, sI_t, sI_r, sI_j, sJ_t, sJ_r, sJ_j, sR_t, sR_r, sR_j, hc0, hw]
        exact st
      · by_cases c3 : c = 20033
        · subst c3
          cases s with
          | nil =>
            have st := step σ (fr_rf _ _) hs
            rw [show eop L 20033 [] = [] from rfl] at st
            rw [List.length_nil] at st ⊢
            simp (disch := omega) only [↓reduceIte, iT_lt, iF_lt, iT_le, iF_le, iT_eq, iF_eq, nT_lt, nF_lt, nT_le, nF_le, nT_eq, nF_eq, and_self, and_true, true_and, and_false, false_and, not_true_eq_false, not_false_eq_true, ne_eq, or_self, or_false, false_or, or_true, true_or, Option.bind_some, i32_lit, i64_lit, i32_add, i32_sub, i32_mul, i32_neg, i64_add, i64_sub, i64_neg, i32_lt, i32_le, i32_eq, i64_lt, i64_le, i64_eq, i32_cn, i32_cl, i32_l, i64_i, i32_nat, Int.toNat_natCast, sI_2, sJ_1, sJ_22, sR_1, sR_21, sI_t, sI_r, sI_j, sJ_t, sJ_r, sJ_j, sR_t, sR_r, sR_j, hc0]
            exact st
          | cons x t =>
            have e0 : eop L 20033 (x :: t) = (1 - x) :: t := rfl
            obtain ⟨t1, t2⟩ := stk_top hs
            have st := step (sJ σ 8 t.length (1 - x)) (fr_sJ σ _ (by rw [cd_a rfl]; decide)) (by rw [e0]; exact stk_push t2)
            rw [e0, List.length_cons] at st
            rw [List.length_cons] at hs60 ⊢
            have e1 : ((t.length + 1 : Nat) : Int) - 1 = (t.length : Int) := by omega
            simp (disch := omega) only [↓reduceIte, iT_lt, iF_lt, iT_le, iF_le, iT_eq, iF_eq, nT_lt, nF_lt, nT_le, nF_le, nT_eq, nF_eq, and_self, and_true, true_and, and_false, false_and, not_true_eq_false, not_false_eq_true, ne_eq, or_self, or_false, false_or, or_true, true_or, Option.bind_some, i32_lit, i64_lit, i32_add, i32_sub, i32_mul, i32_neg, i64_add, i64_sub, i64_neg, i32_lt, i32_le, i32_eq, i64_lt, i64_le, i64_eq, i32_cn, i32_cl, i32_l, i64_i, i32_nat, Int.toNat_natCast, sI_2, sJ_1, sJ_22, sR_1, sR_21, sI_t, sI_r, sI_j, sJ_t, sJ_r, sJ_j, sR_t, sR_r, sR_j, hc0, e1, t1]
            exact st
        · match s, hs, hs60, step with
          | [], hs, hs60, step =>
            have e0 : eop L c [] = [] := by unfold eop; rw [if_neg c1, if_neg c2, if_neg c3]
            have st := step σ (fr_rf _ _) (by rw [e0]; exact hs)
            rw [e0] at st
            rw [List.length_nil] at st ⊢
            simp (disch := omega) only [↓reduceIte, iT_lt, iF_lt, iT_le, iF_le, iT_eq, iF_eq, nT_lt, nF_lt, nT_le, nF_le, nT_eq, nF_eq, and_self, and_true, true_and, and_false, false_and, not_true_eq_false, not_false_eq_true, ne_eq, or_self, or_false, false_or, or_true, true_or, Option.bind_some, i32_lit, i64_lit, i32_add, i32_sub, i32_mul, i32_neg, i64_add, i64_sub, i64_neg, i32_lt, i32_le, i32_eq, i64_lt, i64_le, i64_eq, i32_cn, i32_cl, i32_l, i64_i, i32_nat, Int.toNat_natCast, sI_2, sJ_1, sJ_22, sR_1, sR_21, sI_t, sI_r, sI_j, sJ_t, sJ_r, sJ_j, sR_t, sR_r, sR_j, hc0]
            exact st
          | [x], hs, hs60, step =>
            have e0 : eop L c [x] = [x] := by unfold eop; rw [if_neg c1, if_neg c2, if_neg c3]
            have st := step σ (fr_rf _ _) (by rw [e0]; exact hs)
            rw [e0] at st
            rw [List.length_singleton] at st ⊢
            simp (disch := omega) only [↓reduceIte, iT_lt, iF_lt, iT_le, iF_le, iT_eq, iF_eq, nT_lt, nF_lt, nT_le, nF_le, nT_eq, nF_eq, and_self, and_true, true_and, and_false, false_and, not_true_eq_false, not_false_eq_true, ne_eq, or_self, or_false, false_or, or_true, true_or, Option.bind_some, i32_lit, i64_lit, i32_add, i32_sub, i32_mul, i32_neg, i64_add, i64_sub, i64_neg, i32_lt, i32_le, i32_eq, i64_lt, i64_le, i64_eq, i32_cn, i32_cl, i32_l, i64_i, i32_nat, Int.toNat_natCast, sI_2, sJ_1, sJ_22, sR_1, sR_21, sI_t, sI_r, sI_j, sJ_t, sJ_r, sJ_j, sR_t, sR_r, sR_j, hc0]
            exact st
          | y :: x :: t, hs, hs60, step =>
            have e0 : eop L c (y :: x :: t) = wk (i32 (c - 20000)) x y :: t := by unfold eop; rw [if_neg c1, if_neg c2, if_neg c3]
            obtain ⟨t1, t2⟩ := stk_top hs
            obtain ⟨t3, t4⟩ := stk_top t2
            rw [List.length_cons] at t1
            have st := step (sJ σ 8 t.length (wk (i32 (c - 20000)) x y)) (fr_sJ σ _ (by rw [cd_a rfl]; decide)) (by rw [e0]; exact stk_push t4)
            rw [e0, List.length_cons] at st
            rw [List.length_cons, List.length_cons] at hs60 ⊢
            have e1 : ((t.length + 1 + 1 : Nat) : Int) + -1 = ((t.length + 1 : Nat) : Int) := by omega
            have e2 : ((t.length + 1 : Nat) : Int) - 1 = (t.length : Int) := by omega
            simp (disch := omega) only [↓reduceIte, iT_lt, iF_lt, iT_le, iF_le, iT_eq, iF_eq, nT_lt, nF_lt, nT_le, nF_le, nT_eq, nF_eq, and_self, and_true, true_and, and_false, false_and, not_true_eq_false, not_false_eq_true, ne_eq, or_self, or_false, false_or, or_true, true_or, Option.bind_some, i32_lit, i64_lit, i32_add, i32_sub, i32_mul, i32_neg, i64_add, i64_sub, i64_neg, i32_lt, i32_le, i32_eq, i64_lt, i64_le, i64_eq, i32_cn, i32_cl, i32_l, i64_i, i32_nat, Int.toNat_natCast, sI_2, sJ_1, sJ_22, sR_1, sR_21, sI_t, sI_r, sI_j, sJ_t, sJ_r, sJ_j, sR_t, sR_r, sR_j, hc0, e1, e2, t1, t3, p_worked]
            exact st
