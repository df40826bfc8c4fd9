/-! SAYINGS: the grammar, and the class's reader -/
def isC (c : Nat) : Nat → Bool := fun x => x == c
def sayU (B : Nat → Nat) (n : Nat) : Nat → Nat → PR
  | 0, p => if 97 ≤ pk B n (sk B n p) ∧ pk B n (sk B n p) ≤ 102 then (true, sk B n p + 1, [(pk B n (sk B n p) : Int) - 97]) else (false, sk B n p, [])
  | d + 1, p => if pk B n (sk B n p) = 33 then (if (sayU B n d (sk B n p + 1)).1 = true then (true, (sayU B n d (sk B n p + 1)).2.1, (sayU B n d (sk B n p + 1)).2.2 ++ [6]) else (false, (sayU B n d (sk B n p + 1)).2.1, [])) else if pk B n (sk B n p) = 40 then (if (chn B n (isC 124) (fun _ => 8) (chn B n (isC 38) (fun _ => 7) (sayU B n d)) (sk B n p + 1)).1 = true then (if pk B n (sk B n (chn B n (isC 124) (fun _ => 8) (chn B n (isC 38) (fun _ => 7) (sayU B n d)) (sk B n p + 1)).2.1) = 41 then (true, sk B n (chn B n (isC 124) (fun _ => 8) (chn B n (isC 38) (fun _ => 7) (sayU B n d)) (sk B n p + 1)).2.1 + 1, (chn B n (isC 124) (fun _ => 8) (chn B n (isC 38) (fun _ => 7) (sayU B n d)) (sk B n p + 1)).2.2) else (false, sk B n (chn B n (isC 124) (fun _ => 8) (chn B n (isC 38) (fun _ => 7) (sayU B n d)) (sk B n p + 1)).2.1, [])) else (false, (chn B n (isC 124) (fun _ => 8) (chn B n (isC 38) (fun _ => 7) (sayU B n d)) (sk B n p + 1)).2.1, [])) else if 97 ≤ pk B n (sk B n p) ∧ pk B n (sk B n p) ≤ 102 then (true, sk B n p + 1, [(pk B n (sk B n p) : Int) - 97]) else (false, sk B n p, [])
def sayN (B : Nat → Nat) (n d : Nat) : Nat → PR := chn B n (isC 38) (fun _ => 7) (sayU B n d)
def sayO (B : Nat → Nat) (n d : Nat) : Nat → PR := chn B n (isC 124) (fun _ => 8) (sayN B n d)
theorem sayU_s (B : Nat → Nat) (n d p : Nat) : sayU B n (d + 1) p = if pk B n (sk B n p) = 33 then (if (sayU B n d (sk B n p + 1)).1 = true then (true, (sayU B n d (sk B n p + 1)).2.1, (sayU B n d (sk B n p + 1)).2.2 ++ [6]) else (false, (sayU B n d (sk B n p + 1)).2.1, [])) else if pk B n (sk B n p) = 40 then (if (sayO B n d (sk B n p + 1)).1 = true then (if pk B n (sk B n (sayO B n d (sk B n p + 1)).2.1) = 41 then (true, sk B n (sayO B n d (sk B n p + 1)).2.1 + 1, (sayO B n d (sk B n p + 1)).2.2) else (false, sk B n (sayO B n d (sk B n p + 1)).2.1, [])) else (false, (sayO B n d (sk B n p + 1)).2.1, [])) else if 97 ≤ pk B n (sk B n p) ∧ pk B n (sk B n p) ≤ 102 then (true, sk B n p + 1, [(pk B n (sk B n p) : Int) - 97]) else (false, sk B n p, []) := rfl
theorem pkp_lt {B : Nat → Nat} {n q : Nat} (h : pk B n q ≠ 0) : q < n := by
  rcases Nat.lt_or_ge q n with r | r
  · exact r
  · exfalso; apply h; unfold pk; rw [if_neg (by omega)]
theorem name_PG {B : Nat → Nat} {n p : Nat} (hp : p ≤ n) (r : PR) (hr : r = if 97 ≤ pk B n (sk B n p) ∧ pk B n (sk B n p) ≤ 102 then (true, sk B n p + 1, [(pk B n (sk B n p) : Int) - 97]) else (false, sk B n p, [])) : r.2.1 ≤ n ∧ (r.1 = true → p < r.2.1 ∧ r.2.2.length + p ≤ r.2.1) := by
  have hs := sk_rg (B := B) hp
  by_cases c : 97 ≤ pk B n (sk B n p) ∧ pk B n (sk B n p) ≤ 102
  · rw [if_pos c] at hr
    have := pkp_lt (show pk B n (sk B n p) ≠ 0 by omega)
    subst hr
    exact ⟨this, fun _ => ⟨by show p < sk B n p + 1; omega, by show 1 + p ≤ sk B n p + 1; omega⟩⟩
  · rw [if_neg c] at hr
    subst hr
    exact ⟨hs.2, fun e => by cases e⟩
theorem sayU_PG (B : Nat → Nat) (n : Nat) : ∀ d, PG n (sayU B n d)
  | 0 => fun p hp => name_PG hp _ rfl
  | d + 1 => by
    intro p hp
    have ih := sayU_PG B n d
    have ihO : PG n (sayO B n d) := chn_PG rfl (chn_PG rfl ih)
    have hs := sk_rg (B := B) hp
    rw [sayU_s]
    by_cases c1 : pk B n (sk B n p) = 33
    · have hlt := pkp_lt (show pk B n (sk B n p) ≠ 0 by omega)
      obtain ⟨i1, i2⟩ := ih (sk B n p + 1) hlt
      rw [if_pos c1]
      by_cases e : (sayU B n d (sk B n p + 1)).1 = true
      · rw [if_pos e]
        obtain ⟨j1, j2⟩ := i2 e
        refine ⟨i1, fun _ => ⟨by show p < (sayU B n d (sk B n p + 1)).2.1; omega, ?_⟩⟩
        simp only [List.length_append, List.length_cons, List.length_nil]
        omega
      · rw [if_neg e]
        exact ⟨i1, fun q => by cases q⟩
    · rw [if_neg c1]
      by_cases c2 : pk B n (sk B n p) = 40
      · have hlt := pkp_lt (show pk B n (sk B n p) ≠ 0 by omega)
        obtain ⟨i1, i2⟩ := ihO (sk B n p + 1) hlt
        rw [if_pos c2]
        by_cases e : (sayO B n d (sk B n p + 1)).1 = true
        · rw [if_pos e]
          obtain ⟨j1, j2⟩ := i2 e
          have hs2 := sk_rg (B := B) i1
          by_cases e2 : pk B n (sk B n (sayO B n d (sk B n p + 1)).2.1) = 41
          · have hlt2 := pkp_lt (show pk B n (sk B n (sayO B n d (sk B n p + 1)).2.1) ≠ 0 by omega)
            rw [if_pos e2]
            exact ⟨hlt2, fun _ => ⟨by show p < sk B n (sayO B n d (sk B n p + 1)).2.1 + 1; omega, by show (sayO B n d (sk B n p + 1)).2.2.length + p ≤ sk B n (sayO B n d (sk B n p + 1)).2.1 + 1; omega⟩⟩
          · rw [if_neg e2]
            exact ⟨hs2.2, fun q => by cases q⟩
        · rw [if_neg e]
          exact ⟨i1, fun q => by cases q⟩
      · rw [if_neg c2]
        exact name_PG hp _ rfl
theorem sayN_PG (B : Nat → Nat) (n d : Nat) : PG n (sayN B n d) := chn_PG rfl (sayU_PG B n d)
theorem sayO_PG (B : Nat → Nat) (n d : Nat) : PG n (sayO B n d) := chn_PG rfl (sayN_PG B n d)
/-! what the class's readers leave -/
def cdA (σ : hSt) (w : Nat) (l : List Int) : Prop := ∀ i, i < l.length → σ.1 3 (w + i) = i32 (l.getD i 0)
def kpW (σ σ' : hSt) (w : Nat) : Prop := ∀ j, j < w → σ'.1 3 j = σ.1 3 j
def resH (B : Nat → Nat) (n : Nat) (σ : hSt) (w : Nat) (r : PR) (x : Option (Int32 × hSt)) : Prop := ∃ σ', x = some (b01 r.1, σ') ∧ fr WT σ σ' ∧ (r.1 = true → okH B n σ' r.2.1 (w + r.2.2.length) ∧ kpW σ σ' w ∧ cdA σ' w r.2.2) ∧ (r.1 = false → σ'.1 1 4 = i32 (r.2.1 : Int))
theorem gd_l {l m : List Int} {i : Nat} (h : i < l.length) : (l ++ m).getD i 0 = l.getD i 0 := by
  simp [List.getD, List.getElem?_append_left h]
theorem gd_r (l m : List Int) (j : Nat) : (l ++ m).getD (l.length + j) 0 = m.getD j 0 := by
  simp [List.getD, List.getElem?_append_right]
theorem n10 : ¬ (1 : Int32) = 0 := by decide
theorem b01t : b01 true = 1 := rfl
theorem b01f : b01 false = 0 := rfl
theorem cdA_app {σ : hSt} {w : Nat} {l m : List Int} (h1 : cdA σ w l) (h2 : cdA σ (w + l.length) m) : cdA σ w (l ++ m) := by
  intro i hi
  rw [List.length_append] at hi
  by_cases c : i < l.length
  · rw [h1 i c, gd_l c]
  · obtain ⟨j, rfl⟩ : ∃ j, i = l.length + j := ⟨i - l.length, by omega⟩
    rw [← Nat.add_assoc, h2 j (by omega), gd_r]
theorem cdA_kp {σ σ' : hSt} {w : Nat} {l : List Int} (h : cdA σ w l) (k : kpW σ σ' (w + l.length)) : cdA σ' w l := fun i hi => by rw [k (w + i) (by omega)]; exact h i hi
theorem p_write {n p w : Nat} {Z : hZ} {B : Nat → Nat} {σ : hSt} {v : Int} (h : okH B n σ p w) (hw : w + 1 ≤ 2 * p) : ∃ σ', f_X8_write Z σ (i32 v) = some ((), σ') ∧ fr WT σ σ' ∧ okH B n σ' p (w + 1) ∧ kpW σ σ' w ∧ σ'.1 3 w = i32 v := by
  obtain ⟨a1, a2, a3, a4, a5, a6, a7⟩ := h
  refine ⟨sI (sI σ 3 w (i32 v)) 1 5 (i32 ((w + 1 : Nat) : Int)), ?_, fr_tr (fr_sI σ _ (by rw [cd_a rfl]; decide)) (fr_sI _ _ (by decide)), ⟨a1, a2, hw, ?_, fun j hj => ?_, ?_, ?_⟩, fun j hj => ?_, ?_⟩
  · unfold f_X8_write
    simp (disch := omega) only [↓reduceIte, iT_lt, iF_lt, iT_le, iF_le, iT_eq, iF_eq, nT_lt, nF_lt, nT_le, nF_le, nT_eq, nF_eq, and_self, and_true, true_and, and_false, false_and, not_true_eq_false, not_false_eq_true, ne_eq, or_self, or_false, false_or, or_true, true_or, Option.bind_some, i32_lit, i64_lit, i32_add, i32_sub, i32_mul, i32_neg, i64_add, i64_sub, i64_neg, i32_lt, i32_le, i32_eq, i64_lt, i64_le, i64_eq, i32_cn, i32_cl, i32_l, i64_i, i32_nat, Int.toNat_natCast, sI_2, sJ_1, sJ_22, sR_1, sR_21, sI_t, sI_r, sI_j, sJ_t, sJ_r, sJ_j, sR_t, sR_r, sR_j, a7]
    rfl
  · simp (disch := omega) only [↓reduceIte, iT_lt, iF_lt, iT_le, iF_le, iT_eq, iF_eq, nT_lt, nF_lt, nT_le, nF_le, nT_eq, nF_eq, and_self, and_true, true_and, and_false, false_and, not_true_eq_false, not_false_eq_true, ne_eq, or_self, or_false, false_or, or_true, true_or, Option.bind_some, i32_lit, i64_lit, i32_add, i32_sub, i32_mul, i32_neg, i64_add, i64_sub, i64_neg, i32_lt, i32_le, i32_eq, i64_lt, i64_le, i64_eq, i32_cn, i32_cl, i32_l, i64_i, i32_nat, Int.toNat_natCast, sI_2, sJ_1, sJ_22, sR_1, sR_21, sI_t, sI_r, sI_j, sJ_t, sJ_r, sJ_j, sR_t, sR_r, sR_j]; exact a4
  · simp (disch := omega) only [↓reduceIte, iT_lt, iF_lt, iT_le, iF_le, iT_eq, iF_eq, nT_lt, nF_lt, nT_le, nF_le, nT_eq, nF_eq, and_self, and_true, true_and, and_false, false_and, not_true_eq_false, not_false_eq_true, ne_eq, or_self, or_false, false_or, or_true, true_or, Option.bind_some, i32_lit, i64_lit, i32_add, i32_sub, i32_mul, i32_neg, i64_add, i64_sub, i64_neg, i32_lt, i32_le, i32_eq, i64_lt, i64_le, i64_eq, i32_cn, i32_cl, i32_l, i64_i, i32_nat, Int.toNat_natCast, sI_2, sJ_1, sJ_22, sR_1, sR_21, sI_t, sI_r, sI_j, sJ_t, sJ_r, sJ_j, sR_t, sR_r, sR_j]; exact a5 j hj
  · simp (disch := omega) only [↓reduceIte, iT_lt, iF_lt, iT_le, iF_le, iT_eq, iF_eq, nT_lt, nF_lt, nT_le, nF_le, nT_eq, nF_eq, and_self, and_true, true_and, and_false, false_and, not_true_eq_false, not_false_eq_true, ne_eq, or_self, or_false, false_or, or_true, true_or, Option.bind_some, i32_lit, i64_lit, i32_add, i32_sub, i32_mul, i32_neg, i64_add, i64_sub, i64_neg, i32_lt, i32_le, i32_eq, i64_lt, i64_le, i64_eq, i32_cn, i32_cl, i32_l, i64_i, i32_nat, Int.toNat_natCast, sI_2, sJ_1, sJ_22, sR_1, sR_21, sI_t, sI_r, sI_j, sJ_t, sJ_r, sJ_j, sR_t, sR_r, sR_j]; exact a6
  · simp (disch := omega) only [↓reduceIte, iT_lt, iF_lt, iT_le, iF_le, iT_eq, iF_eq, nT_lt, nF_lt, nT_le, nF_le, nT_eq, nF_eq, and_self, and_true, true_and, and_false, false_and, not_true_eq_false, not_false_eq_true, ne_eq, or_self, or_false, false_or, or_true, true_or, Option.bind_some, i32_lit, i64_lit, i32_add, i32_sub, i32_mul, i32_neg, i64_add, i64_sub, i64_neg, i32_lt, i32_le, i32_eq, i64_lt, i64_le, i64_eq, i32_cn, i32_cl, i32_l, i64_i, i32_nat, Int.toNat_natCast, sI_2, sJ_1, sJ_22, sR_1, sR_21, sI_t, sI_r, sI_j, sJ_t, sJ_r, sJ_j, sR_t, sR_r, sR_j]
  · simp (disch := omega) only [↓reduceIte, iT_lt, iF_lt, iT_le, iF_le, iT_eq, iF_eq, nT_lt, nF_lt, nT_le, nF_le, nT_eq, nF_eq, and_self, and_true, true_and, and_false, false_and, not_true_eq_false, not_false_eq_true, ne_eq, or_self, or_false, false_or, or_true, true_or, Option.bind_some, i32_lit, i64_lit, i32_add, i32_sub, i32_mul, i32_neg, i64_add, i64_sub, i64_neg, i32_lt, i32_le, i32_eq, i64_lt, i64_le, i64_eq, i32_cn, i32_cl, i32_l, i64_i, i32_nat, Int.toNat_natCast, sI_2, sJ_1, sJ_22, sR_1, sR_21, sI_t, sI_r, sI_j, sJ_t, sJ_r, sJ_j, sR_t, sR_r, sR_j]
  · simp (disch := omega) only [↓reduceIte, iT_lt, iF_lt, iT_le, iF_le, iT_eq, iF_eq, nT_lt, nF_lt, nT_le, nF_le, nT_eq, nF_eq, and_self, and_true, true_and, and_false, false_and, not_true_eq_false, not_false_eq_true, ne_eq, or_self, or_false, false_or, or_true, true_or, Option.bind_some, i32_lit, i64_lit, i32_add, i32_sub, i32_mul, i32_neg, i64_add, i64_sub, i64_neg, i32_lt, i32_le, i32_eq, i64_lt, i64_le, i64_eq, i32_cn, i32_cl, i32_l, i64_i, i32_nat, Int.toNat_natCast, sI_2, sJ_1, sJ_22, sR_1, sR_21, sI_t, sI_r, sI_j, sJ_t, sJ_r, sJ_j, sR_t, sR_r, sR_j]
theorem p_fail {n p w : Nat} {Z : hZ} {B : Nat → Nat} {σ : hSt} (h : okH B n σ p w) : ∃ σ', f_X8_fail Z σ = some (0, σ') ∧ fr WT σ σ' ∧ σ'.1 1 4 = i32 (p : Int) := by
  refine ⟨sI σ 1 4 (i32 (p : Int)), ?_, fr_sI _ _ (by decide), ?_⟩
  · unfold f_X8_fail
    rw [h.2.2.2.2.2.1]
  · simp (disch := omega) only [↓reduceIte, iT_lt, iF_lt, iT_le, iF_le, iT_eq, iF_eq, nT_lt, nF_lt, nT_le, nF_le, nT_eq, nF_eq, and_self, and_true, true_and, and_false, false_and, not_true_eq_false, not_false_eq_true, ne_eq, or_self, or_false, false_or, or_true, true_or, Option.bind_some, i32_lit, i64_lit, i32_add, i32_sub, i32_mul, i32_neg, i64_add, i64_sub, i64_neg, i32_lt, i32_le, i32_eq, i64_lt, i64_le, i64_eq, i32_cn, i32_cl, i32_l, i64_i, i32_nat, Int.toNat_natCast, sI_2, sJ_1, sJ_22, sR_1, sR_21, sI_t, sI_r, sI_j, sJ_t, sJ_r, sJ_j, sR_t, sR_r, sR_j]
theorem p_step {n p w : Nat} {Z : hZ} {B : Nat → Nat} {σ : hSt} (h : okH B n σ p w) (hp : p < n) : ∃ σ', f_X8_step Z σ = some ((), σ') ∧ fr WT σ σ' ∧ okH B n σ' (p + 1) w ∧ σ'.1 3 = σ.1 3 := by
  obtain ⟨a1, a2, a3, a4, a5, a6, a7⟩ := h
  refine ⟨sI σ 1 3 (i32 ((p + 1 : Nat) : Int)), ?_, fr_sI _ _ (by decide), ⟨a1, hp, by omega, ?_, fun j hj => ?_, ?_, ?_⟩, ?_⟩
  · unfold f_X8_step
    simp (disch := omega) only [↓reduceIte, iT_lt, iF_lt, iT_le, iF_le, iT_eq, iF_eq, nT_lt, nF_lt, nT_le, nF_le, nT_eq, nF_eq, and_self, and_true, true_and, and_false, false_and, not_true_eq_false, not_false_eq_true, ne_eq, or_self, or_false, false_or, or_true, true_or, Option.bind_some, i32_lit, i64_lit, i32_add, i32_sub, i32_mul, i32_neg, i64_add, i64_sub, i64_neg, i32_lt, i32_le, i32_eq, i64_lt, i64_le, i64_eq, i32_cn, i32_cl, i32_l, i64_i, i32_nat, Int.toNat_natCast, sI_2, sJ_1, sJ_22, sR_1, sR_21, sI_t, sI_r, sI_j, sJ_t, sJ_r, sJ_j, sR_t, sR_r, sR_j, a6]
    rfl
  · simp (disch := omega) only [↓reduceIte, iT_lt, iF_lt, iT_le, iF_le, iT_eq, iF_eq, nT_lt, nF_lt, nT_le, nF_le, nT_eq, nF_eq, and_self, and_true, true_and, and_false, false_and, not_true_eq_false, not_false_eq_true, ne_eq, or_self, or_false, false_or, or_true, true_or, Option.bind_some, i32_lit, i64_lit, i32_add, i32_sub, i32_mul, i32_neg, i64_add, i64_sub, i64_neg, i32_lt, i32_le, i32_eq, i64_lt, i64_le, i64_eq, i32_cn, i32_cl, i32_l, i64_i, i32_nat, Int.toNat_natCast, sI_2, sJ_1, sJ_22, sR_1, sR_21, sI_t, sI_r, sI_j, sJ_t, sJ_r, sJ_j, sR_t, sR_r, sR_j]; exact a4
  · simp (disch := omega) only [↓reduceIte, iT_lt, iF_lt, iT_le, iF_le, iT_eq, iF_eq, nT_lt, nF_lt, nT_le, nF_le, nT_eq, nF_eq, and_self, and_true, true_and, and_false, false_and, not_true_eq_false, not_false_eq_true, ne_eq, or_self, or_false, false_or, or_true, true_or, Option.bind_some, i32_lit, i64_lit, i32_add, i32_sub, i32_mul, i32_neg, i64_add, i64_sub, i64_neg, i32_lt, i32_le, i32_eq, i64_lt, i64_le, i64_eq, i32_cn, i32_cl, i32_l, i64_i, i32_nat, Int.toNat_natCast, sI_2, sJ_1, sJ_22, sR_1, sR_21, sI_t, sI_r, sI_j, sJ_t, sJ_r, sJ_j, sR_t, sR_r, sR_j]; exact a5 j hj
  · simp (disch := omega) only [↓reduceIte, iT_lt, iF_lt, iT_le, iF_le, iT_eq, iF_eq, nT_lt, nF_lt, nT_le, nF_le, nT_eq, nF_eq, and_self, and_true, true_and, and_false, false_and, not_true_eq_false, not_false_eq_true, ne_eq, or_self, or_false, false_or, or_true, true_or, Option.bind_some, i32_lit, i64_lit, i32_add, i32_sub, i32_mul, i32_neg, i64_add, i64_sub, i64_neg, i32_lt, i32_le, i32_eq, i64_lt, i64_le, i64_eq, i32_cn, i32_cl, i32_l, i64_i, i32_nat, Int.toNat_natCast, sI_2, sJ_1, sJ_22, sR_1, sR_21, sI_t, sI_r, sI_j, sJ_t, sJ_r, sJ_j, sR_t, sR_r, sR_j]
  · simp (disch := omega) only [↓reduceIte, iT_lt, iF_lt, iT_le, iF_le, iT_eq, iF_eq, nT_lt, nF_lt, nT_le, nF_le, nT_eq, nF_eq, and_self, and_true, true_and, and_false, false_and, not_true_eq_false, not_false_eq_true, ne_eq, or_self, or_false, false_or, or_true, true_or, Option.bind_some, i32_lit, i64_lit, i32_add, i32_sub, i32_mul, i32_neg, i64_add, i64_sub, i64_neg, i32_lt, i32_le, i32_eq, i64_lt, i64_le, i64_eq, i32_cn, i32_cl, i32_l, i64_i, i32_nat, Int.toNat_natCast, sI_2, sJ_1, sJ_22, sR_1, sR_21, sI_t, sI_r, sI_j, sJ_t, sJ_r, sJ_j, sR_t, sR_r, sR_j]; exact a7
  · simp (disch := omega) only [↓reduceIte, iT_lt, iF_lt, iT_le, iF_le, iT_eq, iF_eq, nT_lt, nF_lt, nT_le, nF_le, nT_eq, nF_eq, and_self, and_true, true_and, and_false, false_and, not_true_eq_false, not_false_eq_true, ne_eq, or_self, or_false, false_or, or_true, true_or, Option.bind_some, i32_lit, i64_lit, i32_add, i32_sub, i32_mul, i32_neg, i64_add, i64_sub, i64_neg, i32_lt, i32_le, i32_eq, i64_lt, i64_le, i64_eq, i32_cn, i32_cl, i32_l, i64_i, i32_nat, Int.toNat_natCast, sI_2, sJ_1, sJ_22, sR_1, sR_21, sI_t, sI_r, sI_j, sJ_t, sJ_r, sJ_j, sR_t, sR_r, sR_j]
/-- a row of things with one sign between: the loop's common form -/
def chH (F : Nat) (Z : hZ) (c e : Int32) (u : hSt → Option (Int32 × hSt)) : Nat → hSt → Int32 → Option (Int32 × hSt)
  | 0, _, _ => none
  | N + 1, σ, z => if z ≤ (0 : Int32) then some ((1 : Int32), σ) else (f_X8_take F Z σ c).bind fun q4 => (if q4.1 = (0 : Int32) then some ((1 : Int32), q4.2) else (u q4.2).bind fun q6 => (if q6.1 = (0 : Int32) then some ((0 : Int32), q6.2) else (f_X8_write Z q6.2 e).bind fun q8 => chH F Z c e u N q8.2 (z + (-1 : Int32))))
theorem p_chH {F n c : Nat} {e : Int} {Z : hZ} {B : Nat → Nat} {it : Nat → PR} {u : hSt → Option (Int32 × hSt)} (hF : 300 ≤ F) (hc : 1 ≤ c ∧ c ≤ 255) (hg : PG n it) (hu : ∀ σ p w, okH B n σ p w → resH B n σ w (it p) (u σ)) :
    ∀ k p N (σ : hSt) w0 acc, k ≤ 200 → k < N → okH B n σ p (w0 + acc.length) → cdA σ w0 acc → ∃ σ', chH F Z (i32 (c : Int)) (i32 e) u N σ (i32 (k : Int)) = some (b01 (chL B n (isC c) (fun _ => e) it k p acc).1, σ') ∧ fr WT σ σ' ∧ ((chL B n (isC c) (fun _ => e) it k p acc).1 = true → okH B n σ' (chL B n (isC c) (fun _ => e) it k p acc).2.1 (w0 + (chL B n (isC c) (fun _ => e) it k p acc).2.2.length) ∧ kpW σ σ' w0 ∧ cdA σ' w0 (chL B n (isC c) (fun _ => e) it k p acc).2.2) ∧ ((chL B n (isC c) (fun _ => e) it k p acc).1 = false → σ'.1 1 4 = i32 ((chL B n (isC c) (fun _ => e) it k p acc).2.1 : Int)) := by
  intro k
  induction k with
  | zero =>
    intro p N σ w0 acc hk hN ho ha
    obtain ⟨N, rfl⟩ : ∃ q, N = q + 1 := ⟨N - 1, by omega⟩
    refine ⟨σ, ?_, fr_rf _ _, fun _ => ⟨ho, fun _ _ => rfl, ha⟩, fun q => by cases q⟩
    rw [chH, chL]
    rfl
  | succ k ih =>
    intro p N σ w0 acc hk hN ho ha
    obtain ⟨N, rfl⟩ : ∃ q, N = q + 1 := ⟨N - 1, by omega⟩
    have ht := p_take (Z := Z) hF ho hc
    rw [chH, chL, if_neg (by rw [show (0 : Int32) = i32 0 from rfl, i32_le (by omega)]; omega)]
    have ek : i32 ((k + 1 : Nat) : Int) + (-1 : Int32) = i32 (k : Int) := by
      rw [show (-1 : Int32) = i32 (-1) from rfl, i32_add]; congr 1; omega
    by_cases q : pk B n (sk B n p) = c
    · rw [if_pos q] at ht
      obtain ⟨σ1, b1, b2, b3, b4, b5⟩ := ht
      have hq : isC c (pk B n (sk B n p)) = true := by unfold isC; rw [q]; exact beq_self_eq_true c
      rw [if_pos hq, b1, obs]
      dsimp only
      rw [if_neg n10]
      obtain ⟨σ2, c1, c2, c3, c4⟩ := hu σ1 _ _ b4
      obtain ⟨g1, g2⟩ := hg (sk B n p + 1) (by omega)
      rw [c1, obs]
      dsimp only
      by_cases d : (it (sk B n p + 1)).1 = true
      · obtain ⟨c5, c6, c7⟩ := c3 d
        obtain ⟨g3, g4⟩ := g2 d
        have hps := sk_rg (B := B) ho.2.1
        have hw3 := ho.2.2.1
        obtain ⟨σ3, d1, d2, d3, d4, d5⟩ := p_write (Z := Z) (v := e) c5 (by omega)
        rw [if_pos d, d, b01t, if_neg n10, d1, obs, ek]
        have hk1 : kpW σ σ2 (w0 + acc.length) := fun j hj => by rw [c6 j hj, b3]
        have ha2 : cdA σ3 w0 (acc ++ ((it (sk B n p + 1)).2.2 ++ [e])) := by
          refine cdA_app (cdA_kp (cdA_kp ha hk1) (fun j hj => d4 j (by omega))) (cdA_app (cdA_kp c7 d4) ?_)
          intro i hi
          have : i = 0 := by simp at hi; omega
          subst this
          exact d5
        obtain ⟨σ4, e1, e2, e3, e4⟩ := ih (it (sk B n p + 1)).2.1 N σ3 w0 (acc ++ ((it (sk B n p + 1)).2.2 ++ [e])) (by omega) (by omega) (by
          rw [show w0 + (acc ++ ((it (sk B n p + 1)).2.2 ++ [e])).length = w0 + acc.length + (it (sk B n p + 1)).2.2.length + 1 by simp only [List.length_append, List.length_cons, List.length_nil]; omega]
          exact d3) ha2
        refine ⟨σ4, e1, fr_tr (fr_tr (fr_tr b2 c2) d2) e2, fun z => ?_, e4⟩
        obtain ⟨f1, f2, f3⟩ := e3 z
        exact ⟨f1, fun j hj => by rw [f2 j hj, d4 j (by omega), c6 j (by omega), b3], f3⟩
      · have d2 : (it (sk B n p + 1)).1 = false := by cases h : (it (sk B n p + 1)).1 with
          | false => rfl
          | true => exact absurd h d
        rw [if_neg d, d2, b01f, if_pos rfl]
        exact ⟨σ2, rfl, fr_tr b2 c2, (fun z => by cases z), fun _ => c4 d2⟩
    · rw [if_neg q] at ht
      obtain ⟨σ1, b1, b2, b3, b4⟩ := ht
      have hq : ¬ isC c (pk B n (sk B n p)) = true := by unfold isC; intro z; exact q (eq_of_beq z)
      rw [if_neg hq, b1, obs]
      dsimp only
      rw [if_pos rfl]
      exact ⟨σ1, rfl, b2, fun _ => ⟨b4, fun j _ => by rw [b3], fun i hi => by rw [b3]; exact ha i hi⟩, fun z => by cases z⟩
theorem p_chn {F n c : Nat} {e : Int} {Z : hZ} {B : Nat → Nat} {it : Nat → PR} {u : hSt → Option (Int32 × hSt)} (hF : 300 ≤ F) (hc : 1 ≤ c ∧ c ≤ 255) (hg : PG n it) (hu : ∀ σ p w, okH B n σ p w → resH B n σ w (it p) (u σ)) (σ : hSt) (p w : Nat) (ho : okH B n σ p w) :
    resH B n σ w (chn B n (isC c) (fun _ => e) it p) ((u σ).bind fun q1 => (if q1.1 = (0 : Int32) then some ((0 : Int32), q1.2) else chH F Z (i32 (c : Int)) (i32 e) u F q1.2 (200 : Int32))) := by
  obtain ⟨σ1, b1, b2, b3, b4⟩ := hu σ p w ho
  unfold chn
  rw [b1, obs]
  dsimp only
  by_cases d : (it p).1 = true
  · obtain ⟨c1, c2, c3⟩ := b3 d
    rw [if_pos d, d, b01t, if_neg n10]
    obtain ⟨σ2, d1, d2, d3, d4⟩ := p_chH (Z := Z) (e := e) hF hc hg hu 200 (it p).2.1 F σ1 w (it p).2.2 (Nat.le_refl _) (by omega) c1 c3
    refine ⟨σ2, d1, fr_tr b2 d2, fun z => ?_, d4⟩
    obtain ⟨f1, f2, f3⟩ := d3 z
    exact ⟨f1, fun j hj => by rw [f2 j hj, c2 j hj], f3⟩
  · have d2 : (it p).1 = false := by cases h : (it p).1 with
      | false => rfl
      | true => exact absurd h d
    rw [if_neg d, d2, b01f, if_pos rfl]
    exact ⟨σ1, rfl, b2, (fun z => by cases z), fun _ => b4 d2⟩
theorem ands_ch (F : Nat) (Z : hZ) (u : hSt → Int32 → Option (Int32 × hSt)) (y : Int32) : ∀ N σ z, f_X5_ands_L14 F Z u y N σ z = chH F Z (124 : Int32) (8 : Int32) (fun σ => u σ y) N σ z
  | 0, _, _ => rfl
  | N + 1, σ, z => by
    rw [f_X5_ands_L14, chH]
    simp only [ands_ch F Z u y N]
theorem units_ch (F : Nat) (Z : hZ) (u : hSt → Int32 → Option (Int32 × hSt)) (y : Int32) : ∀ N σ z, f_X5_units_L14 F Z u y N σ z = chH F Z (38 : Int32) (7 : Int32) (fun σ => u σ y) N σ z
  | 0, _, _ => rfl
  | N + 1, σ, z => by
    rw [f_X5_units_L14, chH]
    simp only [units_ch F Z u y N]
theorem b01_or (b : Bool) : b01 b = 0 ∨ b01 b = 1 := by cases b <;> simp [b01]
theorem p_ands {F n : Nat} {Z : hZ} {B : Nat → Nat} {d x : Nat} {D : Nat} (hF : 300 ≤ F) (hu : ∀ σ p w, okH B n σ p w → resH B n σ w (sayU B n d p) ((G_X5 F Z D).2.2.1 σ (i32 (x : Int)))) (σ : hSt) (p w : Nat) (ho : okH B n σ p w) : resH B n σ w (sayO B n d p) ((G_X5 F Z (D + 2)).1 σ (i32 (x : Int))) := by
  have h1 : ∀ σ p w, okH B n σ p w → resH B n σ w (sayN B n d p) ((G_X5 F Z (D + 1)).2.1 σ (i32 (x : Int))) := by
    intro σ p w ho
    have := p_chn (Z := Z) (c := 38) (e := 7) hF (by omega) (sayU_PG B n d) hu σ p w ho
    show resH B n σ w (sayN B n d p) (b_X5_units F Z (G_X5 F Z D).2.2.1 σ (i32 (x : Int)))
    unfold b_X5_units
    simp only [units_ch]
    exact this
  have := p_chn (Z := Z) (c := 124) (e := 8) hF (by omega) (sayN_PG B n d) h1 σ p w ho
  show resH B n σ w (sayO B n d p) (b_X5_ands F Z (G_X5 F Z (D + 1)).2.1 σ (i32 (x : Int)))
  unfold b_X5_ands
  simp only [ands_ch]
  exact this
theorem resH_pre {B : Nat → Nat} {n : Nat} {σ σ1 : hSt} {w : Nat} {r : PR} {x : Option (Int32 × hSt)} (hf : fr WT σ σ1) (h3 : σ1.1 3 = σ.1 3) (h : resH B n σ1 w r x) : resH B n σ w r x := by
  obtain ⟨σ', a1, a2, a3, a4⟩ := h
  refine ⟨σ', a1, fr_tr hf a2, fun z => ?_, a4⟩
  obtain ⟨b1, b2, b3⟩ := a3 z
  exact ⟨b1, fun j hj => by rw [b2 j hj, h3], b3⟩
/-- the last step of a unit: a name, or nothing that can stand here -/
theorem p_name {n p w : Nat} {Z : hZ} {B : Nat → Nat} {σ : hSt} (ho : okH B n σ p w) (hs : sk B n p = p) (hc : pk B n p ≠ 33 ∧ pk B n p ≠ 40) : resH B n σ w (if 97 ≤ pk B n p ∧ pk B n p ≤ 102 then (true, p + 1, [(pk B n p : Int) - 97]) else (false, p, [])) (if i32 (pk B n p : Int) < (97 : Int32) then (f_X8_fail Z σ).bind fun q10 => if q10.1 = 0 ∨ q10.1 = 1 then some (q10.1, q10.2) else none else (if i32 (pk B n p : Int) < (103 : Int32) then (f_X8_step Z σ).bind fun q13 => (f_X8_write Z q13.2 (i32 (pk B n p : Int) - (97 : Int32))).bind fun q14 => some ((1 : Int32), q14.2) else (f_X8_fail Z σ).bind fun q15 => if q15.1 = 0 ∨ q15.1 = 1 then some (q15.1, q15.2) else none)) := by
  have hr := pk_rg (q := p) ho
  obtain ⟨σ1, f1, f2, f3⟩ := p_fail (Z := Z) ho
  have hfail : resH B n σ w (false, p, []) ((f_X8_fail Z σ).bind fun q10 => if q10.1 = 0 ∨ q10.1 = 1 then some (q10.1, q10.2) else none) := by
    rw [f1, obs]
    exact ⟨σ1, rfl, f2, (fun z => by cases z), fun _ => f3⟩
  by_cases c : 97 ≤ pk B n p ∧ pk B n p ≤ 102
  · rw [if_pos c]
    have hlt := pkp_lt (show pk B n p ≠ 0 by omega)
    obtain ⟨σ2, g1, g2, g3, g4⟩ := p_step (Z := Z) ho hlt
    have hw := ho.2.2.1
    obtain ⟨σ3, k1, k2, k3, k4, k5⟩ := p_write (Z := Z) (v := (pk B n p : Int) - 97) g3 (by omega)
    simp (disch := omega) only [↓reduceIte, iT_lt, iF_lt, iT_le, iF_le, iT_eq, iF_eq, nT_lt, nF_lt, nT_le, nF_le, nT_eq, nF_eq, and_self, and_true, true_and, and_false, false_and, not_true_eq_false, not_false_eq_true, ne_eq, or_self, or_false, false_or, or_true, true_or, Option.bind_some, i32_lit, i64_lit, i32_add, i32_sub, i32_mul, i32_neg, i64_add, i64_sub, i64_neg, i32_lt, i32_le, i32_eq, i64_lt, i64_le, i64_eq, i32_cn, i32_cl, i32_l, i64_i, i32_nat, Int.toNat_natCast, sI_2, sJ_1, sJ_22, sR_1, sR_21, sI_t, sI_r, sI_j, sJ_t, sJ_r, sJ_j, sR_t, sR_r, sR_j, g1, k1]
    refine ⟨σ3, rfl, fr_tr g2 k2, fun _ => ⟨k3, fun j hj => by rw [k4 j hj, g4], fun i hi => ?_⟩, fun z => by cases z⟩
    have : i = 0 := by simp at hi; omega
    subst this
    exact k5
  · rw [if_neg c]
    by_cases c2 : pk B n p < 97
    · rw [if_pos (by rw [show (97 : Int32) = i32 97 from rfl, i32_lt (by omega)]; omega)]
      exact hfail
    · rw [if_neg (by rw [show (97 : Int32) = i32 97 from rfl, i32_lt (by omega)]; omega), if_neg (by rw [show (103 : Int32) = i32 103 from rfl, i32_lt (by omega)]; omega)]
      exact hfail
theorem p_unit {F n : Nat} {Z : hZ} {B : Nat → Nat} (hF : 300 ≤ F) : ∀ (d x D : Nat), x + d = 8 → 4 * d + 1 ≤ D → ∀ σ p w, okH B n σ p w → resH B n σ w (sayU B n d p) ((G_X5 F Z D).2.2.1 σ (i32 (x : Int))) := by
  intro d
  induction d with
  | zero =>
    intro x D hx hD σ p w ho
    obtain ⟨D, rfl⟩ : ∃ q, D = q + 1 := ⟨D - 1, by omega⟩
    obtain ⟨e1, h2⟩ := p_next (Z := Z) hF ho
    have hr := pk_rg (q := sk B n p) ho
    have f0 : fr WT σ (sI σ 1 3 (i32 (sk B n p : Int))) := fr_sI σ _ (by decide)
    have h3 : (sI σ 1 3 (i32 (sk B n p : Int))).1 3 = σ.1 3 := sI_r _ _ (by omega)
    show resH B n σ w _ (b_X5_unit F Z (G_X5 F Z D).2.2.2 σ (i32 (x : Int)))
    unfold b_X5_unit
    rw [e1, obs]
    dsimp only
    refine resH_pre f0 h3 ?_
    obtain rfl : x = 8 := by omega
    obtain ⟨σ1, g1, g2, g3⟩ := p_fail (Z := Z) h2
    have hfail : resH B n (sI σ 1 3 (i32 (sk B n p : Int))) w (false, sk B n p, []) ((f_X8_fail Z (sI σ 1 3 (i32 (sk B n p : Int)))).bind fun q10 => if q10.1 = 0 ∨ q10.1 = 1 then some (q10.1, q10.2) else none) := by
      rw [g1, obs]
      exact ⟨σ1, rfl, g2, (fun z => by cases z), fun _ => g3⟩
    by_cases c1 : pk B n (sk B n p) = 33
    · rw [sayU, if_neg (by omega), if_pos (by rw [c1]; rfl), if_pos (by decide)]
      exact hfail
    · by_cases c2 : pk B n (sk B n p) = 40
      · rw [sayU, if_neg (by omega), if_neg (by rw [c2]; decide), if_pos (by rw [c2]; rfl), if_pos (by decide)]
        exact hfail
      · rw [if_neg (by rw [show (33 : Int32) = i32 33 from rfl, i32_eq (by omega)]; omega), if_neg (by rw [show (40 : Int32) = i32 40 from rfl, i32_eq (by omega)]; omega)]
        have := p_name (Z := Z) h2 (sk_sk B n p) ⟨c1, c2⟩
        exact this
  | succ d ih =>
    intro x D hx hD σ p w ho
    obtain ⟨D, rfl⟩ : ∃ q, D = q + 4 := ⟨D - 4, by omega⟩
    obtain ⟨e1, h2⟩ := p_next (Z := Z) hF ho
    have hr := pk_rg (q := sk B n p) ho
    have f0 : fr WT σ (sI σ 1 3 (i32 (sk B n p : Int))) := fr_sI σ _ (by decide)
    have h3 : (sI σ 1 3 (i32 (sk B n p : Int))).1 3 = σ.1 3 := sI_r _ _ (by omega)
    show resH B n σ w _ (b_X5_unit F Z (G_X5 F Z (D + 3)).2.2.2 σ (i32 (x : Int)))
    unfold b_X5_unit
    rw [e1, obs]
    dsimp only
    refine resH_pre f0 h3 ?_
    rw [sayU_s]
    have ex : i32 (x : Int) + (1 : Int32) = i32 ((x + 1 : Nat) : Int) := by rw [i32_lit, i32_add]; rfl
    have hx8 : ¬ (8 : Int32) ≤ i32 (x : Int) := by rw [show (8 : Int32) = i32 8 from rfl, i32_le (by omega)]; omega
    have hU := ih (x + 1) (D + 2) (by omega) (by omega)
    have hO := p_ands (x := x + 1) (D := D) hF (ih (x + 1) D (by omega) (by omega))
    have wrap : ∀ (r : PR) (σ : hSt) (y : Option (Int32 × hSt)), resH B n σ w r y → resH B n σ w r (y.bind fun q6 => if q6.1 = 0 ∨ q6.1 = 1 then some (q6.1, q6.2) else none) := by
      intro r σ y h
      obtain ⟨σ', a1, a2⟩ := h
      rw [a1, obs]
      dsimp only
      rw [if_pos (b01_or _)]
      exact ⟨σ', rfl, a2⟩
    by_cases c1 : pk B n (sk B n p) = 33
    · have hlt := pkp_lt (show pk B n (sk B n p) ≠ 0 by omega)
      rw [if_pos c1, if_pos (show i32 (pk B n (sk B n p) : Int) = 33 by rw [c1]; rfl), if_neg hx8, ex]
      refine wrap _ _ _ ?_
      show resH B n _ w _ (b_X5_inner F Z (G_X5 F Z (D + 2)).1 (G_X5 F Z (D + 2)).2.2.1 _ (i32 (pk B n (sk B n p) : Int)) (i32 ((x + 1 : Nat) : Int)))
      unfold b_X5_inner
      obtain ⟨σ1, s1, s2, s3, s4⟩ := p_step (Z := Z) h2 hlt
      rw [s1, obs]
      dsimp only
      rw [if_neg (show ¬ i32 (pk B n (sk B n p) : Int) = 40 by rw [c1]; decide)]
      refine resH_pre s2 s4 ?_
      obtain ⟨σ2, u1, u2, u3, u4⟩ := hU σ1 _ _ s3
      rw [u1, obs]
      dsimp only
      by_cases e : (sayU B n d (sk B n p + 1)).1 = true
      · obtain ⟨u5, u6, u7⟩ := u3 e
        obtain ⟨g1, g2⟩ := sayU_PG B n d (sk B n p + 1) hlt
        obtain ⟨g3, g4⟩ := g2 e
        have hw := ho.2.2.1
        have hs := sk_rg (B := B) ho.2.1
        obtain ⟨σ3, k1, k2, k3, k4, k5⟩ := p_write (Z := Z) (v := 6) u5 (by omega)
        rw [show (6 : Int32) = i32 6 from rfl, if_pos e, e, b01t, if_neg n10, k1, obs]
        refine ⟨σ3, rfl, fr_tr u2 k2, fun _ => ⟨?_, fun j hj => by rw [k4 j (by omega), u6 j hj], cdA_app (cdA_kp u7 k4) (fun i hi => ?_)⟩, fun z => by cases z⟩
        · rw [List.length_append]; exact k3
        · have : i = 0 := by simp at hi; omega
          subst this
          exact k5
      · have e2 : (sayU B n d (sk B n p + 1)).1 = false := by cases h : (sayU B n d (sk B n p + 1)).1 with
          | false => rfl
          | true => exact absurd h e
        rw [if_neg e, e2, b01f, if_pos rfl]
        exact ⟨σ2, rfl, u2, (fun z => by cases z), fun _ => u4 e2⟩
    · rw [if_neg c1]
      by_cases c2 : pk B n (sk B n p) = 40
      · have hlt := pkp_lt (show pk B n (sk B n p) ≠ 0 by omega)
        rw [if_pos c2, if_neg (show ¬ i32 (pk B n (sk B n p) : Int) = 33 by rw [c2]; decide), if_pos (show i32 (pk B n (sk B n p) : Int) = 40 by rw [c2]; rfl), if_neg hx8, ex]
        refine wrap _ _ _ ?_
        show resH B n _ w _ (b_X5_inner F Z (G_X5 F Z (D + 2)).1 (G_X5 F Z (D + 2)).2.2.1 _ (i32 (pk B n (sk B n p) : Int)) (i32 ((x + 1 : Nat) : Int)))
        unfold b_X5_inner
        obtain ⟨σ1, s1, s2, s3, s4⟩ := p_step (Z := Z) h2 hlt
        rw [s1, obs]
        dsimp only
        rw [if_pos (show i32 (pk B n (sk B n p) : Int) = 40 by rw [c2]; rfl)]
        refine resH_pre s2 s4 ?_
        obtain ⟨σ2, u1, u2, u3, u4⟩ := hO σ1 _ _ s3
        rw [u1, obs]
        dsimp only
        by_cases e : (sayO B n d (sk B n p + 1)).1 = true
        · obtain ⟨u5, u6, u7⟩ := u3 e
          rw [if_pos e, e, b01t, if_neg n10]
          obtain ⟨k1, k2⟩ := p_next (Z := Z) hF u5
          unfold f_X8_expect
          rw [k1, obs]
          dsimp only
          have hr2 := pk_rg (q := sk B n (sayO B n d (sk B n p + 1)).2.1) u5
          by_cases e3 : pk B n (sk B n (sayO B n d (sk B n p + 1)).2.1) = 41
          · have hlt2 := pkp_lt (show pk B n (sk B n (sayO B n d (sk B n p + 1)).2.1) ≠ 0 by omega)
            obtain ⟨σ4, t1, t2, t3, t4⟩ := p_step (Z := Z) k2 hlt2
            unfold f_X8_step at t1
            have t1 := congrArg (fun o => o.map Prod.snd) t1
            simp only [Option.map_some, Option.some.injEq] at t1
            rw [if_pos e3, if_pos (show i32 (pk B n (sk B n (sayO B n d (sk B n p + 1)).2.1) : Int) = 41 by rw [e3]; rfl), t1, obs]
            dsimp only
            rw [if_neg n10]
            have t5 : σ4.1 3 = σ2.1 3 := t4.trans (sI_r _ _ (by omega))
            refine ⟨σ4, rfl, fr_tr u2 (fr_tr (fr_sI _ _ (by decide)) t2), fun _ => ⟨t3, fun j hj => by rw [t5, u6 j hj], fun i hi => by rw [t5]; exact u7 i hi⟩, fun z => by cases z⟩
          · rw [if_neg e3, if_neg (show ¬ i32 (pk B n (sk B n (sayO B n d (sk B n p + 1)).2.1) : Int) = 41 by rw [show (41 : Int32) = i32 41 from rfl, i32_eq (by omega)]; omega), obs]
            dsimp only
            rw [if_pos rfl]
            refine ⟨_, rfl, fr_tr u2 (fr_tr (fr_sI _ _ (by decide)) (fr_sI _ _ (by decide))), (fun z => by cases z), fun _ => ?_⟩
            rw [k2.2.2.2.2.2.1]
            simp (disch := omega) only [↓reduceIte, iT_lt, iF_lt, iT_le, iF_le, iT_eq, iF_eq, nT_lt, nF_lt, nT_le, nF_le, nT_eq, nF_eq, and_self, and_true, true_and, and_false, false_and, not_true_eq_false, not_false_eq_true, ne_eq, or_self, or_false, false_or, or_true, true_or, Option.bind_some, i32_lit, i64_lit, i32_add, i32_sub, i32_mul, i32_neg, i64_add, i64_sub, i64_neg, i32_lt, i32_le, i32_eq, i64_lt, i64_le, i64_eq, i32_cn, i32_cl, i32_l, i64_i, i32_nat, Int.toNat_natCast, sI_2, sJ_1, sJ_22, sR_1, sR_21, sI_t, sI_r, sI_j, sJ_t, sJ_r, sJ_j, sR_t, sR_r, sR_j]
        · have e2 : (sayO B n d (sk B n p + 1)).1 = false := by cases h : (sayO B n d (sk B n p + 1)).1 with
            | false => rfl
            | true => exact absurd h e
          rw [if_neg e, e2, b01f, if_pos rfl]
          exact ⟨σ2, rfl, u2, (fun z => by cases z), fun _ => u4 e2⟩
      · rw [if_neg c2, if_neg (show ¬ i32 (pk B n (sk B n p) : Int) = 33 by rw [show (33 : Int32) = i32 33 from rfl, i32_eq (by omega)]; omega), if_neg (show ¬ i32 (pk B n (sk B n p) : Int) = 40 by rw [show (40 : Int32) = i32 40 from rfl, i32_eq (by omega)]; omega)]
        exact p_name (Z := Z) h2 (sk_sk B n p) ⟨c1, c2⟩
