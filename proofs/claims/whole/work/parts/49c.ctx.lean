/-! LAWS and GIANTS: the class's reader -/
/-- a fifth digit stands here: nothing can go on -/
def okP (B : Nat → Nat) (n : Nat) (σ : hSt) (f : Nat) : Prop := n ≤ 200 ∧ f < n ∧ dg B n f = true ∧ σ.1 1 2 = i32 (n : Int) ∧ (∀ j, j < n → σ.1 2 j = i32 (B j : Int) ∧ 1 ≤ B j ∧ B j ≤ 255) ∧ σ.1 1 3 = i32 (f : Int) ∧ ∃ w : Nat, w ≤ 400 ∧ σ.1 1 5 = i32 (w : Int)
def resT (B : Nat → Nat) (n : Nat) (σ : hSt) (w : Nat) (r : PR) (x : Option (Int32 × hSt)) : Prop := ∃ σ', fr WT σ σ' ∧ ((r.1 = true ∧ x = some (1, σ') ∧ okH B n σ' r.2.1 (w + r.2.2.length) ∧ kpW σ σ' w ∧ cdA σ' w r.2.2) ∨ (r.1 = false ∧ x = some (0, σ') ∧ σ'.1 1 4 = i32 (r.2.1 : Int)) ∨ (r.1 = false ∧ x = some (1, σ') ∧ okP B n σ' r.2.1))
theorem okP_of {B : Nat → Nat} {n p w : Nat} {σ : hSt} (h : okH B n σ p w) (hd : dg B n p = true) : okP B n σ p := by
  obtain ⟨a1, a2, a3, a4, a5, a6, a7⟩ := h
  have hd2 := hd
  unfold dg at hd2
  simp only [Bool.and_eq_true, decide_eq_true_eq] at hd2
  exact ⟨a1, hd2.1, hd, a4, a5, a6, w, by omega, a7⟩
theorem dg_b {B : Nat → Nat} {n f : Nat} (h : dg B n f = true) : f < n ∧ 48 ≤ B f ∧ B f ≤ 57 := by
  unfold dg at h
  simpa only [Bool.and_eq_true, decide_eq_true_eq] using h
theorem sk_dg {B : Nat → Nat} {n f : Nat} (h : dg B n f = true) : sk B n f = f := sk_stop (by have := dg_b h; omega)
theorem pk_dg {B : Nat → Nat} {n f : Nat} (h : dg B n f = true) : 48 ≤ pk B n f ∧ pk B n f ≤ 57 := by
  have := dg_b h
  unfold pk; rw [if_pos this.1]; omega
theorem p_nextP {F n f : Nat} {Z : hZ} {B : Nat → Nat} {σ : hSt} (hF : 300 ≤ F) (h : okP B n σ f) : f_X8_next F Z σ = some (i32 (pk B n f : Int), σ) := by
  obtain ⟨a1, a2, a3, a4, a5, a6, w, a7, a8⟩ := h
  have i := p_next_L (σ := σ) a1 a4 a5 (n - f) f F (by omega) (by omega)
  unfold f_X8_next
  rw [sk_dg a3] at i
  rw [sI_id a6] at i
  rw [← i, a6]
  by_cases c : f = 0
  · subst c
    simp (disch := omega) only [↓reduceIte, iT_lt, iF_lt, iT_le, iF_le, iT_eq, iF_eq, nT_lt, nF_lt, nT_le, nF_le, nT_eq, nF_eq, and_self, and_true, true_and, and_false, false_and, not_true_eq_false, not_false_eq_true, ne_eq, or_self, or_false, false_or, or_true, true_or, Option.bind_some, i32_lit, i64_lit, i32_add, i32_sub, i32_mul, i32_neg, i64_add, i64_sub, i64_neg, i32_lt, i32_le, i32_eq, i64_lt, i64_le, i64_eq, i32_cn, i32_cl, i32_l, i64_i, i32_nat, Int.toNat_natCast, sI_2, sJ_1, sJ_22, sR_1, sR_21, sI_t, sI_r, sI_j, sJ_t, sJ_r, sJ_j, sR_t, sR_r, sR_j]
    rfl
  · simp (disch := omega) only [↓reduceIte, iT_lt, iF_lt, iT_le, iF_le, iT_eq, iF_eq, nT_lt, nF_lt, nT_le, nF_le, nT_eq, nF_eq, and_self, and_true, true_and, and_false, false_and, not_true_eq_false, not_false_eq_true, ne_eq, or_self, or_false, false_or, or_true, true_or, Option.bind_some, i32_lit, i64_lit, i32_add, i32_sub, i32_mul, i32_neg, i64_add, i64_sub, i64_neg, i32_lt, i32_le, i32_eq, i64_lt, i64_le, i64_eq, i32_cn, i32_cl, i32_l, i64_i, i32_nat, Int.toNat_natCast, sI_2, sJ_1, sJ_22, sR_1, sR_21, sI_t, sI_r, sI_j, sJ_t, sJ_r, sJ_j, sR_t, sR_r, sR_j]
theorem p_writeP {n f : Nat} {Z : hZ} {B : Nat → Nat} {σ : hSt} (v : Int32) (h : okP B n σ f) : ∃ σ', f_X8_write Z σ v = some ((), σ') ∧ fr WT σ σ' ∧ okP B n σ' f := by
  obtain ⟨a1, a2, a3, a4, a5, a6, w, a7, a8⟩ := h
  by_cases c : w < 400
  · refine ⟨sI (sI σ 3 w v) 1 5 (i32 ((w + 1 : Nat) : Int)), ?_, fr_tr (fr_sI σ _ (by rw [cd_a rfl]; decide)) (fr_sI _ _ (by decide)), a1, a2, a3, ?_, fun j hj => ?_, ?_, w + 1, by omega, ?_⟩
    · unfold f_X8_write
      simp (disch := omega) only [↓reduceIte, iT_lt, iF_lt, iT_le, iF_le, iT_eq, iF_eq, nT_lt, nF_lt, nT_le, nF_le, nT_eq, nF_eq, and_self, and_true, true_and, and_false, false_and, not_true_eq_false, not_false_eq_true, ne_eq, or_self, or_false, false_or, or_true, true_or, Option.bind_some, i32_lit, i64_lit, i32_add, i32_sub, i32_mul, i32_neg, i64_add, i64_sub, i64_neg, i32_lt, i32_le, i32_eq, i64_lt, i64_le, i64_eq, i32_cn, i32_cl, i32_l, i64_i, i32_nat, Int.toNat_natCast, sI_2, sJ_1, sJ_22, sR_1, sR_21, sI_t, sI_r, sI_j, sJ_t, sJ_r, sJ_j, sR_t, sR_r, sR_j, a8]
      rfl
    · simp (disch := omega) only [↓reduceIte, iT_lt, iF_lt, iT_le, iF_le, iT_eq, iF_eq, nT_lt, nF_lt, nT_le, nF_le, nT_eq, nF_eq, and_self, and_true, true_and, and_false, false_and, not_true_eq_false, not_false_eq_true, ne_eq, or_self, or_false, false_or, or_true, true_or, Option.bind_some, i32_lit, i64_lit, i32_add, i32_sub, i32_mul, i32_neg, i64_add, i64_sub, i64_neg, i32_lt, i32_le, i32_eq, i64_lt, i64_le, i64_eq, i32_cn, i32_cl, i32_l, i64_i, i32_nat, Int.toNat_natCast, sI_2, sJ_1, sJ_22, sR_1, sR_21, sI_t, sI_r, sI_j, sJ_t, sJ_r, sJ_j, sR_t, sR_r, sR_j]; exact a4
    · simp (disch := omega) only [↓reduceIte, iT_lt, iF_lt, iT_le, iF_le, iT_eq, iF_eq, nT_lt, nF_lt, nT_le, nF_le, nT_eq, nF_eq, and_self, and_true, true_and, and_false, false_and, not_true_eq_false, not_false_eq_true, ne_eq, or_self, or_false, false_or, or_true, true_or, Option.bind_some, i32_lit, i64_lit, i32_add, i32_sub, i32_mul, i32_neg, i64_add, i64_sub, i64_neg, i32_lt, i32_le, i32_eq, i64_lt, i64_le, i64_eq, i32_cn, i32_cl, i32_l, i64_i, i32_nat, Int.toNat_natCast, sI_2, sJ_1, sJ_22, sR_1, sR_21, sI_t, sI_r, sI_j, sJ_t, sJ_r, sJ_j, sR_t, sR_r, sR_j]; exact a5 j hj
    · simp (disch := omega) only [↓reduceIte, iT_lt, iF_lt, iT_le, iF_le, iT_eq, iF_eq, nT_lt, nF_lt, nT_le, nF_le, nT_eq, nF_eq, and_self, and_true, true_and, and_false, false_and, not_true_eq_false, not_false_eq_true, ne_eq, or_self, or_false, false_or, or_true, true_or, Option.bind_some, i32_lit, i64_lit, i32_add, i32_sub, i32_mul, i32_neg, i64_add, i64_sub, i64_neg, i32_lt, i32_le, i32_eq, i64_lt, i64_le, i64_eq, i32_cn, i32_cl, i32_l, i64_i, i32_nat, Int.toNat_natCast, sI_2, sJ_1, sJ_22, sR_1, sR_21, sI_t, sI_r, sI_j, sJ_t, sJ_r, sJ_j, sR_t, sR_r, sR_j]; exact a6
    · simp (disch := omega) only [↓reduceIte, iT_lt, iF_lt, iT_le, iF_le, iT_eq, iF_eq, nT_lt, nF_lt, nT_le, nF_le, nT_eq, nF_eq, and_self, and_true, true_and, and_false, false_and, not_true_eq_false, not_false_eq_true, ne_eq, or_self, or_false, false_or, or_true, true_or, Option.bind_some, i32_lit, i64_lit, i32_add, i32_sub, i32_mul, i32_neg, i64_add, i64_sub, i64_neg, i32_lt, i32_le, i32_eq, i64_lt, i64_le, i64_eq, i32_cn, i32_cl, i32_l, i64_i, i32_nat, Int.toNat_natCast, sI_2, sJ_1, sJ_22, sR_1, sR_21, sI_t, sI_r, sI_j, sJ_t, sJ_r, sJ_j, sR_t, sR_r, sR_j]
  · refine ⟨σ, ?_, fr_rf _ _, a1, a2, a3, a4, a5, a6, w, a7, a8⟩
    unfold f_X8_write
    simp (disch := omega) only [↓reduceIte, iT_lt, iF_lt, iT_le, iF_le, iT_eq, iF_eq, nT_lt, nF_lt, nT_le, nF_le, nT_eq, nF_eq, and_self, and_true, true_and, and_false, false_and, not_true_eq_false, not_false_eq_true, ne_eq, or_self, or_false, false_or, or_true, true_or, Option.bind_some, i32_lit, i64_lit, i32_add, i32_sub, i32_mul, i32_neg, i64_add, i64_sub, i64_neg, i32_lt, i32_le, i32_eq, i64_lt, i64_le, i64_eq, i32_cn, i32_cl, i32_l, i64_i, i32_nat, Int.toNat_natCast, sI_2, sJ_1, sJ_22, sR_1, sR_21, sI_t, sI_r, sI_j, sJ_t, sJ_r, sJ_j, sR_t, sR_r, sR_j, a8]
theorem resT_pre {B : Nat → Nat} {n : Nat} {σ σ1 : hSt} {w : Nat} {r : PR} {x : Option (Int32 × hSt)} (hf : fr WT σ σ1) (h3 : σ1.1 3 = σ.1 3) (h : resT B n σ1 w r x) : resT B n σ w r x := by
  obtain ⟨σ', a1, a2⟩ := h
  refine ⟨σ', fr_tr hf a1, ?_⟩
  rcases a2 with ⟨b1, b2, b3, b4, b5⟩ | q
  · exact Or.inl ⟨b1, b2, b3, fun j hj => by rw [b4 j hj, h3], b5⟩
  · exact Or.inr q
theorem resT_0 {B : Nat → Nat} {n : Nat} {σ σ' : hSt} {w f : Nat} {x : Option (Int32 × hSt)} (hf : fr WT σ σ') (hx : x = some (0, σ')) (h : σ'.1 1 4 = i32 (f : Int)) : resT B n σ w (false, f, []) x := ⟨σ', hf, Or.inr (Or.inl ⟨rfl, hx, h⟩)⟩
theorem resT_P {B : Nat → Nat} {n : Nat} {σ σ' : hSt} {w f : Nat} {x : Option (Int32 × hSt)} (hf : fr WT σ σ') (hx : x = some (1, σ')) (h : okP B n σ' f) : resT B n σ w (false, f, []) x := ⟨σ', hf, Or.inr (Or.inr ⟨rfl, hx, h⟩)⟩
/-! rows with one sign between -/
theorem p_chHP {F n c f : Nat} {e : Int32} {Z : hZ} {B : Nat → Nat} {u : hSt → Option (Int32 × hSt)} (hF : 300 ≤ F) (hc : c < 48 ∨ 57 < c) (hc2 : c ≤ 255) {k N : Nat} (hk : k ≤ 200) (hN : 0 < N) {σ : hSt} (h : okP B n σ f) : chH F Z (i32 (c : Int)) e u N σ (i32 (k : Int)) = some (1, σ) := by
  obtain ⟨N, rfl⟩ : ∃ q, N = q + 1 := ⟨N - 1, by omega⟩
  have hd := pk_dg h.2.2.1
  rw [chH]
  by_cases q : k = 0
  · subst q
    rw [if_pos (by decide)]
  · rw [if_neg (by rw [show (0 : Int32) = i32 0 from rfl, i32_le (by omega)]; omega)]
    unfold f_X8_take
    rw [p_nextP hF h, obs]
    dsimp only
    rw [if_neg (by rw [i32_eq (by omega)]; omega), obs]
    rfl
theorem p_chHT {F n c : Nat} {e : Int} {Z : hZ} {B : Nat → Nat} {it : Nat → PR} {u : hSt → Option (Int32 × hSt)} (hF : 300 ≤ F) (hc : 1 ≤ c ∧ c ≤ 255 ∧ (c < 48 ∨ 57 < c)) (hg : PG n it) (hu : ∀ σ p w, okH B n σ p w → resT B n σ w (it p) (u σ)) :
    ∀ k p N (σ : hSt) w0 acc, k ≤ 200 → k < N → okH B n σ p (w0 + acc.length) → cdA σ w0 acc → ∃ σ', fr WT σ σ' ∧ (((chL B n (isC c) (fun _ => e) it k p acc).1 = true ∧ chH F Z (i32 (c : Int)) (i32 e) u N σ (i32 (k : Int)) = some (1, σ') ∧ okH B n σ' (chL B n (isC c) (fun _ => e) it k p acc).2.1 (w0 + (chL B n (isC c) (fun _ => e) it k p acc).2.2.length) ∧ kpW σ σ' w0 ∧ cdA σ' w0 (chL B n (isC c) (fun _ => e) it k p acc).2.2) ∨ ((chL B n (isC c) (fun _ => e) it k p acc).1 = false ∧ chH F Z (i32 (c : Int)) (i32 e) u N σ (i32 (k : Int)) = some (0, σ') ∧ σ'.1 1 4 = i32 ((chL B n (isC c) (fun _ => e) it k p acc).2.1 : Int)) ∨ ((chL B n (isC c) (fun _ => e) it k p acc).1 = false ∧ chH F Z (i32 (c : Int)) (i32 e) u N σ (i32 (k : Int)) = some (1, σ') ∧ okP B n σ' (chL B n (isC c) (fun _ => e) it k p acc).2.1)) := by
  intro k
  induction k with
  | zero =>
    intro p N σ w0 acc hk hN ho ha
    obtain ⟨N, rfl⟩ : ∃ q, N = q + 1 := ⟨N - 1, by omega⟩
    refine ⟨σ, fr_rf _ _, Or.inl ⟨rfl, ?_, ho, fun _ _ => rfl, ha⟩⟩
    rw [chH]
    rfl
  | succ k ih =>
    intro p N σ w0 acc hk hN ho ha
    obtain ⟨N, rfl⟩ : ∃ q, N = q + 1 := ⟨N - 1, by omega⟩
    have ht := p_take (Z := Z) (c := c) hF ho (by omega)
    rw [chH, chL, if_neg (show ¬ i32 ((k + 1 : Nat) : Int) ≤ (0 : Int32) by rw [show (0:Int32) = i32 0 from rfl, i32_le (by omega)]; omega)]
    have ek : i32 ((k + 1 : Nat) : Int) + (-1 : Int32) = i32 (k : Int) := by
      rw [show (-1 : Int32) = i32 (-1) from rfl, i32_add]; congr 1; omega
    by_cases q : pk B n (sk B n p) = c
    · rw [if_pos q] at ht
      obtain ⟨σ1, b1, b2, b3, b4, b5⟩ := ht
      have hq : isC c (pk B n (sk B n p)) = true := by unfold isC; rw [q]; exact beq_self_eq_true c
      rw [if_pos hq, b1, obs]
      dsimp only
      rw [if_neg n10]
      obtain ⟨σ2, c2, c3⟩ := hu σ1 _ _ b4
      obtain ⟨g1, g2⟩ := hg (sk B n p + 1) (by omega)
      rcases c3 with ⟨d, c1, c5, c6, c7⟩ | ⟨d, c1, c4⟩ | ⟨d, c1, c4⟩
      · obtain ⟨g3, g4⟩ := g2 d
        have hps := sk_rg (B := B) ho.2.1
        have hw3 := ho.2.2.1
        obtain ⟨σ3, d1, d2, d3, d4, d5⟩ := p_write (Z := Z) (v := e) c5 (by omega)
        rw [c1, obs]
        dsimp only
        rw [if_pos d, if_neg n10, d1, obs, ek]
        have hk1 : kpW σ σ2 (w0 + acc.length) := fun j hj => by rw [c6 j hj, b3]
        have ha2 : cdA σ3 w0 (acc ++ ((it (sk B n p + 1)).2.2 ++ [e])) := by
          refine cdA_app (cdA_kp (cdA_kp ha hk1) (fun j hj => d4 j (by omega))) (cdA_app (cdA_kp c7 d4) ?_)
          intro i hi
          have : i = 0 := by simp at hi; omega
          subst this
          exact d5
        obtain ⟨σ4, e2, e3⟩ := ih (it (sk B n p + 1)).2.1 N σ3 w0 (acc ++ ((it (sk B n p + 1)).2.2 ++ [e])) (by omega) (by omega) (by
          rw [show w0 + (acc ++ ((it (sk B n p + 1)).2.2 ++ [e])).length = w0 + acc.length + (it (sk B n p + 1)).2.2.length + 1 by simp only [List.length_append, List.length_cons, List.length_nil]; omega]
          exact d3) ha2
        refine ⟨σ4, fr_tr (fr_tr (fr_tr b2 c2) d2) e2, ?_⟩
        rcases e3 with ⟨z, f0, f1, f2, f3⟩ | z
        · exact Or.inl ⟨z, f0, f1, fun j hj => by rw [f2 j hj, d4 j (by omega), c6 j (by omega), b3], f3⟩
        · exact Or.inr z
      · rw [c1, obs]
        dsimp only
        rw [if_neg (by rw [d]; decide), if_pos rfl]
        exact ⟨σ2, fr_tr b2 c2, Or.inr (Or.inl ⟨rfl, rfl, c4⟩)⟩
      · obtain ⟨σ3, d1, d2, d3⟩ := p_writeP (Z := Z) (i32 e) c4
        rw [c1, obs]
        dsimp only
        rw [if_neg (by rw [d]; decide), if_neg n10, d1, obs, ek]
        exact ⟨σ3, fr_tr (fr_tr b2 c2) d2, Or.inr (Or.inr ⟨rfl, p_chHP hF (by omega) (by omega) (by omega) (by omega) d3, d3⟩)⟩
    · rw [if_neg q] at ht
      obtain ⟨σ1, b1, b2, b3, b4⟩ := ht
      have hq : ¬ isC c (pk B n (sk B n p)) = true := by unfold isC; intro z; exact q (eq_of_beq z)
      rw [if_neg hq, b1, obs]
      dsimp only
      rw [if_pos rfl]
      exact ⟨σ1, b2, Or.inl ⟨rfl, rfl, b4, fun j _ => by rw [b3], fun i hi => by rw [b3]; exact ha i hi⟩⟩
/-! rows with two signs between -/
def chT (F : Nat) (Z : hZ) (a b : Int32) (u : hSt → Option (Int32 × hSt)) : Nat → hSt → Int32 → Option (Int32 × hSt)
  | 0, _, _ => none
  | N + 1, σ1, z2 => (if z2 ≤ (0 : Int32) then some ((1 : Int32), σ1) else (f_X8_next F Z σ1).bind fun q4 => (if q4.1 = a then (f_X8_next F Z q4.2).bind fun q6 => (f_X8_step Z q6.2).bind fun q7 => (u q7.2).bind fun q8 => (if q8.1 = (0 : Int32) then some ((0 : Int32), q8.2) else (f_X8_write Z q8.2 ((20000 : Int32) + q6.1)).bind fun q10 => chT F Z a b u N q10.2 (z2 + (-1 : Int32))) else (f_X8_next F Z q4.2).bind fun q11 => (if q11.1 = b then (f_X8_next F Z q11.2).bind fun q13 => (f_X8_step Z q13.2).bind fun q14 => (u q14.2).bind fun q15 => (if q15.1 = (0 : Int32) then some ((0 : Int32), q15.2) else (f_X8_write Z q15.2 ((20000 : Int32) + q13.1)).bind fun q17 => chT F Z a b u N q17.2 (z2 + (-1 : Int32))) else some ((1 : Int32), q11.2))))
theorem total_ch (F : Nat) (Z : hZ) (u : hSt → Nat → Int32 → Option (Int32 × hSt)) (r : Nat) (y : Int32) : ∀ N σ z, f_X10_total_L14 F Z u r y N σ z = chT F Z (43 : Int32) (45 : Int32) (fun σ => u σ r y) N σ z
  | 0, _, _ => rfl
  | N + 1, σ, z => by
    rw [f_X10_total_L14, chT]
    simp only [total_ch F Z u r y N]
theorem term_ch (F : Nat) (Z : hZ) (u : hSt → Nat → Int32 → Option (Int32 × hSt)) (r : Nat) (y : Int32) : ∀ N σ z, f_X10_term_L14 F Z u r y N σ z = chT F Z (42 : Int32) (47 : Int32) (fun σ => u σ r y) N σ z
  | 0, _, _ => rfl
  | N + 1, σ, z => by
    rw [f_X10_term_L14, chT]
    simp only [term_ch F Z u r y N]
/-- one round of it where one of both signs stands -/
theorem chT_s {F n p w a b : Nat} {Z : hZ} {B : Nat → Nat} {u : hSt → Option (Int32 × hSt)} (hF : 300 ≤ F) (ha : 1 ≤ a ∧ a ≤ 255) (hb : 1 ≤ b ∧ b ≤ 255) {σ : hSt} (ho : okH B n σ p w) {N k : Nat} (hk : 1 ≤ k ∧ k ≤ 200) : ∃ σ1, fr WT σ σ1 ∧ σ1.1 3 = σ.1 3 ∧ (if isC2 a b (pk B n (sk B n p)) = true then okH B n σ1 (sk B n p + 1) w ∧ sk B n p < n ∧ chT F Z (i32 (a : Int)) (i32 (b : Int)) u (N + 1) σ (i32 (k : Int)) = (u σ1).bind fun q8 => (if q8.1 = (0 : Int32) then some ((0 : Int32), q8.2) else (f_X8_write Z q8.2 (i32 (emC (pk B n (sk B n p))))).bind fun q10 => chT F Z (i32 (a : Int)) (i32 (b : Int)) u N q10.2 (i32 ((k - 1 : Nat) : Int))) else okH B n σ1 (sk B n p) w ∧ chT F Z (i32 (a : Int)) (i32 (b : Int)) u (N + 1) σ (i32 (k : Int)) = some (1, σ1)) := by
  obtain ⟨e1, h2⟩ := p_next (Z := Z) hF ho
  have hr := pk_rg (q := sk B n p) ho
  obtain ⟨e3, h3⟩ := p_next (Z := Z) hF h2
  rw [sk_sk, sI_sI] at e3
  have f0 : fr WT σ (sI σ 1 3 (i32 (sk B n p : Int))) := fr_sI σ _ (by decide)
  have g0 : (sI σ 1 3 (i32 (sk B n p : Int))).1 3 = σ.1 3 := sI_r _ _ (by omega)
  have ek : i32 (k : Int) + (-1 : Int32) = i32 ((k - 1 : Nat) : Int) := by
    rw [show (-1 : Int32) = i32 (-1) from rfl, i32_add]; congr 1; omega
  have e2 : (20000 : Int32) + i32 (pk B n (sk B n p) : Int) = i32 (emC (pk B n (sk B n p))) := by
    rw [show (20000 : Int32) = i32 20000 from rfl, i32_add]; rfl
  by_cases c : isC2 a b (pk B n (sk B n p)) = true
  · have c' := c
    unfold isC2 at c'
    simp only [Bool.or_eq_true, beq_iff_eq] at c'
    have hlt := pkp_lt (show pk B n (sk B n p) ≠ 0 by omega)
    obtain ⟨σ1, s1, s2, s3, s4⟩ := p_step (Z := Z) h2 hlt
    refine ⟨σ1, fr_tr f0 s2, s4.trans g0, ?_⟩
    rw [if_pos c]
    refine ⟨s3, hlt, ?_⟩
    rw [chT, if_neg (by rw [show (0 : Int32) = i32 0 from rfl, i32_le (by omega)]; omega), e1, obs]
    dsimp only
    by_cases d : pk B n (sk B n p) = a
    · rw [if_pos (by rw [d]), e3, obs]
      dsimp only
      rw [s1, obs]
      dsimp only
      rw [e2, ek]
    · rw [if_neg (by rw [i32_eq (by omega)]; omega), e3, obs]
      dsimp only
      rw [if_pos (by rw [i32_eq (by omega)]; omega), e3, obs]
      dsimp only
      rw [s1, obs]
      dsimp only
      rw [e2, ek]
  · have c' := c
    unfold isC2 at c'
    simp only [Bool.or_eq_true, beq_iff_eq, not_or] at c'
    refine ⟨_, f0, g0, ?_⟩
    rw [if_neg c]
    refine ⟨h2, ?_⟩
    rw [chT, if_neg (by rw [show (0 : Int32) = i32 0 from rfl, i32_le (by omega)]; omega), e1, obs]
    dsimp only
    rw [if_neg (by rw [i32_eq (by omega)]; omega), e3, obs]
    dsimp only
    rw [if_neg (by rw [i32_eq (by omega)]; omega)]
theorem p_chTP {F n a b f : Nat} {Z : hZ} {B : Nat → Nat} {u : hSt → Option (Int32 × hSt)} (hF : 300 ≤ F) (ha : a < 48) (hb : b < 48) {k N : Nat} (hk : k ≤ 200) (hN : 0 < N) {σ : hSt} (h : okP B n σ f) : chT F Z (i32 (a : Int)) (i32 (b : Int)) u N σ (i32 (k : Int)) = some (1, σ) := by
  obtain ⟨N, rfl⟩ : ∃ q, N = q + 1 := ⟨N - 1, by omega⟩
  have hd := pk_dg h.2.2.1
  rw [chT]
  by_cases q : k = 0
  · subst q
    rw [if_pos (by decide)]
  · rw [if_neg (by rw [show (0 : Int32) = i32 0 from rfl, i32_le (by omega)]; omega), p_nextP hF h, obs]
    dsimp only
    rw [if_neg (by rw [i32_eq (by omega)]; omega), p_nextP hF h, obs]
    dsimp only
    rw [if_neg (by rw [i32_eq (by omega)]; omega)]
theorem p_chTT {F n a b : Nat} {Z : hZ} {B : Nat → Nat} {it : Nat → PR} {u : hSt → Option (Int32 × hSt)} (hF : 300 ≤ F) (ha1 : 1 ≤ a ∧ a < 48) (hb1 : 1 ≤ b ∧ b < 48) (hg : PG n it) (hu : ∀ σ p w, okH B n σ p w → resT B n σ w (it p) (u σ)) :
    ∀ k p N (σ : hSt) w0 acc, k ≤ 200 → k < N → okH B n σ p (w0 + acc.length) → cdA σ w0 acc → ∃ σ', fr WT σ σ' ∧ (((chL B n (isC2 a b) emC it k p acc).1 = true ∧ chT F Z (i32 (a : Int)) (i32 (b : Int)) u N σ (i32 (k : Int)) = some (1, σ') ∧ okH B n σ' (chL B n (isC2 a b) emC it k p acc).2.1 (w0 + (chL B n (isC2 a b) emC it k p acc).2.2.length) ∧ kpW σ σ' w0 ∧ cdA σ' w0 (chL B n (isC2 a b) emC it k p acc).2.2) ∨ ((chL B n (isC2 a b) emC it k p acc).1 = false ∧ chT F Z (i32 (a : Int)) (i32 (b : Int)) u N σ (i32 (k : Int)) = some (0, σ') ∧ σ'.1 1 4 = i32 ((chL B n (isC2 a b) emC it k p acc).2.1 : Int)) ∨ ((chL B n (isC2 a b) emC it k p acc).1 = false ∧ chT F Z (i32 (a : Int)) (i32 (b : Int)) u N σ (i32 (k : Int)) = some (1, σ') ∧ okP B n σ' (chL B n (isC2 a b) emC it k p acc).2.1)) := by
  intro k
  induction k with
  | zero =>
    intro p N σ w0 acc hk hN ho ha
    obtain ⟨N, rfl⟩ : ∃ q, N = q + 1 := ⟨N - 1, by omega⟩
    refine ⟨σ, fr_rf _ _, Or.inl ⟨rfl, ?_, ho, fun _ _ => rfl, ha⟩⟩
    rw [chT]
    rfl
  | succ k ih =>
    intro p N σ w0 acc hk hN ho ha
    obtain ⟨N, rfl⟩ : ∃ q, N = q + 1 := ⟨N - 1, by omega⟩
    obtain ⟨σ1, b2, b3, b4⟩ := chT_s (Z := Z) (u := u) (a := a) (b := b) (N := N) (k := k + 1) hF (by omega) (by omega) ho (by omega)
    rw [Nat.add_sub_cancel] at b4
    rw [chL]
    by_cases hq : isC2 a b (pk B n (sk B n p)) = true
    · rw [if_pos hq] at b4
      obtain ⟨b4, b5, b6⟩ := b4
      rw [if_pos hq, b6]
      obtain ⟨σ2, c2, c3⟩ := hu σ1 _ _ b4
      obtain ⟨g1, g2⟩ := hg (sk B n p + 1) (by omega)
      rcases c3 with ⟨d, c1, c5, c6, c7⟩ | ⟨d, c1, c4⟩ | ⟨d, c1, c4⟩
      · obtain ⟨g3, g4⟩ := g2 d
        have hps := sk_rg (B := B) ho.2.1
        have hw3 := ho.2.2.1
        obtain ⟨σ3, d1, d2, d3, d4, d5⟩ := p_write (Z := Z) (v := emC (pk B n (sk B n p))) c5 (by omega)
        rw [c1, obs]
        dsimp only
        rw [if_pos d, if_neg n10, d1, obs]
        have hk1 : kpW σ σ2 (w0 + acc.length) := fun j hj => by rw [c6 j hj, b3]
        have ha2 : cdA σ3 w0 (acc ++ ((it (sk B n p + 1)).2.2 ++ [emC (pk B n (sk B n p))])) := by
          refine cdA_app (cdA_kp (cdA_kp ha hk1) (fun j hj => d4 j (by omega))) (cdA_app (cdA_kp c7 d4) ?_)
          intro i hi
          have : i = 0 := by simp at hi; omega
          subst this
          exact d5
        obtain ⟨σ4, e2, e3⟩ := ih (it (sk B n p + 1)).2.1 N σ3 w0 (acc ++ ((it (sk B n p + 1)).2.2 ++ [emC (pk B n (sk B n p))])) (by omega) (by omega) (by
          rw [show w0 + (acc ++ ((it (sk B n p + 1)).2.2 ++ [emC (pk B n (sk B n p))])).length = w0 + acc.length + (it (sk B n p + 1)).2.2.length + 1 by simp only [List.length_append, List.length_cons, List.length_nil]; omega]
          exact d3) ha2
        refine ⟨σ4, fr_tr (fr_tr (fr_tr b2 c2) d2) e2, ?_⟩
        rcases e3 with ⟨z, f0, f1, f2, f3⟩ | z
        · exact Or.inl ⟨z, f0, f1, fun j hj => by rw [f2 j hj, d4 j (by omega), c6 j (by omega), b3], f3⟩
        · exact Or.inr z
      · rw [c1, obs]
        dsimp only
        rw [if_neg (by rw [d]; decide), if_pos rfl]
        exact ⟨σ2, fr_tr b2 c2, Or.inr (Or.inl ⟨rfl, rfl, c4⟩)⟩
      · obtain ⟨σ3, d1, d2, d3⟩ := p_writeP (Z := Z) (i32 (emC (pk B n (sk B n p)))) c4
        rw [c1, obs]
        dsimp only
        rw [if_neg (by rw [d]; decide), if_neg n10, d1, obs]
        exact ⟨σ3, fr_tr (fr_tr b2 c2) d2, Or.inr (Or.inr ⟨rfl, p_chTP hF (by omega) (by omega) (by omega) (by omega) d3, d3⟩)⟩
    · rw [if_neg hq] at b4
      obtain ⟨b4, b6⟩ := b4
      rw [if_neg hq, b6]
      exact ⟨σ1, b2, Or.inl ⟨rfl, rfl, b4, fun j _ => by rw [b3], fun i hi => by rw [b3]; exact ha i hi⟩⟩
/-- a row behind its first thing -/
theorem p_rowT {F n a b : Nat} {Z : hZ} {B : Nat → Nat} {it : Nat → PR} {u : hSt → Option (Int32 × hSt)} (hF : 300 ≤ F) (ha1 : 1 ≤ a ∧ a < 48) (hb1 : 1 ≤ b ∧ b < 48) (hg : PG n it) (hu : ∀ σ p w, okH B n σ p w → resT B n σ w (it p) (u σ)) (σ : hSt) (p w : Nat) (ho : okH B n σ p w) :
    resT B n σ w (chn B n (isC2 a b) emC it p) ((u σ).bind fun q1 => (if q1.1 = (0 : Int32) then some ((0 : Int32), q1.2) else chT F Z (i32 (a : Int)) (i32 (b : Int)) u F q1.2 (200 : Int32))) := by
  obtain ⟨σ1, b2, b3⟩ := hu σ p w ho
  unfold chn
  rcases b3 with ⟨d, b1, c1, c2, c3⟩ | ⟨d, b1, b4⟩ | ⟨d, b1, b4⟩
  · rw [b1, obs]
    dsimp only
    rw [if_pos d, if_neg n10]
    obtain ⟨σ2, d2, d3⟩ := p_chTT (Z := Z) hF ha1 hb1 hg hu 200 (it p).2.1 F σ1 w (it p).2.2 (Nat.le_refl _) (by omega) c1 c3
    refine ⟨σ2, fr_tr b2 d2, ?_⟩
    rcases d3 with ⟨z, f0, f1, f2, f3⟩ | z
    · exact Or.inl ⟨z, f0, f1, fun j hj => by rw [f2 j hj, c2 j hj], f3⟩
    · exact Or.inr z
  · rw [b1, obs]
    dsimp only
    rw [if_neg (by rw [d]; decide), if_pos rfl]
    exact resT_0 b2 rfl b4
  · rw [b1, obs]
    dsimp only
    rw [if_neg (by rw [d]; decide), if_neg n10]
    exact resT_P b2 (p_chTP (k := 200) hF (by omega) (by omega) (by omega) (by omega) b4) b4
theorem p_rowH {F n c : Nat} {e : Int} {Z : hZ} {B : Nat → Nat} {it : Nat → PR} {u : hSt → Option (Int32 × hSt)} (hF : 300 ≤ F) (hc : 1 ≤ c ∧ c ≤ 255 ∧ (c < 48 ∨ 57 < c)) (hg : PG n it) (hu : ∀ σ p w, okH B n σ p w → resT B n σ w (it p) (u σ)) {r : PR} {x : Option (Int32 × hSt)} (σ : hSt) (w : Nat) (h0 : resT B n σ w r x) :
    resT B n σ w (chF B n (isC c) (fun _ => e) it r) (x.bind fun q1 => (if q1.1 = (0 : Int32) then some ((0 : Int32), q1.2) else chH F Z (i32 (c : Int)) (i32 e) u F q1.2 (200 : Int32))) := by
  obtain ⟨σ1, b2, b3⟩ := h0
  unfold chF
  rcases b3 with ⟨d, b1, c1, c2, c3⟩ | ⟨d, b1, b4⟩ | ⟨d, b1, b4⟩
  · rw [b1, obs]
    dsimp only
    rw [if_pos d, if_neg n10]
    obtain ⟨σ2, d2, d3⟩ := p_chHT (Z := Z) (e := e) hF hc hg hu 200 r.2.1 F σ1 w r.2.2 (Nat.le_refl _) (by omega) c1 c3
    refine ⟨σ2, fr_tr b2 d2, ?_⟩
    rcases d3 with ⟨z, f0, f1, f2, f3⟩ | z
    · exact Or.inl ⟨z, f0, f1, fun j hj => by rw [f2 j hj, c2 j hj], f3⟩
    · exact Or.inr z
  · rw [b1, obs]
    dsimp only
    rw [if_neg (by rw [d]; decide), if_pos rfl]
    exact resT_0 b2 rfl b4
  · rw [b1, obs]
    dsimp only
    rw [if_neg (by rw [d]; decide), if_neg n10]
    exact resT_P b2 (p_chHP (k := 200) hF (by omega) (by omega) (by omega) (by omega) b4) b4
