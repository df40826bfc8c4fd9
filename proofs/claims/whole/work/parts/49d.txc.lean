/-! LAWS and GIANTS: the class's numbers, letters and SUMS -/
theorem dg_pk {B : Nat → Nat} {n q : Nat} : dg B n q = true ↔ 48 ≤ pk B n q ∧ pk B n q ≤ 57 := by
  unfold dg pk
  simp only [Bool.and_eq_true, decide_eq_true_eq]
  by_cases c : q < n
  · rw [if_pos c]; exact ⟨fun h => h.2, fun h => ⟨c, h⟩⟩
  · rw [if_neg c]; exact ⟨fun h => absurd h.1 c, fun h => by omega⟩
theorem p_isDigit {c : Nat} (hc : c ≤ 255) : f_X10_isDigit (i32 (c : Int)) = some (b01 (decide (48 ≤ c ∧ c ≤ 57))) := by
  unfold f_X10_isDigit
  by_cases a : c < 48
  · rw [if_pos (by rw [show (48 : Int32) = i32 48 from rfl, i32_lt (by omega)]; omega), decide_eq_false (by omega)]; rfl
  · rw [if_neg (by rw [show (48 : Int32) = i32 48 from rfl, i32_lt (by omega)]; omega)]
    by_cases b : c ≤ 57
    · rw [if_neg (by rw [show (57 : Int32) = i32 57 from rfl, i32_lt (by omega)]; omega), decide_eq_true (by omega)]; rfl
    · rw [if_pos (by rw [show (57 : Int32) = i32 57 from rfl, i32_lt (by omega)]; omega), decide_eq_false (by omega)]; rfl
theorem p_here {n p w : Nat} {Z : hZ} {B : Nat → Nat} {σ : hSt} (h : okH B n σ p w) : f_X8_here Z σ = some (i32 (pk B n p : Int)) := by
  obtain ⟨a1, a2, a3, a4, a5, a6, a7⟩ := h
  unfold f_X8_here
  unfold pk
  by_cases c : p < n
  · have := (a5 p c).1
    rw [if_pos c]
    simp (disch := omega) only [↓reduceIte, iT_lt, iF_lt, iT_le, iF_le, iT_eq, iF_eq, nT_lt, nF_lt, nT_le, nF_le, nT_eq, nF_eq, and_self, and_true, true_and, and_false, false_and, not_true_eq_false, not_false_eq_true, ne_eq, or_self, or_false, false_or, or_true, true_or, Option.bind_some, i32_lit, i64_lit, i32_add, i32_sub, i32_mul, i32_neg, i64_add, i64_sub, i64_neg, i32_lt, i32_le, i32_eq, i64_lt, i64_le, i64_eq, i32_cn, i32_cl, i32_l, i64_i, i32_nat, Int.toNat_natCast, sI_2, sJ_1, sJ_22, sR_1, sR_21, sI_t, sI_r, sI_j, sJ_t, sJ_r, sJ_j, sR_t, sR_r, sR_j, a6, a4, this]
  · obtain rfl : p = n := by omega
    rw [if_neg c]
    simp (disch := omega) only [↓reduceIte, iT_lt, iF_lt, iT_le, iF_le, iT_eq, iF_eq, nT_lt, nF_lt, nT_le, nF_le, nT_eq, nF_eq, and_self, and_true, true_and, and_false, false_and, not_true_eq_false, not_false_eq_true, ne_eq, or_self, or_false, false_or, or_true, true_or, Option.bind_some, i32_lit, i64_lit, i32_add, i32_sub, i32_mul, i32_neg, i64_add, i64_sub, i64_neg, i32_lt, i32_le, i32_eq, i64_lt, i64_le, i64_eq, i32_cn, i32_cl, i32_l, i64_i, i32_nat, Int.toNat_natCast, sI_2, sJ_1, sJ_22, sR_1, sR_21, sI_t, sI_r, sI_j, sJ_t, sJ_r, sJ_j, sR_t, sR_r, sR_j, a6, a4]
    rfl
theorem p_num_L {n w : Nat} {Z : hZ} {B : Nat → Nat} {k51 : hSt → Int32 → Option (Int32 × hSt)} : ∀ (k p i N : Nat) (v : Int) (σ : hSt), i + k = 4 → k < N → 0 ≤ v → v < 10 ^ i → okH B n σ p w → ∃ σ', fr WT σ σ' ∧ σ'.1 3 = σ.1 3 ∧ (((nuN B n k p v).1 = true ∧ okH B n σ' (nuN B n k p v).2.1 w ∧ f_X10_number_L4 Z k51 N σ (i32 v) (i32 (i : Int)) = k51 σ' (i32 ((nuN B n k p v).2.2.getD 0 0))) ∨ ((nuN B n k p v).1 = false ∧ okH B n σ' (nuN B n k p v).2.1 w ∧ dg B n (nuN B n k p v).2.1 = true ∧ ∃ v' : Int, f_X10_number_L4 Z k51 N σ (i32 v) (i32 (i : Int)) = k51 σ' (i32 v'))) := by
  intro k
  induction k with
  | zero =>
    intro p i N v σ hi hN hv hv2 ho
    obtain ⟨N, rfl⟩ : ∃ q, N = q + 1 := ⟨N - 1, by omega⟩
    obtain rfl : i = 4 := by omega
    refine ⟨σ, fr_rf _ _, rfl, ?_⟩
    rw [f_X10_number_L4, if_pos (by decide), nuN]
    by_cases c : dg B n p = true
    · rw [if_pos c]
      exact Or.inr ⟨rfl, ho, c, v, rfl⟩
    · rw [if_neg c]
      exact Or.inl ⟨rfl, ho, rfl⟩
  | succ k ih =>
    intro p i N v σ hi hN hv hv2 ho
    obtain ⟨N, rfl⟩ : ∃ q, N = q + 1 := ⟨N - 1, by omega⟩
    have hr := pk_rg (q := p) ho
    have hh := p_here (Z := Z) ho
    have hd := p_isDigit (c := pk B n p) (by omega)
    rw [f_X10_number_L4, if_neg (by rw [show (4 : Int32) = i32 4 from rfl, i32_le (by omega)]; omega), hh, obs, hd, obs, nuN]
    by_cases c : dg B n p = true
    · have c2 := dg_pk.1 c
      have hb : p < n ∧ B p = pk B n p := by
        have := dg_b c
        unfold pk; rw [if_pos this.1]; exact ⟨this.1, rfl⟩
      obtain ⟨σ1, s1, s2, s3, s4⟩ := p_step (Z := Z) ho hb.1
      rw [if_pos c, decide_eq_true c2, b01t, if_neg n10, obs, s1, obs]
      dsimp only
      have h10 : (10 : Int) ^ (i + 1) = 10 ^ i * 10 := Int.pow_succ 10 i
      have hle : (10 : Int) ^ i ≤ 1000 := by
        have : i = 0 ∨ i = 1 ∨ i = 2 ∨ i = 3 := by omega
        rcases this with rfl | rfl | rfl | rfl <;> decide
      have hq : i32 v * (10 : Int32) + i32 (pk B n p : Int) - (48 : Int32) = i32 (v * 10 + (B p : Int) - 48) := by
        rw [hb.2, show (10 : Int32) = i32 10 from rfl, show (48 : Int32) = i32 48 from rfl, i32_mul, i32_add, i32_sub]
      have hq2 : i32 (i : Int) + (1 : Int32) = i32 ((i + 1 : Nat) : Int) := by
        rw [show (1 : Int32) = i32 1 from rfl, i32_add]; rfl
      rw [hq, hq2]
      obtain ⟨σ', e1, e2, e3⟩ := ih (p + 1) (i + 1) N (v * 10 + (B p : Int) - 48) σ1 (by omega) (by omega) (by omega) (by rw [h10]; omega) s3
      exact ⟨σ', fr_tr s2 e1, e2.trans s4, e3⟩
    · have c2 : ¬ (48 ≤ pk B n p ∧ pk B n p ≤ 57) := fun z => c (dg_pk.2 z)
      rw [if_neg c, decide_eq_false c2, b01f, if_pos rfl]
      exact ⟨σ, fr_rf _ _, rfl, Or.inl ⟨rfl, ho, rfl⟩⟩
theorem nuN_1 {B : Nat → Nat} {n : Nat} : ∀ k p v, (nuN B n k p v).1 = true → (nuN B n k p v).2.2 = [(nuN B n k p v).2.2.getD 0 0]
  | 0, p, v => by
    rw [nuN]
    split
    · intro h; cases h
    · intro _; rfl
  | k + 1, p, v => by
    rw [nuN]
    split
    · exact nuN_1 k _ _
    · intro _; rfl
theorem nuN_f {B : Nat → Nat} {n : Nat} : ∀ k p v, (nuN B n k p v).1 = false → nuN B n k p v = (false, (nuN B n k p v).2.1, [])
  | 0, p, v => by
    rw [nuN]
    split
    · intro _; rfl
    · intro h; cases h
  | k + 1, p, v => by
    rw [nuN]
    split
    · exact nuN_f k _ _
    · intro h; cases h
theorem p_number {F n p w r : Nat} {Z : hZ} {B : Nat → Nat} {σ : hSt} (hF : 300 ≤ F) (ho : okH B n σ p w) (hd : dg B n p = true) : resT B n σ w (nuN B n 4 p 0) (f_X10_number F Z σ r) := by
  unfold f_X10_number
  obtain ⟨σ1, b1, b2, b3⟩ := p_num_L (Z := Z) (k51 := fun σ1 z1 => (f_X8_write Z σ1 z1).bind fun q7 => some ((1 : Int32), q7.2)) 4 p 0 F 0 σ rfl (by omega) (Int.le_refl _) (by decide) ho
  have hm : p < (nuN B n 4 p 0).2.1 := by
    rw [nuN, if_pos hd]
    have := nuN_PG (B := B) (n := n) 3 (p + 1) (0 * 10 + (B p : Int) - 48) (dg_b hd).1
    omega
  have hw := ho.2.2.1
  rcases b3 with ⟨c1, c2, c3⟩ | ⟨c1, c2, c3, v', c4⟩
  · obtain ⟨σ2, d1, d2, d3, d4, d5⟩ := p_write (Z := Z) (v := (nuN B n 4 p 0).2.2.getD 0 0) c2 (by omega)
    have hl := nuN_1 4 p 0 c1
    refine ⟨σ2, fr_tr b1 d2, Or.inl ⟨c1, ?_, ?_, fun j hj => by rw [d4 j hj, b2], ?_⟩⟩
    · rw [show (0 : Int32) = i32 0 from rfl, show i32 0 = i32 ((0 : Nat) : Int) from rfl]
      rw [show f_X10_number_L4 Z (fun σ1 z1 => (f_X8_write Z σ1 z1).bind fun q7 => some ((1 : Int32), q7.2)) F σ (i32 ((0 : Nat) : Int)) (i32 ((0 : Nat) : Int)) = _ from c3]
      rw [d1, obs]
    · rw [hl]; exact d3
    · rw [hl]
      intro i hi
      have : i = 0 := by simp at hi; omega
      subst this
      exact d5
  · obtain ⟨σ2, d1, d2, d3⟩ := p_writeP (Z := Z) (i32 v') (okP_of c2 c3)
    rw [nuN_f 4 p 0 c1]
    refine resT_P (fr_tr b1 d2) ?_ d3
    rw [show (0 : Int32) = i32 0 from rfl, show i32 0 = i32 ((0 : Nat) : Int) from rfl]
    rw [show f_X10_number_L4 Z (fun σ1 z1 => (f_X8_write Z σ1 z1).bind fun q7 => some ((1 : Int32), q7.2)) F σ (i32 ((0 : Nat) : Int)) (i32 ((0 : Nat) : Int)) = _ from c4]
    rw [d1, obs]
/-- marks that close -/
theorem p_expH {F n p w c : Nat} {Z : hZ} {B : Nat → Nat} {σ : hSt} (hF : 300 ≤ F) (ho : okH B n σ p w) (hc : 1 ≤ c ∧ c ≤ 255) : ∃ σ', fr WT σ σ' ∧ σ'.1 3 = σ.1 3 ∧ (if pk B n (sk B n p) = c then f_X8_expect F Z σ (i32 (c : Int)) = some (1, σ') ∧ okH B n σ' (sk B n p + 1) w else f_X8_expect F Z σ (i32 (c : Int)) = some (0, σ') ∧ σ'.1 1 4 = i32 (sk B n p : Int)) := by
  obtain ⟨e1, h2⟩ := p_next (Z := Z) hF ho
  have hr := pk_rg (q := sk B n p) ho
  have f0 : fr WT σ (sI σ 1 3 (i32 (sk B n p : Int))) := fr_sI σ _ (by decide)
  have g0 : (sI σ 1 3 (i32 (sk B n p : Int))).1 3 = σ.1 3 := sI_r _ _ (by omega)
  unfold f_X8_expect
  rw [e1, obs]
  dsimp only
  by_cases q : pk B n (sk B n p) = c
  · have hlt := pkp_lt (show pk B n (sk B n p) ≠ 0 by omega)
    obtain ⟨σ1, s1, s2, s3, s4⟩ := p_step (Z := Z) h2 hlt
    unfold f_X8_step at s1
    rw [if_pos (by rw [q])]
    refine ⟨σ1, fr_tr f0 s2, s4.trans g0, ?_⟩
    rw [if_pos q]
    refine ⟨?_, s3⟩
    have s1' := Option.some.inj s1
    rw [show sI (sI σ 1 3 (i32 (sk B n p : Int))) 1 3 ((sI σ 1 3 (i32 (sk B n p : Int))).1 1 3 + 1) = σ1 from congrArg Prod.snd s1']
  · rw [if_neg (by rw [i32_eq (by omega)]; omega)]
    have f1 : fr WT (sI σ 1 3 (i32 (sk B n p : Int))) (sI (sI σ 1 3 (i32 (sk B n p : Int))) 1 4 ((sI σ 1 3 (i32 (sk B n p : Int))).1 1 3)) := fr_sI _ _ (by decide)
    have g1 : (sI (sI σ 1 3 (i32 (sk B n p : Int))) 1 4 ((sI σ 1 3 (i32 (sk B n p : Int))).1 1 3)).1 3 = (sI σ 1 3 (i32 (sk B n p : Int))).1 3 := sI_r _ _ (by omega)
    refine ⟨_, fr_tr f0 f1, g1.trans g0, ?_⟩
    rw [if_neg q]
    refine ⟨rfl, ?_⟩
    simp (disch := omega) only [↓reduceIte, iT_lt, iF_lt, iT_le, iF_le, iT_eq, iF_eq, nT_lt, nF_lt, nT_le, nF_le, nT_eq, nF_eq, and_self, and_true, true_and, and_false, false_and, not_true_eq_false, not_false_eq_true, ne_eq, or_self, or_false, false_or, or_true, true_or, Option.bind_some, i32_lit, i64_lit, i32_add, i32_sub, i32_mul, i32_neg, i64_add, i64_sub, i64_neg, i32_lt, i32_le, i32_eq, i64_lt, i64_le, i64_eq, i32_cn, i32_cl, i32_l, i64_i, i32_nat, Int.toNat_natCast, sI_2, sJ_1, sJ_22, sR_1, sR_21, sI_t, sI_r, sI_j, sJ_t, sJ_r, sJ_j, sR_t, sR_r, sR_j]
theorem p_expP {F n f c : Nat} {Z : hZ} {B : Nat → Nat} {σ : hSt} (hF : 300 ≤ F) (h : okP B n σ f) (hc : c ≤ 255 ∧ (c < 48 ∨ 57 < c)) : ∃ σ', fr WT σ σ' ∧ f_X8_expect F Z σ (i32 (c : Int)) = some (0, σ') ∧ σ'.1 1 4 = i32 (f : Int) := by
  have hd := pk_dg h.2.2.1
  unfold f_X8_expect
  rw [p_nextP hF h, obs]
  dsimp only
  rw [if_neg (by rw [i32_eq (by omega)]; omega)]
  refine ⟨_, fr_sI _ _ (by decide), rfl, ?_⟩
  have := h.2.2.2.2.2.1
  simp (disch := omega) only [↓reduceIte, iT_lt, iF_lt, iT_le, iF_le, iT_eq, iF_eq, nT_lt, nF_lt, nT_le, nF_le, nT_eq, nF_eq, and_self, and_true, true_and, and_false, false_and, not_true_eq_false, not_false_eq_true, ne_eq, or_self, or_false, false_or, or_true, true_or, Option.bind_some, i32_lit, i64_lit, i32_add, i32_sub, i32_mul, i32_neg, i64_add, i64_sub, i64_neg, i32_lt, i32_le, i32_eq, i64_lt, i64_le, i64_eq, i32_cn, i32_cl, i32_l, i64_i, i32_nat, Int.toNat_natCast, sI_2, sJ_1, sJ_22, sR_1, sR_21, sI_t, sI_r, sI_j, sJ_t, sJ_r, sJ_j, sR_t, sR_r, sR_j, this]
theorem p_failP {n f : Nat} {Z : hZ} {B : Nat → Nat} {σ : hSt} (h : okP B n σ f) : ∃ σ', f_X8_fail Z σ = some (0, σ') ∧ fr WT σ σ' ∧ σ'.1 1 4 = i32 (f : Int) := by
  have := h.2.2.2.2.2.1
  refine ⟨_, rfl, fr_sI _ _ (by decide), ?_⟩
  simp (disch := omega) only [↓reduceIte, iT_lt, iF_lt, iT_le, iF_le, iT_eq, iF_eq, nT_lt, nF_lt, nT_le, nF_le, nT_eq, nF_eq, and_self, and_true, true_and, and_false, false_and, not_true_eq_false, not_false_eq_true, ne_eq, or_self, or_false, false_or, or_true, true_or, Option.bind_some, i32_lit, i64_lit, i32_add, i32_sub, i32_mul, i32_neg, i64_add, i64_sub, i64_neg, i32_lt, i32_le, i32_eq, i64_lt, i64_le, i64_eq, i32_cn, i32_cl, i32_l, i64_i, i32_nat, Int.toNat_natCast, sI_2, sJ_1, sJ_22, sR_1, sR_21, sI_t, sI_r, sI_j, sJ_t, sJ_r, sJ_j, sR_t, sR_r, sR_j, this]
theorem p_clo {F n c w : Nat} {Z : hZ} {B : Nat → Nat} {σ : hSt} {r : PR} {x : Option (Int32 × hSt)} (hF : 300 ≤ F) (hc : 1 ≤ c ∧ c ≤ 255 ∧ (c < 48 ∨ 57 < c)) (h : resT B n σ w r x) : resT B n σ w (clo B n c r) (x.bind fun q16 => (if q16.1 = (0 : Int32) then some ((0 : Int32), q16.2) else (f_X8_expect F Z q16.2 (i32 (c : Int))).bind fun q18 => (if q18.1 = (0 : Int32) then some ((0 : Int32), q18.2) else some ((1 : Int32), q18.2)))) := by
  obtain ⟨σ1, b2, b3⟩ := h
  unfold clo
  rcases b3 with ⟨d, b1, c1, c2, c3⟩ | ⟨d, b1, b4⟩ | ⟨d, b1, b4⟩
  · obtain ⟨σ2, e1, e2, e3⟩ := p_expH (Z := Z) (c := c) hF c1 (by omega)
    rw [b1, obs]
    dsimp only
    rw [if_pos d, if_neg n10]
    by_cases q : pk B n (sk B n r.2.1) = c
    · rw [if_pos q] at e3
      obtain ⟨e3, e4⟩ := e3
      rw [if_pos q, e3, obs]
      dsimp only
      rw [if_neg n10]
      exact ⟨σ2, fr_tr b2 e1, Or.inl ⟨rfl, rfl, e4, fun j hj => by rw [e2, c2 j hj], fun i hi => by rw [e2]; exact c3 i hi⟩⟩
    · rw [if_neg q] at e3
      obtain ⟨e3, e4⟩ := e3
      rw [if_neg q, e3, obs]
      dsimp only
      rw [if_pos rfl]
      exact resT_0 (fr_tr b2 e1) rfl e4
  · rw [b1, obs]
    dsimp only
    rw [if_neg (by rw [d]; decide), if_pos rfl]
    exact resT_0 b2 rfl b4
  · obtain ⟨σ2, e1, e2, e3⟩ := p_expP (Z := Z) (c := c) hF b4 (by omega)
    rw [b1, obs]
    dsimp only
    rw [if_neg (by rw [d]; decide), if_neg n10, e2, obs]
    dsimp only
    rw [if_pos rfl]
    exact resT_0 (fr_tr b2 e1) rfl e3
theorem resT_w {B : Nat → Nat} {n w : Nat} {σ : hSt} {r : PR} {x : Option (Int32 × hSt)} (h : resT B n σ w r x) : resT B n σ w r (x.bind fun q => if q.1 = 0 ∨ q.1 = 1 then some (q.1, q.2) else none) := by
  obtain ⟨σ1, b2, b3⟩ := h
  refine ⟨σ1, b2, ?_⟩
  rcases b3 with ⟨d, b1, c⟩ | ⟨d, b1, c⟩ | ⟨d, b1, c⟩
  · exact Or.inl ⟨d, by rw [b1, obs]; exact if_pos (Or.inr rfl), c⟩
  · exact Or.inr (Or.inl ⟨d, by rw [b1, obs]; exact if_pos (Or.inl rfl), c⟩)
  · exact Or.inr (Or.inr ⟨d, by rw [b1, obs]; exact if_pos (Or.inr rfl), c⟩)
/-- an atom without marks -/
theorem p_lfA {F n g q w : Nat} {Z : hZ} {B : Nat → Nat} {σ : hSt} (hF : 300 ≤ F) (hg : g ≤ 1) (ho : okH B n σ q w) : resT B n σ w (lfA B n g q) ((f_X10_isDigit (i32 (pk B n q : Int))).bind fun q3 => (if q3 = (0 : Int32) then (f_J0_indexOf_0f7a4 F (2 * ((5 + g) - 5) + 1) (((i32 (pk B n q : Int)).toUInt32 % 65536).toInt32)).bind fun q5 => (if (0 : Int32) ≤ q5 then (f_X8_step Z σ).bind fun q7 => (f_J0_indexOf_0f7a4 F 4 (((i32 (pk B n q : Int)).toUInt32 % 65536).toInt32)).bind fun q8 => (f_X8_write Z q7.2 ((10000 : Int32) + q8)).bind fun q9 => some ((1 : Int32), q9.2) else (f_X8_fail Z σ).bind fun q10 => if q10.1 = 0 ∨ q10.1 = 1 then some (q10.1, q10.2) else none) else (f_X10_number F Z σ (5 + g)).bind fun q12 => if q12.1 = 0 ∨ q12.1 = 1 then some (q12.1, q12.2) else none)) := by
  have hr := pk_rg (q := q) ho
  have hd := p_isDigit (c := pk B n q) (by omega)
  rw [hd, obs]
  unfold lfA
  by_cases c : dg B n q = true
  · rw [if_pos c, decide_eq_true (dg_pk.1 c), b01t, if_neg n10]
    exact resT_w (p_number hF ho c)
  · rw [if_neg c, decide_eq_false (fun z => c (dg_pk.2 z)), b01f, if_pos rfl, ch16 (by omega), show 5 + g - 5 = g by omega, p_ix hF (by omega) (by omega), obs, p_ix hF (by omega) (by omega)]
    have hi := ixS_rg (k := 2 * g + 1) (by omega) (pk B n q)
    have hi4 := ixS_rg (k := 4) (by omega) (pk B n q)
    by_cases c2 : 0 ≤ ixS (2 * g + 1) (pk B n q)
    · have hlt : q < n := by
        rcases Nat.lt_or_ge q n with r | r
        · exact r
        · exfalso
          unfold pk at c2
          rw [if_neg (by omega)] at c2
          have : g = 0 ∨ g = 1 := by omega
          rcases this with rfl | rfl
          · exact absurd c2 (by decide +kernel)
          · exact absurd c2 (by decide +kernel)
      obtain ⟨σ1, s1, s2, s3, s4⟩ := p_step (Z := Z) ho hlt
      have hw := ho.2.2.1
      obtain ⟨σ2, d1, d2, d3, d4, d5⟩ := p_write (Z := Z) (v := 10000 + ixS 4 (pk B n q)) s3 (by omega)
      rw [if_pos c2, if_pos (by rw [show (0 : Int32) = i32 0 from rfl, i32_le (by omega)]; omega), s1, obs, obs]
      dsimp only
      rw [show (10000 : Int32) = i32 10000 from rfl, i32_add, d1, obs]
      refine ⟨σ2, fr_tr s2 d2, Or.inl ⟨rfl, rfl, d3, fun j hj => by rw [d4 j hj, s4], ?_⟩⟩
      intro i hi
      have : i = 0 := by simp at hi; omega
      subst this
      exact d5
    · obtain ⟨σ1, s1, s2, s3⟩ := p_fail (Z := Z) ho
      rw [if_neg c2, if_neg (by rw [show (0 : Int32) = i32 0 from rfl, i32_le (by omega)]; omega), s1, obs]
      refine resT_0 s2 ?_ s3
      exact if_pos (Or.inl rfl)
