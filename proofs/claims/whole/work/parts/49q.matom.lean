/-! atoms of the model, and its SUMS by depth -/
theorem txM_7 {B : Nat → Nat} {n r bs p : Nat} {τ : hSt} {v : Int32} (h : txM B n r bs τ p) : txM B n r bs (sI τ 200 7 v) p := by
  obtain ⟨t1, t2, t3, t4, t5, t6, t7, t8, t9⟩ := h
  have := isBy_ne t3
  refine ⟨t1, t2, t3, t4, t5, ?_, ?_, ?_, fun j hj => ?_⟩
  · simp (disch := omega) only [↓reduceIte, iT_lt, iF_lt, iT_le, iF_le, iT_eq, iF_eq, nT_lt, nF_lt, nT_le, nF_le, nT_eq, nF_eq, and_self, and_true, true_and, and_false, false_and, not_true_eq_false, not_false_eq_true, ne_eq, or_self, or_false, false_or, or_true, true_or, Option.bind_some, i32_lit, i64_lit, i32_add, i32_sub, i32_mul, i32_neg, i64_add, i64_sub, i64_neg, i32_lt, i32_le, i32_eq, i64_lt, i64_le, i64_eq, i32_cn, i32_cl, i32_l, i64_i, i32_nat, Int.toNat_natCast, sI_2, sJ_1, sJ_22, sR_1, sR_21, sI_t, sI_r, sI_j, sJ_t, sJ_r, sJ_j, sR_t, sR_r, sR_j]; exact t6
  · simp (disch := omega) only [↓reduceIte, iT_lt, iF_lt, iT_le, iF_le, iT_eq, iF_eq, nT_lt, nF_lt, nT_le, nF_le, nT_eq, nF_eq, and_self, and_true, true_and, and_false, false_and, not_true_eq_false, not_false_eq_true, ne_eq, or_self, or_false, false_or, or_true, true_or, Option.bind_some, i32_lit, i64_lit, i32_add, i32_sub, i32_mul, i32_neg, i64_add, i64_sub, i64_neg, i32_lt, i32_le, i32_eq, i64_lt, i64_le, i64_eq, i32_cn, i32_cl, i32_l, i64_i, i32_nat, Int.toNat_natCast, sI_2, sJ_1, sJ_22, sR_1, sR_21, sI_t, sI_r, sI_j, sJ_t, sJ_r, sJ_j, sR_t, sR_r, sR_j]; exact t7
  · simp (disch := omega) only [↓reduceIte, iT_lt, iF_lt, iT_le, iF_le, iT_eq, iF_eq, nT_lt, nF_lt, nT_le, nF_le, nT_eq, nF_eq, and_self, and_true, true_and, and_false, false_and, not_true_eq_false, not_false_eq_true, ne_eq, or_self, or_false, false_or, or_true, true_or, Option.bind_some, i32_lit, i64_lit, i32_add, i32_sub, i32_mul, i32_neg, i64_add, i64_sub, i64_neg, i32_lt, i32_le, i32_eq, i64_lt, i64_le, i64_eq, i32_cn, i32_cl, i32_l, i64_i, i32_nat, Int.toNat_natCast, sI_2, sJ_1, sJ_22, sR_1, sR_21, sI_t, sI_r, sI_j, sJ_t, sJ_r, sJ_j, sR_t, sR_r, sR_j]; exact t8
  · rw [sI_r _ _ (by omega)]; exact t9 j hj
theorem ix_no {g c : Nat} (hg : g ≤ 1) (hc : c = 91 ∨ (48 ≤ c ∧ c ≤ 57)) : ixS (2 * g + 1) c < 0 := by
  have h1 : ∀ c : Fin 92, (c.val = 91 ∨ (48 ≤ c.val ∧ c.val ≤ 57)) → ixS 1 c.val < 0 := by decide +kernel
  have h3 : ∀ c : Fin 92, (c.val = 91 ∨ (48 ≤ c.val ∧ c.val ≤ 57)) → ixS 3 c.val < 0 := by decide +kernel
  have : g = 0 ∨ g = 1 := by omega
  rcases this with rfl | rfl
  · exact h1 ⟨c, by omega⟩ hc
  · exact h3 ⟨c, by omega⟩ hc
theorem p_mleaf {B : Nat → Nat} {n r bs g q dp F : Nat} {L : Nat → Int64} {Z : hZ} {τ : hSt} (hF : 300 ≤ F) (hx : ¬ 0 ≤ ixS (2 * g + 1) (pk B n q)) (h : okV B n r bs g L τ q dp) : resV B n r bs g L τ dp (lfA B n g q) ((f_X12_isDigit Z τ).bind fun q4 => (if q4 = (0 : Int32) then (f_X12_fails Z τ).bind fun q13 => f_X12_atom_L98 Z (fun σ1 => (f_X12_fails Z σ1).bind fun q14 => some ((0 : Int64), q14.2)) F q13.2 (0 : Int64) (0 : Int32) else f_X12_atom_L98 Z (fun σ1 => (f_X12_fails Z σ1).bind fun q12 => some ((0 : Int64), q12.2)) F τ (0 : Int64) (0 : Int32))) := by
  rw [p_mIsDigit h.1, obs]
  unfold lfA
  by_cases c : dg B n q = true
  · rw [if_pos c, c, b01t, if_neg n10]
    exact p_mnum 4 q 0 F 0 τ rfl (by omega) (Int.le_refl _) (by decide) h
  · have c2 : dg B n q = false := by cases h : dg B n q with
      | false => rfl
      | true => exact absurd h c
    obtain ⟨F, rfl⟩ : ∃ q, F = q + 1 := ⟨F - 1, by omega⟩
    rw [if_neg c, if_neg hx, c2, b01f, if_pos rfl, okV_f h, obs]
    dsimp only
    rw [f_X12_atom_L98, p_mIsDigit (txM_7 h.1), obs, c2, b01f, if_pos rfl]
    exact resV_0 rfl (fr7 _ _) (sI_t _ _ ⟨rfl, rfl⟩)
theorem p_mtake2 {F c q : Nat} {Z : hZ} {τ : hSt} (hq : q ≤ 1000) (h : τ.1 200 7 = i32 (q : Int)) : f_X12_takes F Z τ (i32 (c : Int)) = some (0, τ) := by
  unfold f_X12_takes
  rw [if_neg (f_ne hq h), p_fails2 hq h, obs]
  exact if_pos (Or.inl rfl)
theorem p_mclo {B : Nat → Nat} {n r bs g dp F c : Nat} {L : Nat → Int64} {Z : hZ} {τ : hSt} {rr : PR} {x : Option (Int64 × hSt)} (hF : 300 ≤ F) (hc : 1 ≤ c ∧ c ≤ 255) (hn : rr.2.1 ≤ 1000) (h : resV B n r bs g L τ (dp + 1) rr x) : resV B n r bs g L τ dp (clo B n c rr) (x.bind fun q17 => (f_X12_takes F Z q17.2 (i32 (c : Int))).bind fun q18 => (if q18.1 = (0 : Int32) then some ((0 : Int64), q18.2) else some (q17.1, (sI q18.2 200 8 ((q18.2.1 200 8) - (1 : Int32)))))) := by
  obtain ⟨υ, w, a1, a2, a3, a4⟩ := h
  rw [a1, obs]
  dsimp only
  unfold clo
  by_cases d : rr.1 = true
  · obtain ⟨b1, b2, b3⟩ := a3 d
    obtain ⟨υ2, f2, t⟩ := p_mtakes (Z := Z) (c := c) hF hc b1
    rw [if_pos d]
    by_cases q : pk B n (sk B n rr.2.1) = c
    · rw [if_pos q] at t
      obtain ⟨t1, t2, t3⟩ := t
      have h8 : υ2.1 200 8 - (1 : Int32) = i32 (dp : Int) := by
        rw [t2.2.2.1, show (1 : Int32) = i32 1 from rfl, i32_sub]; congr 1; omega
      rw [if_pos q, t1, obs]
      dsimp only
      rw [if_neg n10, h8]
      exact ⟨_, w, rfl, fr_tr (fr_tr a2 f2) (fr8 _ _), fun _ => ⟨okV_dp t2, b2, b3⟩, fun z => by cases z⟩
    · rw [if_neg q] at t
      obtain ⟨t1, t2⟩ := t
      rw [if_neg q, t1, obs]
      exact resV_0 (if_pos rfl) (fr_tr a2 f2) t2
  · have d2 : rr.1 = false := by cases h : rr.1 with
      | false => rfl
      | true => exact absurd h d
    rw [if_neg d, p_mtake2 hn (a4 d2), obs]
    exact resV_0 (if_pos rfl) a2 (a4 d2)
theorem p_mterm {B : Nat → Nat} {n r bs g dp d D F : Nat} {L : Nat → Int64} {Z : hZ} (hF : 300 ≤ F) (hg : g ≤ 1) (hu : ∀ τ p, okV B n r bs g L τ p dp → resV B n r bs g L τ dp (tA B n g d p) ((G_Ma F Z D).2.2 τ)) (τ : hSt) (p : Nat) (ho : okV B n r bs g L τ p dp) : resV B n r bs g L τ dp (tM B n g d p) ((G_Ma F Z (D + 1)).2.1 τ) := by
  have h := p_rowV (a := 42) (b := 47) hF (by omega) (lp_term (Z := Z) hF) (tA_PG B n g hg d) hu τ p ho
  rw [show (G_Ma F Z (D + 1)).2.1 τ = b_X12_term F Z (G_Ma F Z D).2.2 τ from rfl]
  unfold b_X12_term
  exact h
theorem p_mtot {B : Nat → Nat} {n r bs g dp d D F : Nat} {L : Nat → Int64} {Z : hZ} (hF : 300 ≤ F) (hg : g ≤ 1) (hu : ∀ τ p, okV B n r bs g L τ p dp → resV B n r bs g L τ dp (tA B n g d p) ((G_Ma F Z D).2.2 τ)) (τ : hSt) (p : Nat) (ho : okV B n r bs g L τ p dp) : resV B n r bs g L τ dp (tT B n g d p) ((G_Ma F Z (D + 2)).1 τ) := by
  have h := p_rowV (a := 43) (b := 45) hF (by omega) (lp_reckon (Z := Z) hF) (tM_PG B n g hg d) (p_mterm hF hg hu) τ p ho
  rw [show (G_Ma F Z (D + 2)).1 τ = b_X12_reckon F Z (G_Ma F Z (D + 1)).2.1 τ from rfl]
  unfold b_X12_reckon
  exact h
/-- the atom's text but for what stands in marks -/
theorem p_matom0 {B : Nat → Nat} {n r bs g p dp F : Nat} {L : Nat → Int64} {Z : hZ} {u : hSt → Option (Int64 × hSt)} {τ : hSt} (hF : 300 ≤ F) (hg : g ≤ 1) (h : okV B n r bs g L τ p dp) : ∃ τ1, fr WV τ τ1 ∧ okV B n r bs g L τ1 (sk B n p) dp ∧ (if pk B n (sk B n p) = 91 then b_X12_atom F Z u τ = (f_X12_goesIn Z τ1).bind (fun q29 => (if q29.1 = (0 : Int32) then some ((0 : Int64), q29.2) else (u q29.2).bind fun q31 => (f_X12_takes F Z q31.2 (93 : Int32)).bind fun q32 => (if q32.1 = (0 : Int32) then some ((0 : Int64), q32.2) else some (q31.1, (sI q32.2 200 8 ((q32.2.1 200 8) - (1 : Int32))))))) ∧ sk B n p < n else resV B n r bs g L τ1 dp (lfA B n g (sk B n p)) (b_X12_atom F Z u τ)) := by
  obtain ⟨τ1, t0, e1, e2, f1, h1, e3⟩ := look2 (Z := Z) hF h
  refine ⟨τ1, f1, h1, ?_⟩
  have hB := txM_b h.1
  have hk := lk_cases (q := sk B n p) hB
  have hle := pkB_le (q := sk B n p) hB
  unfold b_X12_atom
  rw [e1, obs]
  dsimp only
  by_cases z : pk B n (sk B n p) = 0
  · have hl := hk.2.2.2 z
    have hix : ¬ 0 ≤ ixS (2 * g + 1) (pk B n (sk B n p)) := by
      rw [z]
      have : g = 0 ∨ g = 1 := by omega
      rcases this with rfl | rfl
      · decide +kernel
      · decide +kernel
    rw [if_neg (by omega), hl, if_pos m1, if_neg (show ¬ i32 (-1) = (91 : Int32) by decide)]
    exact p_mleaf hF hix h1
  · have hl := hk.2.2.1 (by omega)
    rw [hl, if_neg (show ¬ i32 (pk B n (sk B n p) : Int) = (-1 : Int32) by rw [show (-1 : Int32) = i32 (-1) from rfl, i32_eq (by omega)]; omega), h1.2.2.2.2.1]
    unfold oc
    dsimp only
    have hst : isSt (2 * g + 1) = true := by unfold isSt; rw [decide_eq_true_eq]; omega
    rw [if_pos hst, p_ix hF (by omega) hle, obs]
    have hi := ixS_rg (k := 2 * g + 1) (by omega) (pk B n (sk B n p))
    by_cases x : 0 ≤ ixS (2 * g + 1) (pk B n (sk B n p))
    · have h4 := ix4 hg hle x
      have hne : pk B n (sk B n p) ≠ 91 := fun y => by have := ix_no (c := pk B n (sk B n p)) hg (Or.inl y); omega
      have hnd : ¬ dg B n (sk B n p) = true := fun y => by
        have := ix_no (c := pk B n (sk B n p)) hg (Or.inr (dg_pk.1 y)); omega
      have hlt := pkp_lt (show pk B n (sk B n p) ≠ 0 by omega)
      rw [if_neg hne, if_neg (show ¬ i32 (ixS (2 * g + 1) (pk B n (sk B n p))) < (0 : Int32) by rw [show (0 : Int32) = i32 0 from rfl, i32_lt (by omega)]; omega), i32_cn (by omega), if_neg (show ¬ (i32 (pk B n (sk B n p) : Int) < (0 : Int32) ∨ 128 ≤ pk B n (sk B n p)) by rw [show (0 : Int32) = i32 0 from rfl, i32_lt (by omega)]; omega), e3]
      unfold lfA
      rw [if_neg hnd, if_pos x]
      obtain ⟨y1, y2⟩ := h1.2.2.2.2.2 (pk B n (sk B n p)) (by omega) x
      have i9 := ixS_rg (k := 4) (by omega) (pk B n (sk B n p))
      refine ⟨_, _, rfl, ?_, fun _ => ⟨okV_at h hlt, ?_, fun s => ?_⟩, fun z => by cases z⟩
      · rw [t0, ← sI_sI τ 200 6 (i32 (sk B n p : Int)) (i32 ((sk B n p + 1 : Nat) : Int))]
        exact fr6 _ _
      · rw [y1]; exact y2
      · rw [evS, evS, y1]
        unfold eop
        rw [if_neg (by omega), if_pos (by omega), show 10000 + ixS 4 (pk B n (sk B n p)) - 10000 = ixS 4 (pk B n (sk B n p)) by omega]
    · rw [if_pos (show i32 (ixS (2 * g + 1) (pk B n (sk B n p))) < (0 : Int32) by rw [show (0 : Int32) = i32 0 from rfl, i32_lt (by omega)]; omega)]
      by_cases c : pk B n (sk B n p) = 91
      · have hlt := pkp_lt (show pk B n (sk B n p) ≠ 0 by omega)
        rw [if_pos c, if_pos (show i32 (pk B n (sk B n p) : Int) = (91 : Int32) by rw [c]; rfl)]
        exact ⟨rfl, hlt⟩
      · rw [if_neg c, if_neg (show ¬ i32 (pk B n (sk B n p) : Int) = (91 : Int32) by rw [show (91 : Int32) = i32 91 from rfl, i32_eq (by omega)]; omega)]
        exact p_mleaf hF x h1
theorem p_matom {B : Nat → Nat} {n r bs g F : Nat} {L : Nat → Int64} {Z : hZ} (hF : 300 ≤ F) (hg : g ≤ 1) : ∀ (d dp D : Nat), dp + d = 6 → 3 * d + 1 ≤ D → ∀ τ p, okV B n r bs g L τ p dp → resV B n r bs g L τ dp (tA B n g d p) ((G_Ma F Z D).2.2 τ) := by
  intro d
  induction d with
  | zero =>
    intro dp D hx hD τ p ho
    obtain ⟨D, rfl⟩ : ∃ q, D = q + 1 := ⟨D - 1, by omega⟩
    obtain ⟨τ1, f1, h1, h2⟩ := p_matom0 (Z := Z) (u := (G_Ma F Z D).1) hF hg ho
    obtain rfl : dp = 6 := by omega
    rw [show (G_Ma F Z (D + 1)).2.2 τ = b_X12_atom F Z (G_Ma F Z D).1 τ from rfl, tA]
    by_cases c : pk B n (sk B n p) = 91
    · rw [if_pos c] at h2 ⊢
      rw [h2.1, p_mgoes0 h1, obs]
      exact resV_0 (if_pos rfl) (fr_tr f1 (fr7 _ _)) (sI_t _ _ ⟨rfl, rfl⟩)
    · rw [if_neg c] at h2 ⊢
      exact resV_pre f1 h2
  | succ d ih =>
    intro dp D hx hD τ p ho
    obtain ⟨D, rfl⟩ : ∃ q, D = q + 3 := ⟨D - 3, by omega⟩
    obtain ⟨τ1, f1, h1, h2⟩ := p_matom0 (Z := Z) (u := (G_Ma F Z (D + 2)).1) hF hg ho
    rw [show (G_Ma F Z (D + 3)).2.2 τ = b_X12_atom F Z (G_Ma F Z (D + 2)).1 τ from rfl, tA_s]
    by_cases c : pk B n (sk B n p) = 91
    · rw [if_pos c] at h2 ⊢
      obtain ⟨υ, g1, g2, g3⟩ := p_mgoes1 (Z := Z) h1 (by omega) h2.2
      have hn := ho.1.1
      have hpg := (tT_PG B n g hg d (sk B n p + 1) h2.2).1
      rw [h2.1, g1, obs]
      dsimp only
      rw [if_neg n10]
      exact resV_pre (fr_tr f1 g2) (p_mclo (c := 93) hF (by omega) (by omega) (p_mtot hF hg (ih (dp + 1) D (by omega) (by omega)) υ _ g3))
    · rw [if_neg c] at h2 ⊢
      exact resV_pre f1 h2
theorem p_mreckon {B : Nat → Nat} {n r bs g F d dp p : Nat} {L : Nat → Int64} {Z : hZ} {τ : hSt} (hF : 300 ≤ F) (hg : g ≤ 1) (hd : dp + d = 6) (ho : okV B n r bs g L τ p dp) : resV B n r bs g L τ dp (tT B n g d p) (f_X12_reckon F Z τ) :=
  p_mtot (D := 28) hF hg (p_matom hF hg d dp 28 hd (by omega)) τ p ho
