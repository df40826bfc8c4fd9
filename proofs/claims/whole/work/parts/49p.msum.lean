/-! SUMS, model -/
theorem look2 {B : Nat → Nat} {n r bs g p dp F : Nat} {L : Nat → Int64} {Z : hZ} {τ : hSt} (hF : 300 ≤ F) (h : okV B n r bs g L τ p dp) : ∃ τ1, τ1 = sI τ 200 6 (i32 (sk B n p : Int)) ∧ f_X12_look F Z τ = some (i32 (lkV B n (sk B n p)), τ1) ∧ f_X12_look F Z τ1 = some (i32 (lkV B n (sk B n p)), τ1) ∧ fr WV τ τ1 ∧ okV B n r bs g L τ1 (sk B n p) dp ∧ sI τ1 200 6 (τ1.1 200 6 + (1 : Int32)) = sI τ 200 6 (i32 ((sk B n p + 1 : Nat) : Int)) := by
  have hs := sk_rg (B := B) h.1.2.1
  have h1 := okV_at h hs.2
  have e2 := p_look (Z := Z) hF h1.1
  rw [sk_sk, sI_sI] at e2
  refine ⟨_, rfl, p_look hF h.1, e2, fr6 _ _, h1, ?_⟩
  rw [sI_t _ _ ⟨rfl, rfl⟩, sI_sI, i32_lit, i32_add]
  rfl
theorem lk_y {B : Nat → Nat} {n r bs g p dp q : Nat} {L : Nat → Int64} {τ : hSt} (h : okV B n r bs g L τ p dp) {c : Nat} (hc : 1 ≤ c ∧ c ≤ 255) (hq : pk B n q = c) : i32 (lkV B n q) = i32 (c : Int) := (lkV_pk (txM_b h.1) hc).mpr hq
theorem lk_n {B : Nat → Nat} {n r bs g p dp q : Nat} {L : Nat → Int64} {τ : hSt} (h : okV B n r bs g L τ p dp) {c : Nat} (hc : 1 ≤ c ∧ c ≤ 255) (hq : ¬ pk B n q = c) : ¬ i32 (lkV B n q) = i32 (c : Int) := fun z => hq ((lkV_pk (txM_b h.1) hc).mp z)
theorem n00 : (0 : Int32) = 0 := rfl
theorem lp_reckon {B : Nat → Nat} {n r bs g dp F : Nat} {L : Nat → Int64} {Z : hZ} {u : hSt → Option (Int64 × hSt)} (hF : 300 ≤ F) : lpV B n r bs g dp 43 45 L u (f_X12_reckon_L5 F Z u) := by
  refine ⟨?_, ?_, ?_⟩
  · intro N τ p z h hz
    obtain ⟨τ1, t0, e1, e2, f1, h1, e3⟩ := look2 (Z := Z) hF h
    have hp : ∀ {c : Nat}, pk B n (sk B n p) = c → c ≠ 0 → okV B n r bs g L (sI τ 200 6 (i32 ((sk B n p + 1 : Nat) : Int))) (sk B n p + 1) dp ∧ sk B n p < n := fun q w => by
      have hlt := pkp_lt (show pk B n (sk B n p) ≠ 0 by omega)
      exact ⟨okV_at h hlt, hlt⟩
    rw [f_X12_reckon_L5, h.2.1, if_pos m1, e1, obs]
    dsimp only
    by_cases q : pk B n (sk B n p) = 43
    · obtain ⟨h2, h3⟩ := hp q (by decide)
      refine ⟨_, fr6 τ (i32 ((sk B n p + 1 : Nat) : Int)), ?_⟩
      rw [if_pos (show isC2 43 45 (pk B n (sk B n p)) = true by rw [q]; rfl)]
      refine ⟨h2, h3, ?_⟩
      rw [if_pos (show i32 (lkV B n (sk B n p)) = (43 : Int32) from lk_y h (by decide) q), e2, obs]
      dsimp only
      rw [if_pos (show i32 (lkV B n (sk B n p)) = (43 : Int32) from lk_y h (by decide) q), e3, q]
      refine congrArg (fun f => (u _).bind f) (funext fun y => ?_)
      rw [if_neg n10]
      rfl
    · rw [if_neg (show ¬ i32 (lkV B n (sk B n p)) = (43 : Int32) from lk_n h (by decide) q), e2, obs]
      dsimp only
      by_cases q2 : pk B n (sk B n p) = 45
      · obtain ⟨h2, h3⟩ := hp q2 (by decide)
        refine ⟨_, fr6 τ (i32 ((sk B n p + 1 : Nat) : Int)), ?_⟩
        rw [if_pos (show isC2 43 45 (pk B n (sk B n p)) = true by rw [q2]; rfl)]
        refine ⟨h2, h3, ?_⟩
        rw [if_pos (show i32 (lkV B n (sk B n p)) = (45 : Int32) from lk_y h (by decide) q2), e2, obs]
        dsimp only
        rw [if_neg (show ¬ i32 (lkV B n (sk B n p)) = (43 : Int32) from lk_n h (by decide) q), e3, q2]
        refine congrArg (fun f => (u _).bind f) (funext fun y => ?_)
        rw [if_pos n00]
        rfl
      · rw [if_neg (show ¬ i32 (lkV B n (sk B n p)) = (45 : Int32) from lk_n h (by decide) q2)]
        refine ⟨τ1, f1, ?_⟩
        rw [if_neg (show ¬ isC2 43 45 (pk B n (sk B n p)) = true by unfold isC2; simp only [Bool.or_eq_true, beq_iff_eq]; omega)]
        exact ⟨h1, rfl⟩
  · intro N τ z h
    rw [f_X12_reckon_L5, if_neg h]
  · intro c z w hc hz
    unfold isC2 at hc
    simp only [Bool.or_eq_true, beq_iff_eq] at hc
    rcases hc with rfl | rfl
    · exact clp_bd _
    · exact clp_bd _
theorem lp_term {B : Nat → Nat} {n r bs g dp F : Nat} {L : Nat → Int64} {Z : hZ} {u : hSt → Option (Int64 × hSt)} (hF : 300 ≤ F) : lpV B n r bs g dp 42 47 L u (f_X12_term_L5 F Z u) := by
  have bd0 : bd (0 : Int64) := bd_i (v := 0) (by omega)
  refine ⟨?_, ?_, ?_⟩
  · intro N τ p z h hz
    obtain ⟨τ1, t0, e1, e2, f1, h1, e3⟩ := look2 (Z := Z) hF h
    have hp : ∀ {c : Nat}, pk B n (sk B n p) = c → c ≠ 0 → okV B n r bs g L (sI τ 200 6 (i32 ((sk B n p + 1 : Nat) : Int))) (sk B n p + 1) dp ∧ sk B n p < n := fun q w => by
      have hlt := pkp_lt (show pk B n (sk B n p) ≠ 0 by omega)
      exact ⟨okV_at h hlt, hlt⟩
    rw [f_X12_term_L5, h.2.1, if_pos m1, e1, obs]
    dsimp only
    by_cases q : pk B n (sk B n p) = 42
    · obtain ⟨h2, h3⟩ := hp q (by decide)
      refine ⟨_, fr6 τ (i32 ((sk B n p + 1 : Nat) : Int)), ?_⟩
      rw [if_pos (show isC2 42 47 (pk B n (sk B n p)) = true by rw [q]; rfl)]
      refine ⟨h2, h3, ?_⟩
      rw [if_pos (show i32 (lkV B n (sk B n p)) = (42 : Int32) from lk_y h (by decide) q), e2, obs]
      dsimp only
      rw [if_pos (show i32 (lkV B n (sk B n p)) = (42 : Int32) from lk_y h (by decide) q), e3, q]
      refine congrArg (fun f => (u _).bind f) (funext fun y => ?_)
      rw [if_neg n10]
      rfl
    · rw [if_neg (show ¬ i32 (lkV B n (sk B n p)) = (42 : Int32) from lk_n h (by decide) q), e2, obs]
      dsimp only
      by_cases q2 : pk B n (sk B n p) = 47
      · obtain ⟨h2, h3⟩ := hp q2 (by decide)
        refine ⟨_, fr6 τ (i32 ((sk B n p + 1 : Nat) : Int)), ?_⟩
        rw [if_pos (show isC2 42 47 (pk B n (sk B n p)) = true by rw [q2]; rfl)]
        refine ⟨h2, h3, ?_⟩
        rw [if_pos (show i32 (lkV B n (sk B n p)) = (47 : Int32) from lk_y h (by decide) q2), e2, obs]
        dsimp only
        rw [if_neg (show ¬ i32 (lkV B n (sk B n p)) = (42 : Int32) from lk_n h (by decide) q), e3, q2]
        refine congrArg (fun f => (u _).bind f) (funext fun y => ?_)
        rw [if_pos n00, show i32 ((47 : Nat) : Int) = i32 47 from rfl, wk_47]
        by_cases y0 : y.1 = 0
        · rw [if_pos y0, if_pos y0, p_within, obs, clp_id bd0]
        · rw [if_neg y0, if_neg y0, if_neg y0, p_within, obs, clp_id (bd_div hz)]
      · rw [if_neg (show ¬ i32 (lkV B n (sk B n p)) = (47 : Int32) from lk_n h (by decide) q2)]
        refine ⟨τ1, f1, ?_⟩
        rw [if_neg (show ¬ isC2 42 47 (pk B n (sk B n p)) = true by unfold isC2; simp only [Bool.or_eq_true, beq_iff_eq]; omega)]
        exact ⟨h1, rfl⟩
  · intro N τ z h
    rw [f_X12_term_L5, if_neg h]
  · intro c z w hc hz
    unfold isC2 at hc
    simp only [Bool.or_eq_true, beq_iff_eq] at hc
    rcases hc with rfl | rfl
    · exact clp_bd _
    · show bd (wk (i32 47) z w)
      rw [wk_47]
      split
      · exact bd0
      · exact bd_div hz
/-! numbers -/
theorem p_mnum {B : Nat → Nat} {n r bs g dp : Nat} {L : Nat → Int64} {Z : hZ} : ∀ (k p i N : Nat) (v : Int) (τ : hSt), i + k = 4 → k < N → 0 ≤ v → v < 10 ^ i → okV B n r bs g L τ p dp → resV B n r bs g L τ dp (nuN B n k p v) (f_X12_atom_L98 Z (fun σ1 => (f_X12_fails Z σ1).bind fun q14 => some ((0 : Int64), q14.2)) N τ (i64 v) (i32 (i : Int))) := by
  intro k
  induction k with
  | zero =>
    intro p i N v τ hi hN hv hv2 ho
    obtain ⟨N, rfl⟩ : ∃ q, N = q + 1 := ⟨N - 1, by omega⟩
    obtain rfl : i = 4 := by omega
    rw [f_X12_atom_L98, p_mIsDigit ho.1, obs, nuN]
    by_cases c : dg B n p = true
    · rw [if_pos c, c, b01t, if_neg n10, ho.2.1, if_pos m1, if_pos (show i32 ((4 : Nat) : Int) = (4 : Int32) from rfl), okV_f ho, obs]
      exact resV_0 rfl (fr7 _ _) (sI_t _ _ ⟨rfl, rfl⟩)
    · have c2 : dg B n p = false := by cases h : dg B n p with
        | false => rfl
        | true => exact absurd h c
      rw [if_neg c, c2, b01f, if_pos rfl]
      refine ⟨τ, _, rfl, fr_rf _ _, fun _ => ⟨ho, bd_i (by omega), fun s => ?_⟩, fun z => by cases z⟩
      rw [evS, evS]
      unfold eop
      rw [if_pos (show v < 10000 by omega)]
  | succ k ih =>
    intro p i N v τ hi hN hv hv2 ho
    obtain ⟨N, rfl⟩ : ∃ q, N = q + 1 := ⟨N - 1, by omega⟩
    have h10 : (10 : Int) ^ (i + 1) = 10 ^ i * 10 := Int.pow_succ 10 i
    have hle : (10 : Int) ^ i ≤ 1000 := by
      have : i = 0 ∨ i = 1 ∨ i = 2 ∨ i = 3 := by omega
      rcases this with rfl | rfl | rfl | rfl <;> decide
    rw [f_X12_atom_L98, p_mIsDigit ho.1, obs, nuN]
    by_cases c : dg B n p = true
    · have hd := dg_b c
      have h1 := okV_at ho (show p + 1 ≤ n by omega)
      obtain ⟨a1, a2, a3, a4, a5, a6, a7, a8, a9⟩ := ho.1
      have hb := (a9 p hd.1).1
      have hbl := blen_le (r := r)
      have e1 : ((bs : Int) + (p : Int)).toNat = bs + p := by omega
      have es : sgB (B p) = (B p : Int) := by unfold sgB; rw [if_pos (by omega)]
      rw [es] at hb
      have i1 := ih (p + 1) (i + 1) N (v * 10 + (B p : Int) - 48) _ (by omega) (by omega) (by omega) (by rw [h10]; omega) h1
      rw [if_pos c, c, b01t, if_neg n10, ho.2.1, if_pos m1, if_neg (show ¬ i32 (i : Int) = (4 : Int32) by rw [show (4 : Int32) = i32 4 from rfl, i32_eq (by omega)]; omega)]
      refine resV_pre (fr6 τ (i32 ((p + 1 : Nat) : Int))) ?_
      have ev : (10 : Int64) * i64 v + i64 (B p : Int) - (48 : Int64) = i64 (v * 10 + (B p : Int) - 48) := by
        rw [show (10 : Int64) = i64 10 from rfl, show (48 : Int64) = i64 48 from rfl, i64_mul, i64_add, i64_sub, Int.mul_comm 10 v]
      have ei : i32 (i : Int) + (1 : Int32) = i32 ((i + 1 : Nat) : Int) := by rw [show (1 : Int32) = i32 1 from rfl, i32_add]; rfl
      have ep : i32 (p : Int) + (1 : Int32) = i32 ((p + 1 : Nat) : Int) := by rw [show (1 : Int32) = i32 1 from rfl, i32_add]; rfl
      have x0 : ¬ (i32 ((bs : Int) + (p : Int)) < (0 : Int32) ∨ blen r ≤ bs + p) := by rw [show (0 : Int32) = i32 0 from rfl, i32_lt (by omega)]; omega
      rw [a5]
      unfold oc
      dsimp only
      rw [a3, if_pos rfl, a6, a8, i32_add, i32_cl (by omega), e1, hb, i32_l (by omega), ev, ei, ep]
      rw [if_neg x0]
      exact i1
    · have c2 : dg B n p = false := by cases h : dg B n p with
        | false => rfl
        | true => exact absurd h c
      rw [if_neg c, c2, b01f, if_pos rfl]
      refine ⟨τ, _, rfl, fr_rf _ _, fun _ => ⟨ho, bd_i (by omega), fun s => ?_⟩, fun z => by cases z⟩
      rw [evS, evS]
      unfold eop
      rw [if_pos (show v < 10000 by omega)]
