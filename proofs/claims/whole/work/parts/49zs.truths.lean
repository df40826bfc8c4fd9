/-! what is true: the class's rows -/
def mjI (T : TK) (i : Nat) : Nat := if 1 < kS T i then (kS T i).toNat else 1
def caS (Z : hZ) (Tf : Nat → TK) (r0 : Nat) (σ : hSt) : Prop := ∀ r1, σ.2.2 r0 7 = some r1 → isTa Z r1 = true ∧ ∀ j : Nat, j ≤ mjI (Tf r1) 0 → σ.2.1 (r0 + 8) j = i64 (trI (Tf r1) (fun _ => 0) 0 (j : Int))
theorem mj_rg {T : TK} {i : Nat} (h : okT T) (hi : i < 6) : 1 ≤ mjI T i ∧ mjI T i ≤ 100 ∧ (mjI T i : Int) < kP T := by
  have h1 := h.2.2.2.2.2.1 i hi
  have h2 := h.2.2.1
  unfold mjI
  split <;> omega
theorem p_stp {Z : hZ} {σ : hSt} {s i : Nat} {T : TK} (h1 : Z.2.1 (s + 2000) = 6) (h2 : ∀ j, j < 6 → Z.2.2.1 (s + 2000) j = i32 (kS T j)) (hi : i < 6) : f_X4_steepOf Z σ s (i32 (i : Int)) = some (i32 (kS T i)) := by
  unfold f_X4_steepOf
  rw [h1, if_neg (show ¬ i32 (i : Int) < (0 : Int32) by rw [show (0 : Int32) = i32 0 from rfl, i32_lt (by omega)]; omega), if_pos (show i32 (i : Int) < Int32.ofNat 6 by rw [show Int32.ofNat 6 = i32 6 from rfl, i32_lt (by omega)]; omega), i32_cn (by omega), if_neg (show ¬ (i32 (i : Int) < (0 : Int32) ∨ 6 ≤ i) by rw [show (0 : Int32) = i32 0 from rfl, i32_lt (by omega)]; omega), h2 i hi]
theorem p_tr36 {Z : hZ} {w3 r0 i : Nat} {ds : Nat → Int} {K : hSt → Option (Nat × hSt)} (hr : r0 = 14 ∨ r0 = 15) (hi : i < 6) : ∀ (k x M : Nat) (σ : hSt), x + k = i → k < M → (∀ q, q < i → σ.2.1 (r0 + 4) q = i64 (ds q)) → rowJ σ 9 ds x → ∃ σ', fr [9] σ σ' ∧ rowJ σ' 9 ds i ∧ f_X1_truthsOf_L36 w3 Z r0 (i32 (i : Int)) K M σ (i32 (x : Int)) = K σ' := by
  intro k
  induction k with
  | zero =>
    intro x M σ hx hM h4 h9
    obtain ⟨M, rfl⟩ : ∃ q, M = q + 1 := ⟨M - 1, by omega⟩
    obtain rfl : x = i := by omega
    refine ⟨σ, fr_rf _ _, h9, ?_⟩
    rw [f_X1_truthsOf_L36, if_pos (Int32.le_refl _)]
  | succ k ih =>
    intro x M σ hx hM h4 h9
    obtain ⟨M, rfl⟩ : ∃ q, M = q + 1 := ⟨M - 1, by omega⟩
    have f0 : fr [9] σ (sJ σ 9 x (i64 (ds x))) := fr_sJ _ _ (by simp (disch := omega) only [cd_n, cd_p, List.mem_cons, List.mem_singleton, List.not_mem_nil, or_false, false_or, or_true, true_or, not_or, not_false_eq_true, not_true_eq_false, and_true, true_and, and_self] <;> omega)
    have h9' : rowJ (sJ σ 9 x (i64 (ds x))) 9 ds (x + 1) := by
      intro q hq
      by_cases e : q = x
      · rw [sJ_t _ _ ⟨rfl, e⟩, e]
      · rw [sJ_j _ _ (by omega)]; exact h9 q (by omega)
    obtain ⟨σ', e1, e2, e3⟩ := ih (x + 1) M (sJ σ 9 x (i64 (ds x))) (by omega) (by omega) (fun q hq => by rw [sJ_r _ _ (by omega)]; exact h4 q hq) h9'
    refine ⟨σ', fr_tr f0 e1, e2, ?_⟩
    rw [f_X1_truthsOf_L36, if_neg (show ¬ i32 (i : Int) ≤ i32 (x : Int) by rw [i32_le (by omega)]; omega), if_neg (show ¬ (6 : Int32) ≤ i32 (x : Int) by rw [show (6 : Int32) = i32 6 from rfl, i32_le (by omega)]; omega), i32_cn (by omega), if_neg (show ¬ (i32 (x : Int) < (0 : Int32) ∨ 6 ≤ x) by rw [show (0 : Int32) = i32 0 from rfl, i32_lt (by omega)]; omega), h4 x (by omega), p_put σ _ (by omega), obs, show i32 (x : Int) + (1 : Int32) = i32 ((x + 1 : Nat) : Int) by rw [show (1 : Int32) = i32 1 from rfl, i32_add]; rfl]
    exact e3
theorem p_tr91 {F : Nat} {Z : hZ} {w3 r0 r1 s tl tg i m : Nat} {T : TK} {ds : Nat → Int} (hF : 1000 ≤ F) (hw : 20 ≤ w3 ∧ w3 ≤ 23) (hz : tkZ Z r1 s tl tg T) (hT : okT T) (hi : i < kN T) (hm : m ≤ 100 ∧ (m : Int) < kP T) (hd : ∀ x, 0 ≤ ds x ∧ ds x < kP T) : ∀ (k j M : Nat) (σ : hSt), j + k = m + 1 → k < M → rowJ σ 9 ds i → (∀ q, q < j → σ.2.1 w3 q = i64 (trI T ds i (q : Int))) → ∃ σ', fr [8, 9, w3] σ σ' ∧ (∀ q, q < m + 1 → σ'.2.1 w3 q = i64 (trI T ds i (q : Int))) ∧ f_X1_truthsOf_L91 w3 F Z r0 r1 (i32 (i : Int)) (i32 (m : Int)) M σ (i32 (j : Int)) = some (w3, if i = 0 then sR σ' r0 7 (some r1) else σ') := by
  have hj : jlen w3 = 101 := by
    obtain h | h | h | h : w3 = 20 ∨ w3 = 21 ∨ w3 = 22 ∨ w3 = 23 := by omega
    all_goals subst h; rfl
  have hN := hT.1
  have hP := hT.2.2.1
  intro k
  induction k with
  | zero =>
    intro j M σ hjk hM h9 hw3
    obtain ⟨M, rfl⟩ : ∃ q, M = q + 1 := ⟨M - 1, by omega⟩
    obtain rfl : j = m + 1 := by omega
    refine ⟨σ, fr_rf _ _, hw3, ?_⟩
    rw [f_X1_truthsOf_L91, if_pos (show i32 (m : Int) < i32 ((m + 1 : Nat) : Int) by rw [i32_lt (by omega)]; omega)]
    by_cases c : i = 0
    · rw [if_pos c, if_pos (show i32 (i : Int) = (0 : Int32) by rw [c]; rfl)]
    · rw [if_neg c, if_neg (show ¬ i32 (i : Int) = (0 : Int32) by rw [show (0 : Int32) = i32 0 from rfl, i32_eq (by omega)]; omega)]
  | succ k ih =>
    intro j M σ hjk hM h9 hw3
    obtain ⟨M, rfl⟩ : ∃ q, M = q + 1 := ⟨M - 1, by omega⟩
    obtain ⟨a1, a2, a3, a4, a5, a6, a7, a8, a9, a10, a11, a12, a13, a14, a15⟩ := hz
    have f0 : fr [8, 9, w3] σ (sJ σ 9 i (i64 (j : Int))) := fr_sJ _ _ (by simp (disch := omega) only [cd_n, cd_p, List.mem_cons, List.mem_singleton, List.not_mem_nil, or_false, false_or, or_true, true_or, not_or, not_false_eq_true, not_true_eq_false, and_true, true_and, and_self] <;> omega)
    obtain ⟨σ1, e1, e2, e3⟩ := pg_over (Z := Z) (r := s) (F := F) (i := i + 1) (p := kP T) (pt := uI ds i (j : Int)) (by omega) a9 a10 hT.2.2.2.1 hT.2.2.2.2.1 (by omega) (uI_in (fun x _ => hd x) (by omega)) (by omega) (sJ σ 9 i (i64 (j : Int))) (rowJ_ex h9)
    have f1 : fr [8, 9, w3] σ σ1 := fr_tr f0 (fr_mono e2 (fun x hx => by simp only [List.mem_cons, List.not_mem_nil, or_false] at hx ⊢; omega))
    obtain ⟨σ2, u1, u2, u3⟩ := ih (j + 1) M (sJ σ1 w3 j (i64 (trI T ds i (j : Int)))) (by omega) (by omega) (fun q hq => by
      rw [sJ_r _ _ (by omega), e3 (by omega) q (by omega), uI_f _ _ (by omega)]) (fun q hq => by
      by_cases e : q = j
      · rw [sJ_t _ _ ⟨rfl, e⟩, e]
      · rw [sJ_j _ _ (by omega), fr_J e2 w3 (ob_n (by omega)) (by simp (disch := omega) only [cd_n, cd_p, List.mem_cons, List.mem_singleton, List.not_mem_nil, or_false, false_or, or_true, true_or, not_or, not_false_eq_true, not_true_eq_false, and_true, true_and, and_self] <;> omega), sJ_r _ _ (by omega)]
        exact hw3 q (by omega))
    refine ⟨σ2, fr_tr f1 (fr_tr (fr_sJ _ _ (by simp (disch := omega) only [cd_n, cd_p, List.mem_cons, List.mem_singleton, List.not_mem_nil, or_false, false_or, or_true, true_or, not_or, not_false_eq_true, not_true_eq_false, and_true, true_and, and_self] <;> omega)) u1), u2, ?_⟩
    rw [f_X1_truthsOf_L91, if_neg (show ¬ i32 (m : Int) < i32 (j : Int) by rw [i32_lt (by omega)]; omega), hj, if_neg (show ¬ Int32.ofNat 101 ≤ i32 (j : Int) by rw [show Int32.ofNat 101 = i32 101 from rfl, i32_le (by omega)]; omega), i32_l (by omega), p_put σ _ (by omega), obs]
    dsimp only
    rw [a1, oc_1, if_pos a2, a8, i32_l (by omega), show i32 (i : Int) + (1 : Int32) = i32 ((i + 1 : Nat) : Int) by rw [show (1 : Int32) = i32 1 from rfl, i32_add]; rfl, e1, obs]
    dsimp only
    rw [i32_cn (by omega), if_neg (show ¬ (i32 (j : Int) < (0 : Int32) ∨ 101 ≤ j) by rw [show (0 : Int32) = i32 0 from rfl, i32_lt (by omega)]; omega), show i32 (j : Int) + (1 : Int32) = i32 ((j + 1 : Nat) : Int) by rw [show (1 : Int32) = i32 1 from rfl, i32_add]; rfl]
    exact u3
theorem p_truths {F : Nat} {Z : hZ} {σ : hSt} {r0 r1 s tl tg i : Nat} {Tf : Nat → TK} {ds : Nat → Int} (hF : 1000 ≤ F) (hr : r0 = 14 ∨ r0 = 15) (hz : tkZ Z r1 s tl tg (Tf r1)) (hT : okT (Tf r1)) (hi : i < kN (Tf r1)) (hd : ∀ x, 0 ≤ ds x ∧ ds x < kP (Tf r1)) (hd0 : ∀ x, i ≤ x → ds x = 0) (h4 : ∀ q, q < i → σ.2.1 (r0 + 4) q = i64 (ds q)) (hc : caS Z Tf r0 σ) : ∃ σ' w3, f_X1_truthsOf F Z σ r0 r1 (i32 (i : Int)) = some (w3, σ') ∧ (w3 = r0 + 6 ∨ w3 = r0 + 8) ∧ fr [8, 9, r0 + 6, r0 + 8, 10000 + 100 * r0 + 7] σ σ' ∧ (∀ j : Nat, j ≤ mjI (Tf r1) i → σ'.2.1 w3 j = i64 (trI (Tf r1) ds i (j : Int))) ∧ caS Z Tf r0 σ' := by
  have hN := hT.1
  have hP := hT.2.2.1
  have hm := mj_rg hT (show i < 6 by omega)
  have hS := hT.2.2.2.2.2.1 i (by omega)
  have core : ∀ w3, w3 = r0 + 6 ∨ w3 = r0 + 8 → (i = 0 → w3 = r0 + 8) → (¬ i = 0 → w3 = r0 + 6) → ∃ σ', f_X1_truthsOf_L36 w3 Z r0 (i32 (i : Int)) (fun σ1 => (oc (Z.2.2.2 r1 0) (none) (fun r34 => if isSa Z r34 = true then (f_X4_steepOf Z σ1 r34 (i32 (i : Int))).bind fun q35 => f_X1_truthsOf_L91 w3 F Z r0 r1 (i32 (i : Int)) (if (1 : Int32) < q35 then q35 else 1) F σ1 0 else none))) F σ 0 = some (w3, σ') ∧ fr [8, 9, r0 + 6, r0 + 8, 10000 + 100 * r0 + 7] σ σ' ∧ (∀ j : Nat, j ≤ mjI (Tf r1) i → σ'.2.1 w3 j = i64 (trI (Tf r1) ds i (j : Int))) ∧ caS Z Tf r0 σ' := by
    intro w3 hw h0 h1
    obtain ⟨σ1, a1, a2, a3⟩ := p_tr36 (Z := Z) (w3 := w3) (K := (fun σ1 => (oc (Z.2.2.2 r1 0) (none) (fun r34 => if isSa Z r34 = true then (f_X4_steepOf Z σ1 r34 (i32 (i : Int))).bind fun q35 => f_X1_truthsOf_L91 w3 F Z r0 r1 (i32 (i : Int)) (if (1 : Int32) < q35 then q35 else 1) F σ1 0 else none)))) hr (show i < 6 by omega) i 0 F σ (by omega) (by omega) h4 (fun q hq => absurd hq (Nat.not_lt_zero q))
    obtain ⟨σ2, b1, b2, b3⟩ := p_tr91 (F := F) (w3 := w3) (r0 := r0) (m := mjI (Tf r1) i) (ds := ds) hF (by omega) hz hT hi hm.2 hd (mjI (Tf r1) i + 1) 0 F σ1 (by omega) (by omega) a2 (fun q hq => absurd hq (Nat.not_lt_zero q))
    have em : (if (1 : Int32) < i32 (kS (Tf r1) i) then i32 (kS (Tf r1) i) else 1) = i32 (mjI (Tf r1) i : Int) := by
      unfold mjI
      by_cases c : 1 < kS (Tf r1) i
      · rw [if_pos (show (1 : Int32) < i32 (kS (Tf r1) i) by rw [show (1 : Int32) = i32 1 from rfl, i32_lt (by omega)]; exact c), if_pos c]; congr 1; omega
      · rw [if_neg (show ¬ (1 : Int32) < i32 (kS (Tf r1) i) by rw [show (1 : Int32) = i32 1 from rfl, i32_lt (by omega)]; exact c), if_neg c]; rfl
    have f2 : fr [8, 9, r0 + 6, r0 + 8, 10000 + 100 * r0 + 7] σ σ2 := fr_tr (fr_mono a1 (fun x hx => by simp only [List.mem_cons, List.not_mem_nil, or_false] at hx ⊢; omega)) (fr_mono b1 (fun x hx => by simp only [List.mem_cons, List.not_mem_nil, or_false] at hx ⊢; omega))
    have e0 : f_X1_truthsOf_L36 w3 Z r0 (i32 (i : Int)) (fun σ1 => (oc (Z.2.2.2 r1 0) (none) (fun r34 => if isSa Z r34 = true then (f_X4_steepOf Z σ1 r34 (i32 (i : Int))).bind fun q35 => f_X1_truthsOf_L91 w3 F Z r0 r1 (i32 (i : Int)) (if (1 : Int32) < q35 then q35 else 1) F σ1 0 else none))) F σ 0 = some (w3, if i = 0 then sR σ2 r0 7 (some r1) else σ2) := by
      refine Eq.trans a3 ?_
      rw [hz.1, oc_1, if_pos hz.2.1, p_stp hz.2.2.2.2.2.2.2.2.2.2.2.1 hz.2.2.2.2.2.2.2.2.2.2.2.2.1 (by omega), obs, em]
      exact b3
    by_cases c : i = 0
    · rw [if_pos c] at e0
      refine ⟨_, e0, fr_tr f2 (fr_sR _ _ (by simp (disch := omega) only [cd_n, cd_p, List.mem_cons, List.mem_singleton, List.not_mem_nil, or_false, false_or, or_true, true_or, not_or, not_false_eq_true, not_true_eq_false, and_true, true_and, and_self] <;> omega)), fun j hj => b2 j (by omega), fun r2 h2 => ?_⟩
      rw [sR_t _ _ ⟨rfl, rfl⟩] at h2
      obtain rfl : r1 = r2 := Option.some.inj h2
      refine ⟨hz.2.2.2.2.2.2.1, fun j hj => ?_⟩
      have hds : ds = fun _ => 0 := funext fun x => hd0 x (by omega)
      subst c
      have := b2 j (by omega)
      rw [h0 rfl, hds] at this
      exact this
    · rw [if_neg c] at e0
      refine ⟨_, e0, f2, fun j hj => b2 j (by omega), fun r2 h2 => ?_⟩
      have hw6 := h1 c
      rw [b1.2.2.1 r0 7 (by simp (disch := omega) only [cd_n, cd_p, List.mem_cons, List.mem_singleton, List.not_mem_nil, or_false, false_or, or_true, true_or, not_or, not_false_eq_true, not_true_eq_false, and_true, true_and, and_self] <;> omega), a1.2.2.1 r0 7 (by simp (disch := omega) only [cd_n, cd_p, List.mem_cons, List.mem_singleton, List.not_mem_nil, or_false, false_or, or_true, true_or, not_or, not_false_eq_true, not_true_eq_false, and_true, true_and, and_self] <;> omega)] at h2
      refine ⟨(hc r2 h2).1, fun j hj => ?_⟩
      rw [fr_J b1 (r0 + 8) (ob_n (by omega)) (by simp (disch := omega) only [cd_n, cd_p, List.mem_cons, List.mem_singleton, List.not_mem_nil, or_false, false_or, or_true, true_or, not_or, not_false_eq_true, not_true_eq_false, and_true, true_and, and_self] <;> omega), fr_J a1 (r0 + 8) (ob_n (by omega)) (by simp (disch := omega) only [cd_n, cd_p, List.mem_cons, List.mem_singleton, List.not_mem_nil, or_false, false_or, or_true, true_or, not_or, not_false_eq_true, not_true_eq_false, and_true, true_and, and_self] <;> omega)]
      exact (hc r2 h2).2 j hj
  unfold f_X1_truthsOf
  by_cases c : i = 0
  · have c2 : i32 (i : Int) = (0 : Int32) := by rw [c]; rfl
    obtain ⟨σ', e1, e2, e3, e4⟩ := core (r0 + 8) (Or.inr rfl) (fun _ => rfl) (fun z => absurd c z)
    simp only [if_pos c2]
    cases h7 : σ.2.2 r0 7 with
    | none => exact ⟨σ', r0 + 8, e1, Or.inr rfl, e2, e3, e4⟩
    | some r26 =>
      rw [oc_1, if_pos (hc r26 h7).1]
      by_cases d : r26 = r1
      · rw [if_pos d]
        refine ⟨σ, r0 + 8, rfl, Or.inr rfl, fr_rf _ _, fun j hj => ?_, hc⟩
        have hds : ds = fun _ => 0 := funext fun x => hd0 x (by omega)
        subst c
        subst d
        rw [hds]
        exact (hc r26 h7).2 j hj
      · rw [if_neg d]
        exact ⟨σ', r0 + 8, e1, Or.inr rfl, e2, e3, e4⟩
  · have c2 : ¬ i32 (i : Int) = (0 : Int32) := by rw [show (0 : Int32) = i32 0 from rfl, i32_eq (by omega)]; omega
    obtain ⟨σ', e1, e2, e3, e4⟩ := core (r0 + 6) (Or.inl rfl) (fun z => absurd z c) (fun _ => rfl)
    rw [if_neg c2, if_neg c2]
    exact ⟨σ', r0 + 6, e1, Or.inl rfl, e2, e3, e4⟩
