/-! what a GIANT says in a round, class -/
def lrS (σ : hSt) (r0 : Nat) (cl w l i n p y : Int) : Prop := σ.2.1 (r0 + 2) 1 = i64 cl ∧ σ.2.1 (r0 + 2) 2 = i64 w ∧ σ.2.1 (r0 + 2) 3 = i64 l ∧ σ.2.1 (r0 + 2) 4 = i64 i ∧ σ.2.1 (r0 + 2) 6 = i64 n ∧ σ.2.1 (r0 + 2) 7 = i64 p ∧ σ.2.1 (r0 + 2) 8 = i64 y ∧ σ.2.1 (r0 + 2) 9 = 0
theorem gL_row {L : Nat → Int64} {t c w l i j n p y : Int} (h0 : L 0 = i64 t) (h1 : L 1 = i64 c) (h2 : L 2 = i64 w) (h3 : L 3 = i64 l) (h4 : L 4 = i64 i) (h5 : L 5 = i64 j) (h6 : L 6 = i64 n) (h7 : L 7 = i64 p) (h8 : L 8 = i64 y) (h9 : L 9 = 0) : ∀ q, q < 10 → L q = gL t c w l i j n p y q := by
  intro q hq
  obtain h | h | h | h | h | h | h | h | h | h : q = 0 ∨ q = 1 ∨ q = 2 ∨ q = 3 ∨ q = 4 ∨ q = 5 ∨ q = 6 ∨ q = 7 ∨ q = 8 ∨ q = 9 := by omega
  all_goals subst h
  · exact h0
  · exact h1
  · exact h2
  · exact h3
  · exact h4
  · exact h5
  · exact h6
  · exact h7
  · exact h8
  · exact h9
theorem jl_g {r0 i : Nat} (hr : r0 = 14 ∨ r0 = 15) (hi : i < 6) : jlen (24 + 6 * (r0 - 14) + i) = 101 := by
  obtain h | h | h | h | h | h : i = 0 ∨ i = 1 ∨ i = 2 ∨ i = 3 ∨ i = 4 ∨ i = 5 := by omega
  all_goals subst h; rcases hr with h | h <;> subst h <;> rfl
theorem i6 {i : Nat} (hi : i < 6) : ¬ i32 (i : Int) < (0 : Int32) ∧ ¬ (6 : Int32) ≤ i32 (i : Int) ∧ ¬ (i32 (i : Int) < (0 : Int32) ∨ 6 ≤ i) ∧ (i32 (i : Int)).toNatClampNeg = i := by
  have a : ¬ i32 (i : Int) < (0 : Int32) := by rw [show (0 : Int32) = i32 0 from rfl, i32_lt (by omega)]; omega
  exact ⟨a, (by rw [show (6 : Int32) = i32 6 from rfl, i32_le (by omega)]; omega), (fun z => by rcases z with z | z; exact a z; omega), i32_cn (by omega)⟩
theorem i0 {j : Nat} (hj : j ≤ 100000) : ¬ i32 (j : Int) < (0 : Int32) := by rw [show (0 : Int32) = i32 0 from rfl, i32_lt (by omega)]; omega
theorem ip1 {i : Nat} : i32 (i : Int) + (1 : Int32) = i32 ((i + 1 : Nat) : Int) := by rw [show (1 : Int32) = i32 1 from rfl, i32_add]; rfl
theorem p_note {Z : hZ} {σ : hSt} {r0 i j : Nat} {x : Int64} (hr : r0 = 14 ∨ r0 = 15) (hi : i < 6) (hj : j ≤ 100) : f_X1_note Z σ r0 (i32 (i : Int)) (i32 (j : Int)) x = some ((), sJ σ (24 + 6 * (r0 - 14) + i) j x) := by
  obtain ⟨a, b, c, d⟩ := i6 hi
  have e := i0 (j := j) (by omega)
  unfold f_X1_note
  rw [if_neg a, if_neg b, if_neg e, d, if_neg c, jl_g hr hi, if_neg (show ¬ Int32.ofNat 101 ≤ i32 (j : Int) by rw [show Int32.ofNat 101 = i32 101 from rfl, i32_le (by omega)]; omega), if_neg c, i32_cn (by omega), if_neg (show ¬ (i32 (j : Int) < (0 : Int32) ∨ 101 ≤ j) from fun z => by rcases z with z | z; exact e z; omega)]
theorem p_saidAt {Z : hZ} {σ : hSt} {r0 i j : Nat} (hr : r0 = 14 ∨ r0 = 15) (hi : i < 6) (hj : j ≤ 100) : f_X1_saidAt Z σ r0 (i32 (i : Int)) (i32 (j : Int)) = some (σ.2.1 (24 + 6 * (r0 - 14) + i) j) := by
  obtain ⟨a, b, c, d⟩ := i6 hi
  have e := i0 (j := j) (by omega)
  unfold f_X1_saidAt
  rw [if_neg a, if_neg b, if_neg e, d, if_neg c, jl_g hr hi, if_pos (show i32 (j : Int) < Int32.ofNat 101 by rw [show Int32.ofNat 101 = i32 101 from rfl, i32_lt (by omega)]; omega), if_neg c, i32_cn (by omega), if_neg (show ¬ (i32 (j : Int) < (0 : Int32) ∨ 101 ≤ j) from fun z => by rcases z with z | z; exact e z; omega)]
theorem lit_c : ((0 : Int32).toNatClampNeg = 0 ∧ (1 : Int32).toNatClampNeg = 1 ∧ (2 : Int32).toNatClampNeg = 2 ∧ (3 : Int32).toNatClampNeg = 3 ∧ (4 : Int32).toNatClampNeg = 4 ∧ (5 : Int32).toNatClampNeg = 5 ∧ (6 : Int32).toNatClampNeg = 6 ∧ (7 : Int32).toNatClampNeg = 7 ∧ (8 : Int32).toNatClampNeg = 8) := by decide
theorem lit_d : (¬ ((0 : Int32) < 0 ∨ 10 ≤ 0) ∧ ¬ ((1 : Int32) < 0 ∨ 10 ≤ 1) ∧ ¬ ((2 : Int32) < 0 ∨ 10 ≤ 2) ∧ ¬ ((3 : Int32) < 0 ∨ 10 ≤ 3) ∧ ¬ ((4 : Int32) < 0 ∨ 10 ≤ 4) ∧ ¬ ((5 : Int32) < 0 ∨ 10 ≤ 5) ∧ ¬ ((6 : Int32) < 0 ∨ 10 ≤ 6) ∧ ¬ ((7 : Int32) < 0 ∨ 10 ≤ 7) ∧ ¬ ((8 : Int32) < 0 ∨ 10 ≤ 8)) := by decide
theorem p_sayL {F : Nat} {Z : hZ} {w3 r0 r1 s tl tg i : Nat} {T : TK} {y cl : Int} {ds : Nat → Int} {υ : hSt} (hF : 1000 ≤ F) (hr : r0 = 14 ∨ r0 = 15) (hw : w3 = r0 + 6 ∨ w3 = r0 + 8) (hz : tkZ Z r1 s tl tg T) (hT : okT T) (hi : i < kN T) : ∀ (k j M : Nat) (σ : hSt), j + k = (kS T i).toNat + 1 → k < M → lrS σ r0 cl (twI T ds i) (lsI ds i) i (kN T) (kP T) y → (∀ q : Nat, q ≤ mjI T i → σ.2.1 w3 q = i64 (trI T ds i (q : Int))) → (∀ q : Nat, q < j → σ.2.1 (24 + 6 * (r0 - 14) + i) q = i64 (sdI T y ds i cl (q : Int))) → ∃ σ', fr [8, r0 + 2, 10000 + 100 * r0 + 13, 24 + 6 * (r0 - 14) + i] σ σ' ∧ f_X1_sayCurve_L69 F Z r0 r1 (w3, υ) (i32 (i : Int)) M σ (i32 (j : Int)) = some ((), σ') ∧ σ'.1 r0 13 = i32 ((i + 1 : Nat) : Int) ∧ lrS σ' r0 cl (twI T ds i) (lsI ds i) i (kN T) (kP T) y ∧ (∀ q : Nat, q ≤ (kS T i).toNat → σ'.2.1 (24 + 6 * (r0 - 14) + i) q = i64 (sdI T y ds i cl (q : Int))) := by
  have hj : jlen w3 = 101 := by
    rcases hr with h | h <;> subst h <;> rcases hw with h | h <;> subst h <;> rfl
  have hN := hT.1
  have hP := hT.2.2.1
  have hS := hT.2.2.2.2.2.1 i (by omega)
  have hm := mj_rg hT (show i < 6 by omega)
  have hmS : (kS T i).toNat ≤ mjI T i := by unfold mjI; split <;> omega
  have hst : ∀ σ, f_X4_steepOf Z σ s (i32 (i : Int)) = some (i32 (kS T i)) := fun σ => p_stp hz.2.2.2.2.2.2.2.2.2.2.2.1 hz.2.2.2.2.2.2.2.2.2.2.2.2.1 (by omega)
  obtain ⟨l0, l1, l2, l3, l4, l5, l6, l7, l8⟩ := lit_c
  obtain ⟨d0, d1, d2, d3, d4, d5, d6, d7, d8⟩ := lit_d
  intro k
  induction k with
  | zero =>
    intro j M σ hjk hM hl ht hs
    obtain ⟨M, rfl⟩ : ∃ q, M = q + 1 := ⟨M - 1, by omega⟩
    refine ⟨sI σ r0 13 (i32 ((i + 1 : Nat) : Int)), fr_sI _ _ (by simp (disch := omega) only [cd_n, cd_p, List.mem_cons, List.mem_singleton, List.not_mem_nil, or_false, false_or, or_true, true_or, not_or, not_false_eq_true, not_true_eq_false, and_true, true_and, and_self] <;> omega), ?_, sI_t _ _ ⟨rfl, rfl⟩, hl, fun q hq => hs q (by omega)⟩
    rw [f_X1_sayCurve_L69, hz.1, oc_1, if_pos hz.2.1, hst, obs, if_pos (show i32 (kS T i) < i32 (j : Int) by rw [i32_lt (by omega)]; omega), ip1]
  | succ k ih =>
    intro j M σ hjk hM hl ht hs
    obtain ⟨M, rfl⟩ : ∃ q, M = q + 1 := ⟨M - 1, by omega⟩
    obtain ⟨y1, y2, y3, y4, y6, y7, y8, y9⟩ := hl
    obtain ⟨σ0, hσ0⟩ : ∃ σ0, σ0 = sJ (sJ σ (r0 + 2) 0 (i64 (trI T ds i (j : Int)))) (r0 + 2) 5 (i64 (j : Int)) := ⟨_, rfl⟩
    have f0 : fr [8, r0 + 2, 10000 + 100 * r0 + 13, 24 + 6 * (r0 - 14) + i] σ σ0 := by
      rw [hσ0]
      exact fr_tr (fr_sJ _ _ (by simp (disch := omega) only [cd_n, cd_p, List.mem_cons, List.mem_singleton, List.not_mem_nil, or_false, false_or, or_true, true_or, not_or, not_false_eq_true, not_true_eq_false, and_true, true_and, and_self] <;> omega)) (fr_sJ _ _ (by simp (disch := omega) only [cd_n, cd_p, List.mem_cons, List.mem_singleton, List.not_mem_nil, or_false, false_or, or_true, true_or, not_or, not_false_eq_true, not_true_eq_false, and_true, true_and, and_self] <;> omega))
    have g : ∀ q, q ≠ 0 → q ≠ 5 → σ0.2.1 (r0 + 2) q = σ.2.1 (r0 + 2) q := fun q h1 h2 => by rw [hσ0, sJ_j _ _ (by omega), sJ_j _ _ (by omega)]
    have g0 : σ0.2.1 (r0 + 2) 0 = i64 (trI T ds i (j : Int)) := by rw [hσ0, sJ_j _ _ (by omega), sJ_t _ _ ⟨rfl, rfl⟩]
    have g5 : σ0.2.1 (r0 + 2) 5 = i64 (j : Int) := by rw [hσ0, sJ_t _ _ ⟨rfl, rfl⟩]
    have hL := gL_row (L := σ0.2.1 (r0 + 2)) g0 ((g 1 (by omega) (by omega)).trans y1) ((g 2 (by omega) (by omega)).trans y2) ((g 3 (by omega) (by omega)).trans y3) ((g 4 (by omega) (by omega)).trans y4) g5 ((g 6 (by omega) (by omega)).trans y6) ((g 7 (by omega) (by omega)).trans y7) ((g 8 (by omega) (by omega)).trans y8) ((g 9 (by omega) (by omega)).trans y9)
    obtain ⟨σ1, a1, a2⟩ := p_saidBy (lab := 118) hF hr (by omega) hz hT hL
    have f1 : fr [8, r0 + 2, 10000 + 100 * r0 + 13, 24 + 6 * (r0 - 14) + i] σ σ1 := fr_tr f0 (fr_mono a2 (fun x hx => by simp only [List.mem_cons, List.not_mem_nil, or_false] at hx ⊢; omega))
    have gg : ∀ q, σ1.2.1 (r0 + 2) q = σ0.2.1 (r0 + 2) q := fun q => by rw [fr_J a2 (r0 + 2) (ob_n (by omega)) (by simp (disch := omega) only [cd_n, cd_p, List.mem_cons, List.mem_singleton, List.not_mem_nil, or_false, false_or, or_true, true_or, not_or, not_false_eq_true, not_true_eq_false, and_true, true_and, and_self] <;> omega)]
    have hw3 : ∀ q, σ1.2.1 w3 q = σ.2.1 w3 q := fun q => by rw [fr_J f1 w3 (ob_n (by omega)) (by simp (disch := omega) only [cd_n, cd_p, List.mem_cons, List.mem_singleton, List.not_mem_nil, or_false, false_or, or_true, true_or, not_or, not_false_eq_true, not_true_eq_false, and_true, true_and, and_self] <;> omega)]
    obtain ⟨σ2, u1, u2, u3, u4, u5⟩ := ih (j + 1) M (sJ σ1 (24 + 6 * (r0 - 14) + i) j (i64 (sdI T y ds i cl (j : Int)))) (by omega) (by omega) (by
      refine ⟨?_, ?_, ?_, ?_, ?_, ?_, ?_, ?_⟩ <;> rw [sJ_r _ _ (by omega), gg, g _ (by omega) (by omega)] <;> assumption) (fun q hq => by
      rw [sJ_r _ _ (by omega), hw3]; exact ht q hq) (fun q hq => by
      by_cases e : q = j
      · rw [sJ_t _ _ ⟨rfl, e⟩, e]
      · rw [sJ_j _ _ (by omega), fr_J a2 (24 + 6 * (r0 - 14) + i) (ob_n (by omega)) (by simp (disch := omega) only [cd_n, cd_p, List.mem_cons, List.mem_singleton, List.not_mem_nil, or_false, false_or, or_true, true_or, not_or, not_false_eq_true, not_true_eq_false, and_true, true_and, and_self] <;> omega), hσ0, sJ_r _ _ (by omega), sJ_r _ _ (by omega)]
        exact hs q (by omega))
    refine ⟨σ2, fr_tr f1 (fr_tr (fr_sJ _ _ (by simp (disch := omega) only [cd_n, cd_p, List.mem_cons, List.mem_singleton, List.not_mem_nil, or_false, false_or, or_true, true_or, not_or, not_false_eq_true, not_true_eq_false, and_true, true_and, and_self] <;> omega)) u1), ?_, u3, u4, u5⟩
    rw [f_X1_sayCurve_L69, hz.1, oc_1, if_pos hz.2.1, hst, obs, if_neg (show ¬ i32 (kS T i) < i32 (j : Int) by rw [i32_lt (by omega)]; omega)]
    dsimp only
    rw [hj, if_neg (show ¬ Int32.ofNat 101 ≤ i32 (j : Int) by rw [show Int32.ofNat 101 = i32 101 from rfl, i32_le (by omega)]; omega), i32_cn (by omega), if_neg (show ¬ (i32 (j : Int) < (0 : Int32) ∨ 101 ≤ j) by rw [show (0 : Int32) = i32 0 from rfl, i32_lt (by omega)]; omega), l0, l5, if_neg d0, if_neg d5, ht j (by omega), i32_l (by omega), ← hσ0, show (118 : Int32) = i32 118 from rfl, a1, obs]
    dsimp only
    rw [p_note hr (by omega) (by omega), obs, ip1]
    exact u2
