/-! what a GIANT says in a round, model -/
theorem p_mtrueL {x1 x3 x4 : Int32} {i : Nat} {ds : Nat → Int} {K : hSt → Option (Int64 × hSt)} (hi : i < 6) : ∀ (k z M : Nat) (τ : hSt), z + k = i → k < M → (∀ q, q < i → τ.2.1 218 q = i64 (ds q)) → rowJ τ 208 ds z → ∃ υ, fr [208] τ υ ∧ rowJ υ 208 ds i ∧ f_X12_trueAt_L11 x1 (i32 (i : Int)) x3 x4 K M τ (i32 (z : Int)) = K υ := by
  intro k
  induction k with
  | zero =>
    intro z M τ hz hM h4 h9
    obtain ⟨M, rfl⟩ : ∃ q, M = q + 1 := ⟨M - 1, by omega⟩
    obtain rfl : z = i := by omega
    refine ⟨τ, fr_rf _ _, h9, ?_⟩
    rw [f_X12_trueAt_L11, if_pos (Int32.le_refl _)]
  | succ k ih =>
    intro z M τ hz hM h4 h9
    obtain ⟨M, rfl⟩ : ∃ q, M = q + 1 := ⟨M - 1, by omega⟩
    obtain ⟨a, b, c, e⟩ := i6 (show z < 6 by omega)
    have h9' : rowJ (sJ τ 208 z (i64 (ds z))) 208 ds (z + 1) := by
      intro q hq
      by_cases e : q = z
      · rw [sJ_t _ _ ⟨rfl, e⟩, e]
      · rw [sJ_j _ _ (by omega)]; exact h9 q (by omega)
    obtain ⟨υ, e1, e2, e3⟩ := ih (z + 1) M (sJ τ 208 z (i64 (ds z))) (by omega) (by omega) (fun q hq => by rw [sJ_r _ _ (by omega)]; exact h4 q hq) h9'
    refine ⟨υ, fr_tr (fr_sJ _ _ (by simp (disch := omega) only [cd_n, cd_p, List.mem_cons, List.mem_singleton, List.not_mem_nil, or_false, false_or, or_true, true_or, not_or, not_false_eq_true, not_true_eq_false, and_true, true_and, and_self] <;> omega)) e1, e2, ?_⟩
    rw [f_X12_trueAt_L11, if_neg (show ¬ i32 (i : Int) ≤ i32 (z : Int) by rw [i32_le (by omega)]; omega), e, if_neg c, if_neg c, h4 z (by omega), ip1]
    exact e3
theorem p_mtrueAt {x s kl kg nl ng F i j : Nat} {Bl Bg : Nat → Nat} {T : TK} {Z : hZ} {τ : hSt} {ds : Nat → Int} (hF : 300 ≤ F) (hT : okT T) (h : tkM x s kl kg nl ng Bl Bg T τ) (hi : i < kN T) (hj : (j : Int) < kP T) (hd : ∀ x, 0 ≤ ds x ∧ ds x < kP T) (h4 : ∀ q, q < i → τ.2.1 218 q = i64 (ds q)) : ∃ υ, f_X12_trueAt F Z τ (i32 (x : Int)) (i32 (i : Int)) (i32 (j : Int)) = some (i64 (trI T ds i (j : Int)), υ) ∧ fr [207, 208] τ υ := by
  have hN := hT.1
  have hP := hT.2.2.1
  have h0 := h
  obtain ⟨h1, h2, h3, hh4, h5, h6, h7, h8, h9, h10, h11, h12⟩ := h
  have hx := ix_ok h1 (by omega)
  obtain ⟨a, b, c, e⟩ := i6 (show i < 6 by omega)
  obtain ⟨τ1, a1, a2, a3⟩ := p_mtrueL (x1 := i32 (x : Int)) (x3 := i32 (j : Int)) (x4 := i32 (kP T)) (ds := ds) (K := (fun σ1 => if i32 (kP T) = 0 then none else if i32 (i : Int) < 0 ∨ 6 ≤ (i32 (i : Int)).toNatClampNeg then none else if i32 (x : Int) < 0 ∨ 12 ≤ (i32 (x : Int)).toNatClampNeg then none else (f_X12_sumFrom F Z (sJ σ1 208 ((i32 (i : Int)).toNatClampNeg) (((i32 (j : Int) - i32 (j : Int) / i32 (kP T) * i32 (kP T)) : Int32).toInt64)) (σ1.1 214 ((i32 (x : Int)).toNatClampNeg)) (i32 (i : Int) + 1) ((i32 (kP T)).toInt64)).bind fun q8 => some (q8.1, q8.2))) (show i < 6 by omega) i 0 F τ (by omega) (by omega) h4 (fun q hq => absurd hq (Nat.not_lt_zero q))
  obtain ⟨υ, b1, b2, b3⟩ := pg_msum (Z := Z) (F := F) hF hT.2.2.2.1 hT.2.2.2.2.1 (p := kP T) (by omega) (kN T - (i + 1)) (i + 1) 8 (sJ τ1 208 i (i64 (j : Int))) (uI ds i (j : Int)) (by omega) (by omega) (mSg_fr (fr_tr a1 (fr_sJ _ _ (by simp (disch := omega) only [cd_n, cd_p, List.mem_cons, List.mem_singleton, List.not_mem_nil, or_false, false_or, or_true, true_or, not_or, not_false_eq_true, not_true_eq_false, and_true, true_and, and_self] <;> omega))) (by decide) (by decide) h12) (by rw [sJ_1, fr_I a1 204 rfl (by decide)]; exact h6.2.2.2.2.2.1) (rowJ_ex a2) (uI_in (fun x _ => hd x) (by omega))
  refine ⟨υ, ?_, fr_tr (fr_mono a1 (by decide)) (fr_tr (fr_sJ _ _ (by simp (disch := omega) only [cd_n, cd_p, List.mem_cons, List.mem_singleton, List.not_mem_nil, or_false, false_or, or_true, true_or, not_or, not_false_eq_true, not_true_eq_false, and_true, true_and, and_self] <;> omega)) b2)⟩
  unfold f_X12_trueAt
  rw [i32_cn (by omega), if_neg hx, h3]
  rw [i32_cn (show x ≤ 2147483647 by omega)] at a3
  refine Eq.trans a3 ?_
  rw [if_neg (show ¬ i32 (kP T) = (0 : Int32) by rw [show (0 : Int32) = i32 0 from rfl, i32_eq (by omega)]; omega), e, if_neg c, if_neg hx, i32_rem (by omega), Int.emod_eq_of_lt (by omega) hj, i32_l (by omega), i32_l (by omega), fr_I a1 214 rfl (by decide), h2, ip1]
  unfold f_X12_sumFrom
  rw [b1, obs]
  rfl
theorem WG_mem : ∀ x ∈ WG, x ∈ 207 :: 208 :: 213 :: 219 :: WG := fun x hx => List.mem_cons_of_mem _ (List.mem_cons_of_mem _ (List.mem_cons_of_mem _ (List.mem_cons_of_mem _ hx)))
def WP : List Nat := 207 :: 208 :: 213 :: 219 :: WG
theorem WP_T : ∀ x ∈ WP, x ∈ WT_ := by decide
theorem lt_mz {τ : hSt} {t c w l i j n p y : Int} : (sJ (sJ (sJ (sJ (sJ (sJ (sJ (sJ (sJ τ 213 116 (i64 t)) 213 99 (i64 c)) 213 119 (i64 w)) 213 108 (i64 l)) 213 105 (i64 i)) 213 106 (i64 j)) 213 110 (i64 n)) 213 112 (i64 p)) 213 121 (i64 y)).2.1 213 116 = i64 t ∧ (sJ (sJ (sJ (sJ (sJ (sJ (sJ (sJ (sJ τ 213 116 (i64 t)) 213 99 (i64 c)) 213 119 (i64 w)) 213 108 (i64 l)) 213 105 (i64 i)) 213 106 (i64 j)) 213 110 (i64 n)) 213 112 (i64 p)) 213 121 (i64 y)).2.1 213 99 = i64 c ∧ (sJ (sJ (sJ (sJ (sJ (sJ (sJ (sJ (sJ τ 213 116 (i64 t)) 213 99 (i64 c)) 213 119 (i64 w)) 213 108 (i64 l)) 213 105 (i64 i)) 213 106 (i64 j)) 213 110 (i64 n)) 213 112 (i64 p)) 213 121 (i64 y)).2.1 213 119 = i64 w ∧ (sJ (sJ (sJ (sJ (sJ (sJ (sJ (sJ (sJ τ 213 116 (i64 t)) 213 99 (i64 c)) 213 119 (i64 w)) 213 108 (i64 l)) 213 105 (i64 i)) 213 106 (i64 j)) 213 110 (i64 n)) 213 112 (i64 p)) 213 121 (i64 y)).2.1 213 108 = i64 l ∧ (sJ (sJ (sJ (sJ (sJ (sJ (sJ (sJ (sJ τ 213 116 (i64 t)) 213 99 (i64 c)) 213 119 (i64 w)) 213 108 (i64 l)) 213 105 (i64 i)) 213 106 (i64 j)) 213 110 (i64 n)) 213 112 (i64 p)) 213 121 (i64 y)).2.1 213 105 = i64 i ∧ (sJ (sJ (sJ (sJ (sJ (sJ (sJ (sJ (sJ τ 213 116 (i64 t)) 213 99 (i64 c)) 213 119 (i64 w)) 213 108 (i64 l)) 213 105 (i64 i)) 213 106 (i64 j)) 213 110 (i64 n)) 213 112 (i64 p)) 213 121 (i64 y)).2.1 213 106 = i64 j ∧ (sJ (sJ (sJ (sJ (sJ (sJ (sJ (sJ (sJ τ 213 116 (i64 t)) 213 99 (i64 c)) 213 119 (i64 w)) 213 108 (i64 l)) 213 105 (i64 i)) 213 106 (i64 j)) 213 110 (i64 n)) 213 112 (i64 p)) 213 121 (i64 y)).2.1 213 110 = i64 n ∧ (sJ (sJ (sJ (sJ (sJ (sJ (sJ (sJ (sJ τ 213 116 (i64 t)) 213 99 (i64 c)) 213 119 (i64 w)) 213 108 (i64 l)) 213 105 (i64 i)) 213 106 (i64 j)) 213 110 (i64 n)) 213 112 (i64 p)) 213 121 (i64 y)).2.1 213 112 = i64 p ∧ (sJ (sJ (sJ (sJ (sJ (sJ (sJ (sJ (sJ τ 213 116 (i64 t)) 213 99 (i64 c)) 213 119 (i64 w)) 213 108 (i64 l)) 213 105 (i64 i)) 213 106 (i64 j)) 213 110 (i64 n)) 213 112 (i64 p)) 213 121 (i64 y)).2.1 213 121 = i64 y := by
  refine ⟨?_, ?_, ?_, ?_, ?_, ?_, ?_, ?_, ?_⟩
  all_goals simp (disch := omega) only [↓reduceIte, iT_lt, iF_lt, iT_le, iF_le, iT_eq, iF_eq, nT_lt, nF_lt, nT_le, nF_le, nT_eq, nF_eq, and_self, and_true, true_and, and_false, false_and, not_true_eq_false, not_false_eq_true, ne_eq, or_self, or_false, false_or, or_true, true_or, Option.bind_some, i32_lit, i64_lit, i32_add, i32_sub, i32_mul, i32_neg, i64_add, i64_sub, i64_neg, i32_lt, i32_le, i32_eq, i64_lt, i64_le, i64_eq, i32_cn, i32_cl, i32_l, i64_i, i32_nat, Int.toNat_natCast, sI_2, sJ_1, sJ_22, sR_1, sR_21, sI_t, sI_r, sI_j, sJ_t, sJ_r, sJ_j, sR_t, sR_r, sR_j]
theorem p_mspL {x s kl kg nl ng F i : Nat} {Bl Bg : Nat → Nat} {T : TK} {Z : hZ} {y cl : Int} {ds : Nat → Int} (hF : 300 ≤ F) (hT : okT T) (hi : i < kN T) (hy : 0 ≤ y ∧ y ≤ 1000000) (hcl : 0 ≤ cl ∧ cl < kP T) (hd : ∀ x, 0 ≤ ds x ∧ ds x < kP T) : ∀ (k j M : Nat) (τ : hSt), j + k = (kS T i).toNat + 1 → k < M → tkM x s kl kg nl ng Bl Bg T τ → (∀ q, q < i → τ.2.1 218 q = i64 (ds q)) → (∀ q : Nat, q < j → τ.2.1 219 (201 * i + q) = i64 (sdI T y ds i cl (q : Int))) → ∃ υ, f_X12_speaks_L40 F Z (i32 (x : Int)) (i32 (i : Int)) (i64 cl) (i32 y) (i32 (s : Int)) (i32 (kP T)) (i64 (twI T ds i)) M τ (i32 (j : Int)) = some ((), υ) ∧ fr WP τ υ ∧ (∀ q : Nat, q ≤ (kS T i).toNat → υ.2.1 219 (201 * i + q) = i64 (sdI T y ds i cl (q : Int))) ∧ (∀ p, (p < 201 * i ∨ 201 * i + (kS T i).toNat < p) → υ.2.1 219 p = τ.2.1 219 p) := by
  have hN := hT.1
  have hP := hT.2.2.1
  have hS := hT.2.2.2.2.2.1 i (by omega)
  obtain ⟨l0, l1, l2, l3, l4, l5, l6, l7, l8⟩ := ch_c
  obtain ⟨d0, d1, d2, d3, d4, d5, d6, d7, d8⟩ := ch_d
  intro k
  induction k with
  | zero =>
    intro j M τ hjk hM h h4 hs
    obtain ⟨M, rfl⟩ : ∃ q, M = q + 1 := ⟨M - 1, by omega⟩
    have h6 := h.2.2.2.2.2.1
    have hs20 := h6.2.2.1
    refine ⟨τ, ?_, fr_rf _ _, fun q hq => hs q (by omega), fun _ _ => rfl⟩
    have hq : (6 : Int32) * i32 (s : Int) + i32 (i : Int) = i32 ((6 * s + i : Nat) : Int) := by rw [show (6 : Int32) = i32 6 from rfl, i32_mul, i32_add]; rfl
    rw [f_X12_speaks_L40, hq, i32_cn (by omega), if_neg (ix_ok (show 6 * s + i < 126 by omega) (by omega)), (h6.2.2.2.2.2.2 i (by omega)).1, if_pos (show i32 (kS T i) < i32 (j : Int) by rw [i32_lt (by omega)]; omega)]
  | succ k ih =>
    intro j M τ hjk hM h h4 hs
    obtain ⟨M, rfl⟩ : ∃ q, M = q + 1 := ⟨M - 1, by omega⟩
    have h6 := h.2.2.2.2.2.1
    have hs20 := h6.2.2.1
    have hx := ix_ok (x := x) h.1 (by have := h.1; omega)
    have hq : (6 : Int32) * i32 (s : Int) + i32 (i : Int) = i32 ((6 * s + i : Nat) : Int) := by rw [show (6 : Int32) = i32 6 from rfl, i32_mul, i32_add]; rfl
    have hq2 : (201 : Int32) * i32 (i : Int) + i32 (j : Int) = i32 ((201 * i + j : Nat) : Int) := by rw [show (201 : Int32) = i32 201 from rfl, i32_mul, i32_add]; rfl
    obtain ⟨τ1, a1, a2⟩ := p_mtrueAt (Z := Z) (F := F) (j := j) hF hT h hi (by omega) hd h4
    obtain ⟨τ2, b1, b2, b3⟩ := p_noLetters (F := F) (Z := Z) (τ := τ1) hF
    have f2 : fr WP τ τ2 := fr_tr (fr_mono a2 (by decide)) (fr_mono b2 (by decide))
    obtain ⟨τ3, hτ3⟩ : ∃ τ3, τ3 = (sJ (sJ (sJ (sJ (sJ (sJ (sJ (sJ (sJ τ2 213 116 (i64 (trI T ds i (j : Int)))) 213 99 (i64 cl)) 213 119 (i64 (twI T ds i))) 213 108 (i64 (lsI ds i))) 213 105 (i64 (i : Int))) 213 106 (i64 (j : Int))) 213 110 (i64 (kN T : Int))) 213 112 (i64 (kP T))) 213 121 (i64 y)) := ⟨_, rfl⟩
    have t1 := tr_rg (i := i) (j := (j : Int)) hT hd (by omega)
    have t2 := tw_rg (ds := ds) (i := i) hT
    have t3 : 0 ≤ lsI ds i ∧ lsI ds i < kP T := by
      unfold lsI
      split
      · omega
      · exact hd _
    have f3 : fr WP τ τ3 := by
      rw [hτ3]
      refine fr_tr f2 ?_
      exact fr_tr (fr_tr (fr_tr (fr_tr (fr_tr (fr_tr (fr_tr (fr_tr (fr_sJ _ _ (by decide) (fun _ => bd_i (by omega))) (fr_sJ _ _ (by decide) (fun _ => bd_i (by omega)))) (fr_sJ _ _ (by decide) (fun _ => bd_i (by omega)))) (fr_sJ _ _ (by decide) (fun _ => bd_i (by omega)))) (fr_sJ _ _ (by decide) (fun _ => bd_i (by omega)))) (fr_sJ _ _ (by decide) (fun _ => bd_i (by omega)))) (fr_sJ _ _ (by decide) (fun _ => bd_i (by omega)))) (fr_sJ _ _ (by decide) (fun _ => bd_i (by omega)))) (fr_sJ _ _ (by decide) (fun _ => bd_i (by omega)))
    have hl : ltM 1 (gL (trI T ds i (j : Int)) cl (twI T ds i) (lsI ds i) i j (kN T) (kP T) y) τ3 := by
      obtain ⟨z0, z1, z2, z3, z4, z5, z6, z7, z8⟩ := lt_mz (τ := τ2) (t := trI T ds i (j : Int)) (c := cl) (w := twI T ds i) (l := lsI ds i) (i := (i : Int)) (j := (j : Int)) (n := (kN T : Int)) (p := kP T) (y := y)
      rw [← hτ3] at z0 z1 z2 z3 z4 z5 z6 z7 z8
      exact ltM_g ⟨by omega, by omega, by omega, by omega, by omega, by omega, by omega, by omega, by omega⟩ z0 z1 z2 z3 z4 z5 z6 z7 z8
    have h3 := tkM_fr h (fr_mono f3 WP_T)
    obtain ⟨v, τ4, c1, c3, c2⟩ := p_mgiant (Z := Z) (F := F) (lab := 118) hF (by omega) (by omega) h3 hl
    have f4 : fr WP τ τ4 := fr_tr f3 (fr_mono c2 WG_mem)
    have e219 : ∀ q, τ4.2.1 219 q = τ.2.1 219 q := fun q => by
      rw [fr_J c2 219 rfl (by decide), hτ3, sJ_r _ _ (by omega), sJ_r _ _ (by omega), sJ_r _ _ (by omega), sJ_r _ _ (by omega), sJ_r _ _ (by omega), sJ_r _ _ (by omega), sJ_r _ _ (by omega), sJ_r _ _ (by omega), sJ_r _ _ (by omega), fr_J b2 219 rfl (by decide), fr_J a2 219 rfl (by decide)]
    have f5 : fr WP τ (sJ τ4 219 (201 * i + j) (i64 (sdI T y ds i cl (j : Int)))) := fr_tr f4 (fr_sJ _ _ (by rw [cd_a rfl]; decide))
    obtain ⟨υ, u1, u2, u3, u4⟩ := ih (j + 1) M (sJ τ4 219 (201 * i + j) (i64 (sdI T y ds i cl (j : Int)))) (by omega) (by omega) (tkM_fr h (fr_mono f5 WP_T)) (fun q hq => by rw [fr_J f5 218 rfl (by decide)]; exact h4 q hq) (fun q hq => by
      by_cases e : q = j
      · rw [sJ_t _ _ ⟨rfl, by rw [e]⟩, e]
      · rw [sJ_j _ _ (by omega), e219]; exact hs q (by omega))
    refine ⟨υ, ?_, fr_tr f5 u2, u3, fun p hp => by rw [u4 p hp, sJ_j _ _ (by omega), e219]⟩
    have b204 : τ2.1 204 s = i32 (kN T : Int) := by rw [fr_I f2 204 rfl (by decide)]; exact h6.2.2.2.2.2.1
    have b217 : τ2.1 217 x = i32 (kg : Int) := by rw [fr_I f2 217 rfl (by decide)]; exact h.2.2.2.2.1
    rw [f_X12_speaks_L40, hq, i32_cn (by omega), if_neg (ix_ok (show 6 * s + i < 126 by omega) (by omega)), (h6.2.2.2.2.2.2 i (by omega)).1, if_neg (show ¬ i32 (kS T i) < i32 (j : Int) by rw [i32_lt (by omega)]; omega), a1, obs]
    dsimp only
    rw [b1, obs]
    dsimp only
    rw [l0, l1, l2, l3, l4, l5, l6, l7, l8, if_neg d0, if_neg d1, if_neg d2, hq2]
    simp only [i32_cn (show x ≤ 2147483647 by have := h.1; omega), i32_cn (show s ≤ 2147483647 by omega), i32_cn (show 201 * i + j ≤ 2147483647 by omega), if_neg d3, if_neg d4, if_neg d5, if_neg d6, if_neg d7, if_neg d8, if_neg (ix_ok (show s < 21 by omega) (by omega)), if_neg hx, b204, b217, if_neg (ix_ok (show 201 * i + j < 1206 by omega) (by omega)), ip1]
    rw [i32_l (by omega), i32_l (by omega), i32_l (by omega), i32_l (by omega), i32_l (by omega)]
    by_cases c : i = 0
    · have c2 : i32 (i : Int) = (0 : Int32) := by rw [c]; rfl
      have cl0 : (0 : Int64) = i64 (lsI ds i) := by unfold lsI; rw [if_pos c]; rfl
      rw [if_pos c2, cl0, ← hτ3, show (118 : Int32) = i32 118 from rfl, c1, obs]
      dsimp only
      rw [c3, obs]
      exact u1
    · have c2 : ¬ i32 (i : Int) = (0 : Int32) := by rw [show (0 : Int32) = i32 0 from rfl, i32_eq (by omega)]; omega
      have e218 : τ2.2.1 218 (i - 1) = i64 (lsI ds i) := by unfold lsI; rw [if_neg c, fr_J f2 218 rfl (by decide)]; exact h4 (i - 1) (by omega)
      have em : i32 (i : Int) - (1 : Int32) = i32 ((i - 1 : Nat) : Int) := by rw [show (1 : Int32) = i32 1 from rfl, i32_sub]; congr 1; omega
      rw [if_neg c2, em, i32_cn (by omega), if_neg (ix_ok (show i - 1 < 6 by omega) (by omega)), e218, ← hτ3, show (118 : Int32) = i32 118 from rfl, c1, obs]
      dsimp only
      rw [c3, obs]
      exact u1
