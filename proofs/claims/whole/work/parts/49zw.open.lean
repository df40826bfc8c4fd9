/-! a TALK begins, class -/
theorem caS_W {W : List Nat} {Z : hZ} {Tf : Nat → TK} {r0 : Nat} {σ τ : hSt} (hr : r0 = 14 ∨ r0 = 15) (h : caS Z Tf r0 σ) (f : fr W σ τ) (n1 : 10000 + 100 * r0 + 7 ∉ W) (n2 : r0 + 8 ∉ W) : caS Z Tf r0 τ := by
  intro r2 h2
  rw [f.2.2.1 r0 7 (by rw [cd_p (by omega)]; exact n1)] at h2
  refine ⟨(h r2 h2).1, fun j hj => ?_⟩
  rw [f.2.1 (r0 + 8) j (by rw [cd_n (by omega)]; exact n2)]
  exact (h r2 h2).2 j hj
theorem p_fill {Z : hZ} {r0 F : Nat} (hF : 300 ≤ F) (hr : r0 = 14 ∨ r0 = 15) (σ : hSt) : ∃ σ', f_J7_fill_d0a16 F Z σ (r0 + 2) 0 = some ((), σ') ∧ fr [r0 + 2] σ σ' ∧ ∀ q, q < 10 → σ'.2.1 (r0 + 2) q = 0 := by
  have hj : jlen (r0 + 2) = 10 := by rcases hr with h | h <;> subst h <;> rfl
  have go : ∀ (k x M : Nat) (σ : hSt), x + k = 10 → k < M → (∀ q, q < x → σ.2.1 (r0 + 2) q = 0) → ∃ σ', f_J7_fill_d0a16_L6 (r0 + 2) 0 (Int32.ofNat 10) M σ (i32 (x : Int)) = some ((), σ') ∧ fr [r0 + 2] σ σ' ∧ ∀ q, q < 10 → σ'.2.1 (r0 + 2) q = 0 := by
    intro k
    induction k with
    | zero =>
      intro x M σ hx hM h
      obtain ⟨M, rfl⟩ : ∃ q, M = q + 1 := ⟨M - 1, by omega⟩
      obtain rfl : x = 10 := by omega
      refine ⟨σ, ?_, fr_rf _ _, h⟩
      rw [f_J7_fill_d0a16_L6, if_pos (by decide)]
    | succ k ih =>
      intro x M σ hx hM h
      obtain ⟨M, rfl⟩ : ∃ q, M = q + 1 := ⟨M - 1, by omega⟩
      obtain ⟨σ', e1, e2, e3⟩ := ih (x + 1) M (sJ σ (r0 + 2) x 0) (by omega) (by omega) (fun q hq => by
        by_cases e : q = x
        · rw [sJ_t _ _ ⟨rfl, e⟩]
        · rw [sJ_j _ _ (by omega)]; exact h q (by omega))
      refine ⟨σ', ?_, fr_tr (fr_sJ _ _ (by simp (disch := omega) only [cd_n, cd_p, List.mem_cons, List.mem_singleton, List.not_mem_nil, or_false, false_or, or_true, true_or, not_or, not_false_eq_true, not_true_eq_false, and_true, true_and, and_self] <;> omega)) e2, e3⟩
      rw [f_J7_fill_d0a16_L6, if_neg (show ¬ Int32.ofNat 10 ≤ i32 (x : Int) by rw [show Int32.ofNat 10 = i32 10 from rfl, i32_le (by omega)]; omega), hj, i32_cn (by omega), if_neg (show ¬ (i32 (x : Int) < (0 : Int32) ∨ 10 ≤ x) by rw [show (0 : Int32) = i32 0 from rfl, i32_lt (by omega)]; omega), ip1]
      exact e1
  unfold f_J7_fill_d0a16
  rw [hj]
  exact go 10 0 F σ (by omega) (by omega) (fun q hq => absurd hq (Nat.not_lt_zero q))
def WO (r0 : Nat) : List Nat := [8, 11202, 11203, 11204, r0 + 2, 10000 + 100 * r0 + 8, 10000 + 100 * r0 + 9, 10000 + 100 * r0 + 10, 10000 + 100 * r0 + 11, 10000 + 100 * r0 + 12, 10000 + 100 * r0 + 13]
theorem p_open {F : Nat} {Z : hZ} {σ : hSt} {r0 r1 s tl tg : Nat} {T : TK} {y : Int} (hF : 1000 ≤ F) (hr : r0 = 14 ∨ r0 = 15) (hz : tkZ Z r1 s tl tg T) (hT : okT T) (hy : 0 ≤ y ∧ y ≤ 1000000) (h13 : ∀ j, j < 10 → j ≠ 4 → j ≠ 6 → j ≠ 7 → j ≠ 9 → σ.2.1 13 j = 0) : ∃ σ', f_X1_open F Z σ r0 r1 (i32 y) = some ((), σ') ∧ fr (WO r0) σ σ' ∧ sitH Z σ' s tl (kN T) (kP T) (kS T) (kA T) ∧ σ'.2.1 r0 10 = i64 (fsI T y) ∧ σ'.2.1 r0 9 = i64 (fsI T y) ∧ σ'.2.2 r0 8 = some r1 ∧ σ'.1 r0 11 = i32 (-1) ∧ σ'.1 r0 12 = i32 0 ∧ σ'.1 r0 13 = i32 0 ∧ (σ'.2.1 (r0 + 2) 6 = i64 (kN T : Int) ∧ σ'.2.1 (r0 + 2) 7 = i64 (kP T) ∧ σ'.2.1 (r0 + 2) 8 = i64 y ∧ σ'.2.1 (r0 + 2) 9 = 0) := by
  have hN := hT.1
  have hP := hT.2.2.1
  have hW := hT.2.2.2.2.2.2.1
  obtain ⟨a1, a2, a3, a4, a5, a6, a7, a8, a9, a10, a11, a12, a13, a14, a15⟩ := hz
  have hz : tkZ Z r1 s tl tg T := ⟨a1, a2, a3, a4, a5, a6, a7, a8, a9, a10, a11, a12, a13, a14, a15⟩
  obtain ⟨l0, l1, l2, l3, l4, l5, l6, l7, l8⟩ := lit_c
  obtain ⟨d0, d1, d2, d3, d4, d5, d6, d7, d8⟩ := lit_d
  have hB : sitB Z σ s tl (kN T) (kS T) (kA T) := ⟨a2, a4, a10, by omega, a12, fun j hj => ⟨a13 j hj, by have := hT.2.2.2.2.2.1 j hj; omega⟩, a14, hT.2.2.2.2.2.2.2.2.1.2, hT.2.2.2.2.2.2.2.2.1.1, h13⟩
  obtain ⟨σ1, e1, e2, e3⟩ := p_sit hB (P := kP T) (by omega)
  have e2' : fr [11202, 11203, 11204] σ σ1 := by
    have : σ1 = _ := (congrArg Prod.snd (Option.some.inj e1)).symm
    rw [this]
    exact fr_tr (fr_sR _ _ (by decide)) (fr_tr (fr_sR _ _ (by decide)) (fr_sI _ _ (by decide)))
  obtain ⟨σ2, hσ2⟩ : ∃ σ2, σ2 = sI (sI (sI (sR σ1 r0 8 (some r1)) r0 11 (-1)) r0 12 0) r0 13 0 := ⟨_, rfl⟩
  have f2 : fr (WO r0) σ1 σ2 := by
    rw [hσ2]
    exact fr_tr (fr_tr (fr_tr (fr_sR _ _ (by simp (disch := omega) only [cd_n, cd_p, WO, List.mem_cons, List.mem_singleton, List.not_mem_nil, or_false, false_or, or_true, true_or, not_or, not_false_eq_true, not_true_eq_false, and_true, true_and, and_self] <;> omega)) (fr_sI _ _ (by simp (disch := omega) only [cd_n, cd_p, WO, List.mem_cons, List.mem_singleton, List.not_mem_nil, or_false, false_or, or_true, true_or, not_or, not_false_eq_true, not_true_eq_false, and_true, true_and, and_self] <;> omega))) (fr_sI _ _ (by simp (disch := omega) only [cd_n, cd_p, WO, List.mem_cons, List.mem_singleton, List.not_mem_nil, or_false, false_or, or_true, true_or, not_or, not_false_eq_true, not_true_eq_false, and_true, true_and, and_self] <;> omega))) (fr_sI _ _ (by simp (disch := omega) only [cd_n, cd_p, WO, List.mem_cons, List.mem_singleton, List.not_mem_nil, or_false, false_or, or_true, true_or, not_or, not_false_eq_true, not_true_eq_false, and_true, true_and, and_self] <;> omega))
  obtain ⟨σ3, u1, u2, u3⟩ := p_fill (Z := Z) (F := F) (by omega) hr σ2
  obtain ⟨σ4, hσ4⟩ : ∃ σ4, σ4 = sJ (sJ (sJ (sJ (sJ (sJ σ3 (r0 + 2) 0 (i64 (kW T % kP T))) (r0 + 2) 1 (i64 (kW T % kP T))) (r0 + 2) 2 (i64 (kW T % kP T))) (r0 + 2) 6 (i64 (kN T : Int))) (r0 + 2) 7 (i64 (kP T))) (r0 + 2) 8 (i64 y) := ⟨_, rfl⟩
  have f4 : fr (WO r0) σ3 σ4 := by
    rw [hσ4]
    exact fr_tr (fr_tr (fr_tr (fr_tr (fr_tr (fr_sJ _ _ (by simp (disch := omega) only [cd_n, cd_p, WO, List.mem_cons, List.mem_singleton, List.not_mem_nil, or_false, false_or, or_true, true_or, not_or, not_false_eq_true, not_true_eq_false, and_true, true_and, and_self] <;> omega)) (fr_sJ _ _ (by simp (disch := omega) only [cd_n, cd_p, WO, List.mem_cons, List.mem_singleton, List.not_mem_nil, or_false, false_or, or_true, true_or, not_or, not_false_eq_true, not_true_eq_false, and_true, true_and, and_self] <;> omega))) (fr_sJ _ _ (by simp (disch := omega) only [cd_n, cd_p, WO, List.mem_cons, List.mem_singleton, List.not_mem_nil, or_false, false_or, or_true, true_or, not_or, not_false_eq_true, not_true_eq_false, and_true, true_and, and_self] <;> omega))) (fr_sJ _ _ (by simp (disch := omega) only [cd_n, cd_p, WO, List.mem_cons, List.mem_singleton, List.not_mem_nil, or_false, false_or, or_true, true_or, not_or, not_false_eq_true, not_true_eq_false, and_true, true_and, and_self] <;> omega))) (fr_sJ _ _ (by simp (disch := omega) only [cd_n, cd_p, WO, List.mem_cons, List.mem_singleton, List.not_mem_nil, or_false, false_or, or_true, true_or, not_or, not_false_eq_true, not_true_eq_false, and_true, true_and, and_self] <;> omega))) (fr_sJ _ _ (by simp (disch := omega) only [cd_n, cd_p, WO, List.mem_cons, List.mem_singleton, List.not_mem_nil, or_false, false_or, or_true, true_or, not_or, not_false_eq_true, not_true_eq_false, and_true, true_and, and_self] <;> omega))
  have z0 : ∀ q, q ≠ 0 → q ≠ 1 → q ≠ 2 → q ≠ 6 → q ≠ 7 → q ≠ 8 → q < 10 → σ4.2.1 (r0 + 2) q = 0 := fun q h0 h1 h2 h6 h7 h8 h9 => by
    rw [hσ4, sJ_j _ _ (by omega), sJ_j _ _ (by omega), sJ_j _ _ (by omega), sJ_j _ _ (by omega), sJ_j _ _ (by omega), sJ_j _ _ (by omega)]
    exact u3 q h9
  have z6 : σ4.2.1 (r0 + 2) 6 = i64 (kN T : Int) := by rw [hσ4, sJ_j _ _ (by omega), sJ_j _ _ (by omega), sJ_t _ _ ⟨rfl, rfl⟩]
  have z7 : σ4.2.1 (r0 + 2) 7 = i64 (kP T) := by rw [hσ4, sJ_j _ _ (by omega), sJ_t _ _ ⟨rfl, rfl⟩]
  have z8 : σ4.2.1 (r0 + 2) 8 = i64 y := by rw [hσ4, sJ_t _ _ ⟨rfl, rfl⟩]
  have hL := gL_row (L := σ4.2.1 (r0 + 2)) (t := kW T % kP T) (c := kW T % kP T) (w := kW T % kP T) (l := 0) (i := 0) (j := 0) (n := (kN T : Int)) (p := kP T) (y := y) (by rw [hσ4, sJ_j _ _ (by omega), sJ_j _ _ (by omega), sJ_j _ _ (by omega), sJ_j _ _ (by omega), sJ_j _ _ (by omega), sJ_t _ _ ⟨rfl, rfl⟩]) (by rw [hσ4, sJ_j _ _ (by omega), sJ_j _ _ (by omega), sJ_j _ _ (by omega), sJ_j _ _ (by omega), sJ_t _ _ ⟨rfl, rfl⟩]) (by rw [hσ4, sJ_j _ _ (by omega), sJ_j _ _ (by omega), sJ_j _ _ (by omega), sJ_t _ _ ⟨rfl, rfl⟩]) (z0 3 (by omega) (by omega) (by omega) (by omega) (by omega) (by omega) (by omega)) (z0 4 (by omega) (by omega) (by omega) (by omega) (by omega) (by omega) (by omega)) (z0 5 (by omega) (by omega) (by omega) (by omega) (by omega) (by omega) (by omega)) z6 z7 z8 (z0 9 (by omega) (by omega) (by omega) (by omega) (by omega) (by omega) (by omega))
  obtain ⟨σ5, w1, w2⟩ := p_saidBy (lab := 115) hF hr (by omega) hz hT hL
  have f5 : fr (WO r0) σ1 σ5 := fr_tr f2 (fr_tr (fr_mono u2 (fun x hx => by simp only [WO, List.mem_cons, List.not_mem_nil, or_false] at hx ⊢; omega)) (fr_tr f4 (fr_mono w2 (fun x hx => by simp only [WO, List.mem_cons, List.not_mem_nil, or_false] at hx ⊢; omega))))
  have g5 : ∀ q, σ5.2.1 (r0 + 2) q = σ4.2.1 (r0 + 2) q := fun q => by rw [fr_J w2 (r0 + 2) (ob_n (by omega)) (by simp (disch := omega) only [cd_n, cd_p, List.mem_cons, List.mem_singleton, List.not_mem_nil, or_false, false_or, or_true, true_or, not_or, not_false_eq_true, not_true_eq_false, and_true, true_and, and_self] <;> omega)]
  obtain ⟨σ6, hσ6⟩ : ∃ σ6, σ6 = sJ (sJ σ5 r0 10 (i64 (fsI T y))) r0 9 (i64 (fsI T y)) := ⟨_, rfl⟩
  have f6 : fr (WO r0) σ1 σ6 := by
    rw [hσ6]
    exact fr_tr f5 (fr_tr (fr_sJ _ _ (by simp (disch := omega) only [cd_n, cd_p, WO, List.mem_cons, List.mem_singleton, List.not_mem_nil, or_false, false_or, or_true, true_or, not_or, not_false_eq_true, not_true_eq_false, and_true, true_and, and_self] <;> omega)) (fr_sJ _ _ (by simp (disch := omega) only [cd_n, cd_p, WO, List.mem_cons, List.mem_singleton, List.not_mem_nil, or_false, false_or, or_true, true_or, not_or, not_false_eq_true, not_true_eq_false, and_true, true_and, and_self] <;> omega)))
  have f26 : fr [8, r0 + 2, 10000 + 100 * r0 + 9, 10000 + 100 * r0 + 10] σ2 σ6 := by
    rw [hσ6]
    refine fr_tr (fr_tr (fr_mono u2 (fun x hx => by simp only [List.mem_cons, List.not_mem_nil, or_false] at hx ⊢; omega)) (fr_tr ?_ (fr_mono w2 (fun x hx => by simp only [List.mem_cons, List.not_mem_nil, or_false] at hx ⊢; omega)))) (fr_tr (fr_sJ _ _ (by simp (disch := omega) only [cd_n, cd_p, List.mem_cons, List.mem_singleton, List.not_mem_nil, or_false, false_or, or_true, true_or, not_or, not_false_eq_true, not_true_eq_false, and_true, true_and, and_self] <;> omega)) (fr_sJ _ _ (by simp (disch := omega) only [cd_n, cd_p, List.mem_cons, List.mem_singleton, List.not_mem_nil, or_false, false_or, or_true, true_or, not_or, not_false_eq_true, not_true_eq_false, and_true, true_and, and_self] <;> omega)))
    rw [hσ4]
    exact fr_tr (fr_tr (fr_tr (fr_tr (fr_tr (fr_sJ _ _ (by simp (disch := omega) only [cd_n, cd_p, List.mem_cons, List.mem_singleton, List.not_mem_nil, or_false, false_or, or_true, true_or, not_or, not_false_eq_true, not_true_eq_false, and_true, true_and, and_self] <;> omega)) (fr_sJ _ _ (by simp (disch := omega) only [cd_n, cd_p, List.mem_cons, List.mem_singleton, List.not_mem_nil, or_false, false_or, or_true, true_or, not_or, not_false_eq_true, not_true_eq_false, and_true, true_and, and_self] <;> omega))) (fr_sJ _ _ (by simp (disch := omega) only [cd_n, cd_p, List.mem_cons, List.mem_singleton, List.not_mem_nil, or_false, false_or, or_true, true_or, not_or, not_false_eq_true, not_true_eq_false, and_true, true_and, and_self] <;> omega))) (fr_sJ _ _ (by simp (disch := omega) only [cd_n, cd_p, List.mem_cons, List.mem_singleton, List.not_mem_nil, or_false, false_or, or_true, true_or, not_or, not_false_eq_true, not_true_eq_false, and_true, true_and, and_self] <;> omega))) (fr_sJ _ _ (by simp (disch := omega) only [cd_n, cd_p, List.mem_cons, List.mem_singleton, List.not_mem_nil, or_false, false_or, or_true, true_or, not_or, not_false_eq_true, not_true_eq_false, and_true, true_and, and_self] <;> omega))) (fr_sJ _ _ (by simp (disch := omega) only [cd_n, cd_p, List.mem_cons, List.mem_singleton, List.not_mem_nil, or_false, false_or, or_true, true_or, not_or, not_false_eq_true, not_true_eq_false, and_true, true_and, and_self] <;> omega))
  have fs6 : fr [8, r0 + 2, 10000 + 100 * r0 + 8, 10000 + 100 * r0 + 9, 10000 + 100 * r0 + 10, 10000 + 100 * r0 + 11, 10000 + 100 * r0 + 12, 10000 + 100 * r0 + 13] σ1 σ6 := by
    refine fr_tr ?_ (fr_mono f26 (fun x hx => by simp only [List.mem_cons, List.not_mem_nil, or_false] at hx ⊢; omega))
    rw [hσ2]
    exact fr_tr (fr_tr (fr_tr (fr_sR _ _ (by simp (disch := omega) only [cd_n, cd_p, List.mem_cons, List.mem_singleton, List.not_mem_nil, or_false, false_or, or_true, true_or, not_or, not_false_eq_true, not_true_eq_false, and_true, true_and, and_self] <;> omega)) (fr_sI _ _ (by simp (disch := omega) only [cd_n, cd_p, List.mem_cons, List.mem_singleton, List.not_mem_nil, or_false, false_or, or_true, true_or, not_or, not_false_eq_true, not_true_eq_false, and_true, true_and, and_self] <;> omega))) (fr_sI _ _ (by simp (disch := omega) only [cd_n, cd_p, List.mem_cons, List.mem_singleton, List.not_mem_nil, or_false, false_or, or_true, true_or, not_or, not_false_eq_true, not_true_eq_false, and_true, true_and, and_self] <;> omega))) (fr_sI _ _ (by simp (disch := omega) only [cd_n, cd_p, List.mem_cons, List.mem_singleton, List.not_mem_nil, or_false, false_or, or_true, true_or, not_or, not_false_eq_true, not_true_eq_false, and_true, true_and, and_self] <;> omega))
  have g6 : ∀ q, σ6.2.1 (r0 + 2) q = σ4.2.1 (r0 + 2) q := fun q => by rw [hσ6, sJ_r _ _ (by omega), sJ_r _ _ (by omega), g5]
  refine ⟨σ6, ?_, fr_tr (fr_mono e2' (fun x hx => by simp only [WO, List.mem_cons, List.not_mem_nil, or_false] at hx ⊢; omega)) f6, sitH_W e3 fs6 (by simp (disch := omega) only [cd_n, cd_p, List.mem_cons, List.mem_singleton, List.not_mem_nil, or_false, false_or, or_true, true_or, not_or, not_false_eq_true, not_true_eq_false, and_true, true_and, and_self] <;> omega) (by simp (disch := omega) only [cd_n, cd_p, List.mem_cons, List.mem_singleton, List.not_mem_nil, or_false, false_or, or_true, true_or, not_or, not_false_eq_true, not_true_eq_false, and_true, true_and, and_self] <;> omega) (by simp (disch := omega) only [cd_n, cd_p, List.mem_cons, List.mem_singleton, List.not_mem_nil, or_false, false_or, or_true, true_or, not_or, not_false_eq_true, not_true_eq_false, and_true, true_and, and_self] <;> omega) (by simp (disch := omega) only [cd_n, cd_p, List.mem_cons, List.mem_singleton, List.not_mem_nil, or_false, false_or, or_true, true_or, not_or, not_false_eq_true, not_true_eq_false, and_true, true_and, and_self] <;> omega), ?_, ?_, ?_, ?_, ?_, ?_, (g6 6).trans z6, (g6 7).trans z7, (g6 8).trans z8, (g6 9).trans (z0 9 (by omega) (by omega) (by omega) (by omega) (by omega) (by omega) (by omega))⟩
  · unfold f_X1_open
    rw [a1, oc_1, if_pos a2, a3, oc_1, if_pos a4, a8, e1, obs]
    dsimp only
    rw [← hσ2, u1, obs]
    dsimp only
    rw [oc_1, if_pos a2, a11, i32_l (by omega), i32_l (by omega), pr_rest _ (by omega), i64_toInt (by omega), obs, l0, l1, l2, l6, l7, l8, if_neg d0, if_neg d1, if_neg d2, oc_1, if_pos a2, if_neg d6, if_neg d7, if_neg d8, a10, i32_l (by omega), i32_l (by omega), ← hσ4, show (115 : Int32) = i32 115 from rfl, w1, obs]
    dsimp only
    rw [sJ_t _ _ ⟨rfl, rfl⟩, hσ6]
    rfl
  · rw [hσ6, sJ_j _ _ (by omega), sJ_t _ _ ⟨rfl, rfl⟩]
  · rw [hσ6, sJ_t _ _ ⟨rfl, rfl⟩]
  · rw [f26.2.2.1 r0 8 (by simp (disch := omega) only [cd_n, cd_p, List.mem_cons, List.mem_singleton, List.not_mem_nil, or_false, false_or, or_true, true_or, not_or, not_false_eq_true, not_true_eq_false, and_true, true_and, and_self] <;> omega), hσ2]
    show (sR σ1 r0 8 (some r1)).2.2 r0 8 = some r1
    rw [sR_t _ _ ⟨rfl, rfl⟩]
  · rw [f26.1 r0 11 (by simp (disch := omega) only [cd_n, cd_p, List.mem_cons, List.mem_singleton, List.not_mem_nil, or_false, false_or, or_true, true_or, not_or, not_false_eq_true, not_true_eq_false, and_true, true_and, and_self] <;> omega), hσ2, sI_j _ _ (by omega), sI_j _ _ (by omega), sI_t _ _ ⟨rfl, rfl⟩]
    rfl
  · rw [f26.1 r0 12 (by simp (disch := omega) only [cd_n, cd_p, List.mem_cons, List.mem_singleton, List.not_mem_nil, or_false, false_or, or_true, true_or, not_or, not_false_eq_true, not_true_eq_false, and_true, true_and, and_self] <;> omega), hσ2, sI_j _ _ (by omega), sI_t _ _ ⟨rfl, rfl⟩]
    rfl
  · rw [f26.1 r0 13 (by simp (disch := omega) only [cd_n, cd_p, List.mem_cons, List.mem_singleton, List.not_mem_nil, or_false, false_or, or_true, true_or, not_or, not_false_eq_true, not_true_eq_false, and_true, true_and, and_self] <;> omega), hσ2, sI_t _ _ ⟨rfl, rfl⟩]
    rfl
