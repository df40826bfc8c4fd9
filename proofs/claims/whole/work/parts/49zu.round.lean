/-! a round, class -/
def WS (r0 i : Nat) : List Nat := [8, 9, r0 + 2, r0 + 6, r0 + 8, 10000 + 100 * r0 + 7, 10000 + 100 * r0 + 13, 24 + 6 * (r0 - 14) + i]
theorem p_say {F : Nat} {Z : hZ} {σ : hSt} {r0 r1 s tl tg i : Nat} {Tf : Nat → TK} {y cl : Int} {ds : Nat → Int} (hF : 1000 ≤ F) (hr : r0 = 14 ∨ r0 = 15) (hz : tkZ Z r1 s tl tg (Tf r1)) (hT : okT (Tf r1)) (hi : i < kN (Tf r1)) (hd : ∀ x, 0 ≤ ds x ∧ ds x < kP (Tf r1)) (hd0 : ∀ x, i ≤ x → ds x = 0) (h4 : ∀ q, q < i → σ.2.1 (r0 + 4) q = i64 (ds q)) (hc : caS Z Tf r0 σ) (hcl : σ.2.1 r0 10 = i64 cl) (h6 : σ.2.1 (r0 + 2) 6 = i64 (kN (Tf r1) : Int)) (h7 : σ.2.1 (r0 + 2) 7 = i64 (kP (Tf r1))) (h8 : σ.2.1 (r0 + 2) 8 = i64 y) (h9 : σ.2.1 (r0 + 2) 9 = 0) : ∃ σ', f_X1_sayCurve F Z σ r0 r1 (i32 (i : Int)) = some ((), σ') ∧ fr (WS r0 i) σ σ' ∧ caS Z Tf r0 σ' ∧ (∀ q : Nat, q ≤ (kS (Tf r1) i).toNat → σ'.2.1 (24 + 6 * (r0 - 14) + i) q = i64 (sdI (Tf r1) y ds i cl (q : Int))) ∧ σ'.1 r0 13 = i32 ((i + 1 : Nat) : Int) ∧ (σ'.2.1 (r0 + 2) 6 = i64 (kN (Tf r1) : Int) ∧ σ'.2.1 (r0 + 2) 7 = i64 (kP (Tf r1)) ∧ σ'.2.1 (r0 + 2) 8 = i64 y ∧ σ'.2.1 (r0 + 2) 9 = 0) := by
  have hN := hT.1
  have hP := hT.2.2.1
  have hS := hT.2.2.2.2.2.1 i (by omega)
  have hm := mj_rg hT (show i < 6 by omega)
  obtain ⟨σ1, w3, a1, a2, a3, a4, a5⟩ := p_truths hF hr hz hT hi hd hd0 h4 hc
  have hw : w3 ≠ r0 + 2 := by omega
  have hj : jlen w3 = 101 := by
    rcases hr with h | h <;> subst h <;> rcases a2 with h | h <;> subst h <;> rfl
  have hJ : isJ w3 = true := by unfold isJ; rw [hj]; rfl
  obtain ⟨l0, l1, l2, l3, l4, l5, l6, l7, l8⟩ := lit_c
  obtain ⟨d0, d1, d2, d3, d4, d5, d6, d7, d8⟩ := lit_d
  obtain ⟨σ0, hσ0⟩ : ∃ σ0, σ0 = sJ (sJ (sJ (sJ σ1 (r0 + 2) 1 (i64 cl)) (r0 + 2) 2 (i64 (twI (Tf r1) ds i))) (r0 + 2) 3 (i64 (lsI ds i))) (r0 + 2) 4 (i64 (i : Int)) := ⟨_, rfl⟩
  have g : ∀ q, q ≠ 1 → q ≠ 2 → q ≠ 3 → q ≠ 4 → σ0.2.1 (r0 + 2) q = σ.2.1 (r0 + 2) q := fun q h1 h2 h3 h4 => by
    rw [hσ0, sJ_j _ _ (by omega), sJ_j _ _ (by omega), sJ_j _ _ (by omega), sJ_j _ _ (by omega), fr_J a3 (r0 + 2) (ob_n (by omega)) (by simp (disch := omega) only [cd_n, cd_p, List.mem_cons, List.mem_singleton, List.not_mem_nil, or_false, false_or, or_true, true_or, not_or, not_false_eq_true, not_true_eq_false, and_true, true_and, and_self] <;> omega)]
  have hl : lrS σ0 r0 cl (twI (Tf r1) ds i) (lsI ds i) i (kN (Tf r1)) (kP (Tf r1)) y := by
    refine ⟨?_, ?_, ?_, ?_, (g 6 (by omega) (by omega) (by omega) (by omega)).trans h6, (g 7 (by omega) (by omega) (by omega) (by omega)).trans h7, (g 8 (by omega) (by omega) (by omega) (by omega)).trans h8, (g 9 (by omega) (by omega) (by omega) (by omega)).trans h9⟩
    · rw [hσ0, sJ_j _ _ (by omega), sJ_j _ _ (by omega), sJ_j _ _ (by omega), sJ_t _ _ ⟨rfl, rfl⟩]
    · rw [hσ0, sJ_j _ _ (by omega), sJ_j _ _ (by omega), sJ_t _ _ ⟨rfl, rfl⟩]
    · rw [hσ0, sJ_j _ _ (by omega), sJ_t _ _ ⟨rfl, rfl⟩]
    · rw [hσ0, sJ_t _ _ ⟨rfl, rfl⟩]
  have hw3 : ∀ q, σ0.2.1 w3 q = σ1.2.1 w3 q := fun q => by rw [hσ0, sJ_r _ _ (by omega), sJ_r _ _ (by omega), sJ_r _ _ (by omega), sJ_r _ _ (by omega)]
  obtain ⟨σ2, b1, b2, b3, b4, b5⟩ := p_sayL (y := y) (cl := cl) (ds := ds) (υ := σ1) hF hr a2 hz hT hi ((kS (Tf r1) i).toNat + 1) 0 F σ0 (by omega) (by omega) hl (fun q hq => by rw [hw3]; exact a4 q hq) (fun q hq => absurd hq (Nat.not_lt_zero q))
  have f0 : fr (WS r0 i) σ1 σ0 := by
    rw [hσ0]
    exact fr_tr (fr_tr (fr_tr (fr_sJ _ _ (by simp (disch := omega) only [cd_n, cd_p, WS, List.mem_cons, List.mem_singleton, List.not_mem_nil, or_false, false_or, or_true, true_or, not_or, not_false_eq_true, not_true_eq_false, and_true, true_and, and_self] <;> omega)) (fr_sJ _ _ (by simp (disch := omega) only [cd_n, cd_p, WS, List.mem_cons, List.mem_singleton, List.not_mem_nil, or_false, false_or, or_true, true_or, not_or, not_false_eq_true, not_true_eq_false, and_true, true_and, and_self] <;> omega))) (fr_sJ _ _ (by simp (disch := omega) only [cd_n, cd_p, WS, List.mem_cons, List.mem_singleton, List.not_mem_nil, or_false, false_or, or_true, true_or, not_or, not_false_eq_true, not_true_eq_false, and_true, true_and, and_self] <;> omega))) (fr_sJ _ _ (by simp (disch := omega) only [cd_n, cd_p, WS, List.mem_cons, List.mem_singleton, List.not_mem_nil, or_false, false_or, or_true, true_or, not_or, not_false_eq_true, not_true_eq_false, and_true, true_and, and_self] <;> omega))
  refine ⟨σ2, ?_, fr_tr (fr_mono a3 (fun x hx => by simp only [WS, List.mem_cons, List.not_mem_nil, or_false] at hx ⊢; omega)) (fr_tr f0 (fr_mono b1 (fun x hx => by simp only [WS, List.mem_cons, List.not_mem_nil, or_false] at hx ⊢; omega))), ?_, b5, b3, b4.2.2.2.2⟩
  · unfold f_X1_sayCurve
    rw [a1, obs]
    have hcl1 : σ1.2.1 r0 10 = i64 cl := by rw [a3.2.1 r0 10 (by simp (disch := omega) only [cd_n, cd_p, List.mem_cons, List.mem_singleton, List.not_mem_nil, or_false, false_or, or_true, true_or, not_or, not_false_eq_true, not_true_eq_false, and_true, true_and, and_self] <;> omega)]; exact hcl
    have hb : f_X1_drawBefore Z (sJ (sJ σ1 (r0 + 2) 1 (i64 cl)) (r0 + 2) 2 (i64 (twI (Tf r1) ds i))) r0 (i32 (i : Int)) = some (i64 (lsI ds i)) := p_drawBefore (by omega) (fun x hx => by rw [sJ_r _ _ (by omega), sJ_r _ _ (by omega), fr_J a3 (r0 + 4) (ob_n (by omega)) (by simp (disch := omega) only [cd_n, cd_p, List.mem_cons, List.mem_singleton, List.not_mem_nil, or_false, false_or, or_true, true_or, not_or, not_false_eq_true, not_true_eq_false, and_true, true_and, and_self] <;> omega)]; exact h4 x hx)
    have t0 := tr_rg (i := i) (j := 0) hT hd (by omega)
    have t1 := tr_rg (i := i) (j := 1) hT hd (by omega)
    dsimp only
    rw [if_pos hJ, l0, l1, l2, l3, l4, if_neg d1, hj, if_pos (show (2 : Int32) ≤ Int32.ofNat 101 by decide), if_neg (by decide), if_neg (by decide), hcl1, sJ_r _ _ (by omega), a4 0 (by omega), a4 1 (by omega), hz.2.2.2.2.2.2.2.1, i32_l (by omega), show ((0 : Nat) : Int) = 0 from rfl, show ((1 : Nat) : Int) = 1 from rfl, p_plus t0 t1 (by omega), obs, if_neg d2]
    rw [show (trI (Tf r1) ds i 0 + trI (Tf r1) ds i 1) % kP (Tf r1) = twI (Tf r1) ds i from rfl, hb, obs, if_neg d3, if_neg d4, i32_l (by omega), ← hσ0]
    exact b2
  · intro r2 h2
    rw [b1.2.2.1 r0 7 (by simp (disch := omega) only [cd_n, cd_p, List.mem_cons, List.mem_singleton, List.not_mem_nil, or_false, false_or, or_true, true_or, not_or, not_false_eq_true, not_true_eq_false, and_true, true_and, and_self] <;> omega), f0.2.2.1 r0 7 |> fun _ => show σ0.2.2 = σ1.2.2 by rw [hσ0]; rfl] at h2
    refine ⟨(a5 r2 h2).1, fun j hj => ?_⟩
    rw [fr_J b1 (r0 + 8) (ob_n (by omega)) (by simp (disch := omega) only [cd_n, cd_p, List.mem_cons, List.mem_singleton, List.not_mem_nil, or_false, false_or, or_true, true_or, not_or, not_false_eq_true, not_true_eq_false, and_true, true_and, and_self] <;> omega), hσ0, sJ_r _ _ (by omega), sJ_r _ _ (by omega), sJ_r _ _ (by omega), sJ_r _ _ (by omega)]
    exact (a5 r2 h2).2 j hj
