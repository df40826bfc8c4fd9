/-! whole TALKS by draws and fixed, class -/
theorem fr_rgI {T : TK} {y : Int} {fx : Bool} {m0 : Int64} : ∀ k i, i ≤ frI T y fx m0 k i ∧ frI T y fx m0 k i ≤ i + k := by
  intro k
  induction k with
  | zero => intro i; exact ⟨Nat.le_refl _, Nat.le_refl _⟩
  | succ k ih =>
    intro i
    rw [frI]
    have := ih (i + 1)
    split <;> omega
theorem p_goD {F : Nat} {Z : hZ} {r0 r1 s tl tg : Nat} {Tf : Nat → TK} {y : Int} {m0 : Int64} {K : hSt → Option (Int32 × hSt)} (hF : 1000 ≤ F) (hr : r0 = 14 ∨ r0 = 15) (hz : tkZ Z r1 s tl tg (Tf r1)) (hT : okT (Tf r1)) : ∀ (k i M : Nat) (σ : hSt), i + k = kN (Tf r1) → k < M → crG Z Tf r0 r1 s tl y false m0 i i (-1) σ → σ.2.1 r0 14 = (rnS (Tf r1) y false m0 i).2.2 → ∃ σ', fr (WX r0) σ σ' ∧ (frI (Tf r1) y false m0 k i = kN (Tf r1) → f_X1_goByDraws_L15 F Z r0 r1 K M σ (i32 (i : Int)) = K σ' ∧ crG Z Tf r0 r1 s tl y false m0 (kN (Tf r1)) (kN (Tf r1)) (-1) σ') ∧ (¬ frI (Tf r1) y false m0 k i = kN (Tf r1) → f_X1_goByDraws_L15 F Z r0 r1 K M σ (i32 (i : Int)) = some (0, σ') ∧ crG Z Tf r0 r1 s tl y false m0 (frI (Tf r1) y false m0 k i) (frI (Tf r1) y false m0 k i + 1) (frI (Tf r1) y false m0 k i) σ') := by
  have hN := hT.1
  have hP := hT.2.2.1
  intro k
  induction k with
  | zero =>
    intro i M σ hik hM h hm
    obtain ⟨M, rfl⟩ : ∃ q, M = q + 1 := ⟨M - 1, by omega⟩
    obtain rfl : i = kN (Tf r1) := by omega
    refine ⟨σ, fr_rf _ _, fun _ => ⟨?_, h⟩, fun z => absurd rfl z⟩
    rw [f_X1_goByDraws_L15, hz.1, oc_1, if_pos hz.2.1, hz.2.2.2.2.2.2.2.2.2.1, if_pos (Int32.le_refl _)]
  | succ k ih =>
    intro i M σ hik hM h hm
    obtain ⟨M, rfl⟩ : ∃ q, M = q + 1 := ⟨M - 1, by omega⟩
    obtain ⟨σ1, a1, a2, a3, a4⟩ := go_say hF hr hz hT (by omega) h
    obtain ⟨σ2, b1, b2, b3⟩ := go_agr hF hr hz hT (by omega) a3
    have b2' : fr (WX r0) σ1 σ2 := fr_mono b2 (fun x hx => by simp only [WX, List.mem_cons, List.not_mem_nil, or_false] at hx ⊢; omega)
    have hfr : frI (Tf r1) y false m0 (k + 1) i = if agI (Tf r1) y (rnS (Tf r1) y false m0 i).1 i (rnS (Tf r1) y false m0 i).2.1 = true then frI (Tf r1) y false m0 k (i + 1) else i := rfl
    rw [f_X1_goByDraws_L15, hz.1, oc_1, if_pos hz.2.1, hz.2.2.2.2.2.2.2.2.2.1, if_neg (show ¬ i32 (kN (Tf r1) : Int) ≤ i32 (i : Int) by rw [i32_le (by omega)]; omega), a1, obs]
    dsimp only
    rw [b1, obs, hfr]
    dsimp only
    cases hag : agI (Tf r1) y (rnS (Tf r1) y false m0 i).1 i (rnS (Tf r1) y false m0 i).2.1 with
    | false =>
      rw [if_neg (show ¬ false = true by decide), b01f, if_pos rfl]
      exact ⟨_, fr_tr a2 (fr_tr b2' (fr_sI _ _ (by simp (disch := omega) only [cd_n, cd_p, WX, List.mem_cons, List.mem_singleton, List.not_mem_nil, or_false, false_or, or_true, true_or, not_or, not_false_eq_true, not_true_eq_false, and_true, true_and, and_self] <;> omega))), fun z => absurd z (by omega), fun _ => ⟨rfl, go_gave _ hr (by omega) b3⟩⟩
    | true =>
      rw [if_pos rfl, b01t, if_neg n10, p_stir, obs]
      dsimp only
      obtain ⟨σ4, d1, d2, d3⟩ := go_dice hF hr hz hT (by omega) (go_mix (x := mixR (σ2.2.1 r0 14) 0) hr (by omega) b3)
      have d2' : fr (WX r0) (sJ σ2 r0 14 (mixR (σ2.2.1 r0 14) 0)) σ4 := fr_mono d2 (fun x hx => by simp only [WX, List.mem_cons, List.not_mem_nil, or_false] at hx ⊢; omega)
      have hm4 : σ4.2.1 r0 14 = miR (Tf r1) y false i (rnS (Tf r1) y false m0 i) := by
        rw [d2.2.1 r0 14 (by simp (disch := omega) only [cd_n, cd_p, List.mem_cons, List.mem_singleton, List.not_mem_nil, or_false, false_or, or_true, true_or, not_or, not_false_eq_true, not_true_eq_false, and_true, true_and, and_self] <;> omega), sJ_t _ _ ⟨rfl, rfl⟩, b2.2.1 r0 14 (by simp (disch := omega) only [cd_n, cd_p, List.mem_cons, List.mem_singleton, List.not_mem_nil, or_false, false_or, or_true, true_or, not_or, not_false_eq_true, not_true_eq_false, and_true, true_and, and_self] <;> omega), a4, hm]
        rfl
      have hd := ds_rg (i := i) hT
      rw [d1, obs]
      dsimp only
      rw [p_drawOfDice (by omega), obs, hm4]
      obtain ⟨σ5, e1, e2, e3, e4⟩ := go_move hF hr hz hT (by omega) d3
      rw [e1, obs]
      dsimp only
      rw [ip1]
      obtain ⟨σ6, u1, u2, u3⟩ := ih (i + 1) M σ5 (by omega) (by omega) e3 (by rw [e4, hm4]; rfl)
      exact ⟨σ6, fr_tr a2 (fr_tr b2' (fr_tr (fr_sJ _ _ (by simp (disch := omega) only [cd_n, cd_p, WX, List.mem_cons, List.mem_singleton, List.not_mem_nil, or_false, false_or, or_true, true_or, not_or, not_false_eq_true, not_true_eq_false, and_true, true_and, and_self] <;> omega)) (fr_tr d2' (fr_tr e2 u1)))), u2, u3⟩
theorem p_go41 {Z : hZ} {r0 r1 s tl tg i : Nat} {Tf : Nat → TK} {y : Int} {m0 : Int64} {K : hSt → Option (Int32 × hSt)} (hr : r0 = 14 ∨ r0 = 15) (hz : tkZ Z r1 s tl tg (Tf r1)) (hT : okT (Tf r1)) (hi : i < kN (Tf r1)) : ∀ (k j M : Nat) (σ : hSt), j + k = (kS (Tf r1) i).toNat + 1 → k < M → crG Z Tf r0 r1 s tl y true m0 i (i + 1) (-1) σ → ∃ σ', fr [10000 + 100 * r0 + 14] σ σ' ∧ crG Z Tf r0 r1 s tl y true m0 i (i + 1) (-1) σ' ∧ σ'.2.1 r0 14 = foldM (fun j => sdI (Tf r1) y (rnS (Tf r1) y true m0 i).1 i (rnS (Tf r1) y true m0 i).2.1 j) k j (σ.2.1 r0 14) ∧ f_X1_goFixed_L41 Z r0 r1 (i32 (i : Int)) K M σ (i32 (j : Int)) = K σ' := by
  have hN := hT.1
  have hS := hT.2.2.2.2.2.1 i (by omega)
  intro k
  induction k with
  | zero =>
    intro j M σ hj hM h
    obtain ⟨M, rfl⟩ : ∃ q, M = q + 1 := ⟨M - 1, by omega⟩
    refine ⟨σ, fr_rf _ _, h, (foldM_0 _ _ _).symm, ?_⟩
    rw [f_X1_goFixed_L41, hz.1, oc_1, if_pos hz.2.1, p_stp hz.2.2.2.2.2.2.2.2.2.2.2.1 hz.2.2.2.2.2.2.2.2.2.2.2.2.1 (by omega), obs, if_pos (show i32 (kS (Tf r1) i) < i32 (j : Int) by rw [i32_lt (by omega)]; omega)]
  | succ k ih =>
    intro j M σ hj hM h
    obtain ⟨M, rfl⟩ : ∃ q, M = q + 1 := ⟨M - 1, by omega⟩
    obtain ⟨σ', e1, e2, e3, e4⟩ := ih (j + 1) M _ (by omega) (by omega) (go_mix (x := mixI (σ.2.1 r0 14) (sdI (Tf r1) y (rnS (Tf r1) y true m0 i).1 i (rnS (Tf r1) y true m0 i).2.1 (j : Int))) hr (by omega) h)
    refine ⟨σ', fr_tr (fr_sJ _ _ (by simp (disch := omega) only [cd_n, cd_p, List.mem_cons, List.mem_singleton, List.not_mem_nil, or_false, false_or, or_true, true_or, not_or, not_false_eq_true, not_true_eq_false, and_true, true_and, and_self] <;> omega)) e1, e2, ?_, ?_⟩
    · rw [e3, sJ_t _ _ ⟨rfl, rfl⟩, foldM_s]
    · rw [f_X1_goFixed_L41, hz.1, oc_1, if_pos hz.2.1, p_stp hz.2.2.2.2.2.2.2.2.2.2.2.1 hz.2.2.2.2.2.2.2.2.2.2.2.2.1 (by omega), obs, if_neg (show ¬ i32 (kS (Tf r1) i) < i32 (j : Int) by rw [i32_lt (by omega)]; omega), p_saidAt hr (by omega) (by omega), obs, h.2.2.2.2.2.2.2.2.2.2 i (by omega) j (by omega), p_stir, obs, ip1]
      exact e4
theorem p_goF {F : Nat} {Z : hZ} {r0 r1 s tl tg : Nat} {Tf : Nat → TK} {y : Int} {m0 : Int64} {K : hSt → Option (Int32 × hSt)} (hF : 1000 ≤ F) (hr : r0 = 14 ∨ r0 = 15) (hz : tkZ Z r1 s tl tg (Tf r1)) (hT : okT (Tf r1)) : ∀ (k i M : Nat) (σ : hSt), i + k = kN (Tf r1) → k < M → crG Z Tf r0 r1 s tl y true m0 i i (-1) σ → σ.2.1 r0 14 = (rnS (Tf r1) y true m0 i).2.2 → ∃ σ', fr (WX r0) σ σ' ∧ (frI (Tf r1) y true m0 k i = kN (Tf r1) → f_X1_goFixed_L21 F Z r0 r1 K M σ (i32 (i : Int)) = K σ' ∧ crG Z Tf r0 r1 s tl y true m0 (kN (Tf r1)) (kN (Tf r1)) (-1) σ') ∧ (¬ frI (Tf r1) y true m0 k i = kN (Tf r1) → f_X1_goFixed_L21 F Z r0 r1 K M σ (i32 (i : Int)) = some (0, σ') ∧ crG Z Tf r0 r1 s tl y true m0 (frI (Tf r1) y true m0 k i) (frI (Tf r1) y true m0 k i + 1) (frI (Tf r1) y true m0 k i) σ') := by
  have hN := hT.1
  have hP := hT.2.2.1
  intro k
  induction k with
  | zero =>
    intro i M σ hik hM h hm
    obtain ⟨M, rfl⟩ : ∃ q, M = q + 1 := ⟨M - 1, by omega⟩
    obtain rfl : i = kN (Tf r1) := by omega
    refine ⟨σ, fr_rf _ _, fun _ => ⟨?_, h⟩, fun z => absurd rfl z⟩
    rw [f_X1_goFixed_L21, hz.1, oc_1, if_pos hz.2.1, hz.2.2.2.2.2.2.2.2.2.1, if_pos (Int32.le_refl _)]
  | succ k ih =>
    intro i M σ hik hM h hm
    obtain ⟨M, rfl⟩ : ∃ q, M = q + 1 := ⟨M - 1, by omega⟩
    have hS := hT.2.2.2.2.2.1 i (by omega)
    obtain ⟨σ1, a1, a2, a3, a4⟩ := go_say hF hr hz hT (by omega) h
    have hfr : frI (Tf r1) y true m0 (k + 1) i = if agI (Tf r1) y (rnS (Tf r1) y true m0 i).1 i (rnS (Tf r1) y true m0 i).2.1 = true then frI (Tf r1) y true m0 k (i + 1) else i := rfl
    rw [f_X1_goFixed_L21, hz.1, oc_1, if_pos hz.2.1, hz.2.2.2.2.2.2.2.2.2.1, if_neg (show ¬ i32 (kN (Tf r1) : Int) ≤ i32 (i : Int) by rw [i32_le (by omega)]; omega), a1, obs]
    dsimp only
    obtain ⟨σ3, c1, c2, c3, c4⟩ := p_go41 (K := fun σ1 => (f_X1_agrees F Z σ1 r0 r1 (i32 (i : Int))).bind fun q15 => (if q15.1 = 0 then some (0, (sI q15.2 r0 11 (i32 (i : Int)))) else (f_X0_dice F Z q15.2 (i32 (i : Int))).bind fun q17 => (f_X1_drawOfDice Z q17.2 r0 q17.1).bind fun q18 => (f_X1_moveOn F Z q17.2 r0 r1 (i32 (i : Int)) q18).bind fun q19 => f_X1_goFixed_L21 F Z r0 r1 K M q19.2 (i32 (i : Int) + 1))) hr hz hT (show i < kN (Tf r1) by omega) ((kS (Tf r1) i).toNat + 1) 0 F σ1 (by omega) (by omega) a3
    have c1' : fr (WX r0) σ1 σ3 := fr_mono c1 (fun x hx => by simp only [WX, List.mem_cons, List.not_mem_nil, or_false] at hx ⊢; omega)
    obtain ⟨σ2, b1, b2, b3⟩ := go_agr hF hr hz hT (by omega) c2
    have b2' : fr (WX r0) σ3 σ2 := fr_mono b2 (fun x hx => by simp only [WX, List.mem_cons, List.not_mem_nil, or_false] at hx ⊢; omega)
    rw [show f_X1_goFixed_L41 Z r0 r1 (i32 (i : Int)) _ F σ1 0 = _ from c4, b1, obs, hfr]
    dsimp only
    cases hag : agI (Tf r1) y (rnS (Tf r1) y true m0 i).1 i (rnS (Tf r1) y true m0 i).2.1 with
    | false =>
      rw [if_neg (show ¬ false = true by decide), b01f, if_pos rfl]
      exact ⟨_, fr_tr a2 (fr_tr c1' (fr_tr b2' (fr_sI _ _ (by simp (disch := omega) only [cd_n, cd_p, WX, List.mem_cons, List.mem_singleton, List.not_mem_nil, or_false, false_or, or_true, true_or, not_or, not_false_eq_true, not_true_eq_false, and_true, true_and, and_self] <;> omega)))), fun z => absurd z (by omega), fun _ => ⟨rfl, go_gave _ hr (by omega) b3⟩⟩
    | true =>
      rw [if_pos rfl, b01t, if_neg n10]
      obtain ⟨σ4, d1, d2, d3⟩ := go_dice hF hr hz hT (by omega) b3
      have d2' : fr (WX r0) σ2 σ4 := fr_mono d2 (fun x hx => by simp only [WX, List.mem_cons, List.not_mem_nil, or_false] at hx ⊢; omega)
      have hm4 : σ4.2.1 r0 14 = miR (Tf r1) y true i (rnS (Tf r1) y true m0 i) := by
        rw [d2.2.1 r0 14 (by simp (disch := omega) only [cd_n, cd_p, List.mem_cons, List.mem_singleton, List.not_mem_nil, or_false, false_or, or_true, true_or, not_or, not_false_eq_true, not_true_eq_false, and_true, true_and, and_self] <;> omega), b2.2.1 r0 14 (by simp (disch := omega) only [cd_n, cd_p, List.mem_cons, List.mem_singleton, List.not_mem_nil, or_false, false_or, or_true, true_or, not_or, not_false_eq_true, not_true_eq_false, and_true, true_and, and_self] <;> omega), c3, a4, hm]
        rfl
      have hd := ds_rg (i := i) hT
      rw [d1, obs]
      dsimp only
      rw [p_drawOfDice (by omega), obs, hm4]
      obtain ⟨σ5, e1, e2, e3, e4⟩ := go_move hF hr hz hT (by omega) d3
      rw [e1, obs]
      dsimp only
      rw [ip1]
      obtain ⟨σ6, u1, u2, u3⟩ := ih (i + 1) M σ5 (by omega) (by omega) e3 (by rw [e4, hm4]; rfl)
      exact ⟨σ6, fr_tr a2 (fr_tr c1' (fr_tr b2' (fr_tr d2' (fr_tr e2 u1)))), u2, u3⟩
def G_I (T : TK) (y : Int) (fx : Bool) (m0 : Int64) : Nat := frI T y fx m0 (kN T) 0
def bvI (T : TK) (y : Int) (fx : Bool) (m0 : Int64) : Bool := decide (G_I T y fx m0 = kN T) && enI T (rnS T y fx m0 (kN T)).1 (rnS T y fx m0 (kN T)).2.1
def nsI (T : TK) (y : Int) (fx : Bool) (m0 : Int64) : Nat := if G_I T y fx m0 = kN T then kN T else G_I T y fx m0 + 1
def ggI (T : TK) (y : Int) (fx : Bool) (m0 : Int64) : Int := if bvI T y fx m0 = true then -1 else (G_I T y fx m0 : Int)
theorem go_fin {F : Nat} {Z : hZ} {r0 r1 s tl tg : Nat} {Tf : Nat → TK} {y : Int} {fx : Bool} {m0 : Int64} {σ : hSt} (hF : 1000 ≤ F) (hr : r0 = 14 ∨ r0 = 15) (hz : tkZ Z r1 s tl tg (Tf r1)) (hT : okT (Tf r1)) (hG : G_I (Tf r1) y fx m0 = kN (Tf r1)) (h : crG Z Tf r0 r1 s tl y fx m0 (kN (Tf r1)) (kN (Tf r1)) (-1) σ) : ∃ σ', fr (WX r0) σ σ' ∧ f_X1_believesAtEnd F Z σ r0 r1 = some (b01 (bvI (Tf r1) y fx m0), σ') ∧ crG Z Tf r0 r1 s tl y fx m0 (G_I (Tf r1) y fx m0) (nsI (Tf r1) y fx m0) (ggI (Tf r1) y fx m0) σ' := by
  have hN := hT.1
  have rg := rn_rg (y := y) (fx := fx) (m0 := m0) hT (kN (Tf r1))
  obtain ⟨h1, h2, h3, h4, h5, h6, h7, h8, h9, h10, h11⟩ := h
  obtain ⟨σ1, a1, a2, a3, a4⟩ := p_end (ds := (rnS (Tf r1) y fx m0 (kN (Tf r1))).1) hF hr hz hT h1 rg.2.2 h3 rg.1 h4
  have hb : bvI (Tf r1) y fx m0 = enI (Tf r1) (rnS (Tf r1) y fx m0 (kN (Tf r1))).1 (rnS (Tf r1) y fx m0 (kN (Tf r1))).2.1 := by unfold bvI; rw [decide_eq_true hG]; rfl
  refine ⟨σ1, fr_mono a2 (fun x hx => by simp only [WX, List.mem_cons, List.not_mem_nil, or_false] at hx ⊢; omega), by rw [hb]; exact a1, ?_⟩
  have hns : nsI (Tf r1) y fx m0 = kN (Tf r1) := by unfold nsI; rw [if_pos hG]
  rw [hG, hns]
  refine ⟨?_, caS_W hr h2 a2 (by simp (disch := omega) only [cd_n, cd_p, List.mem_cons, List.mem_singleton, List.not_mem_nil, or_false, false_or, or_true, true_or, not_or, not_false_eq_true, not_true_eq_false, and_true, true_and, and_self] <;> omega) (by simp (disch := omega) only [cd_n, cd_p, List.mem_cons, List.mem_singleton, List.not_mem_nil, or_false, false_or, or_true, true_or, not_or, not_false_eq_true, not_true_eq_false, and_true, true_and, and_self] <;> omega), ?_, fun q hq => ?_, ?_, ?_, ?_, ?_, ?_, ?_, fun x hx q hq => ?_⟩
  · exact a4
  · rw [a2.2.1 r0 10 (by simp (disch := omega) only [cd_n, cd_p, List.mem_cons, List.mem_singleton, List.not_mem_nil, or_false, false_or, or_true, true_or, not_or, not_false_eq_true, not_true_eq_false, and_true, true_and, and_self] <;> omega)]; exact h3
  · rw [fr_J a2 (r0 + 4) (ob_n (by omega)) (by simp (disch := omega) only [cd_n, cd_p, List.mem_cons, List.mem_singleton, List.not_mem_nil, or_false, false_or, or_true, true_or, not_or, not_false_eq_true, not_true_eq_false, and_true, true_and, and_self] <;> omega)]; exact h4 q hq
  · rw [fr_J a2 (r0 + 2) (ob_n (by omega)) (by simp (disch := omega) only [cd_n, cd_p, List.mem_cons, List.mem_singleton, List.not_mem_nil, or_false, false_or, or_true, true_or, not_or, not_false_eq_true, not_true_eq_false, and_true, true_and, and_self] <;> omega)]; exact h5
  · rw [a2.2.2.1 r0 8 (by simp (disch := omega) only [cd_n, cd_p, List.mem_cons, List.mem_singleton, List.not_mem_nil, or_false, false_or, or_true, true_or, not_or, not_false_eq_true, not_true_eq_false, and_true, true_and, and_self] <;> omega)]; exact h6
  · rw [a2.2.1 r0 9 (by simp (disch := omega) only [cd_n, cd_p, List.mem_cons, List.mem_singleton, List.not_mem_nil, or_false, false_or, or_true, true_or, not_or, not_false_eq_true, not_true_eq_false, and_true, true_and, and_self] <;> omega)]; exact h7
  · rw [a3]
    unfold ggI
    rw [hb, hG]
    split
    · exact h8
    · rfl
  · rw [a2.1 r0 12 (by simp (disch := omega) only [cd_n, cd_p, List.mem_cons, List.mem_singleton, List.not_mem_nil, or_false, false_or, or_true, true_or, not_or, not_false_eq_true, not_true_eq_false, and_true, true_and, and_self] <;> omega)]; exact h9
  · rw [a2.1 r0 13 (by simp (disch := omega) only [cd_n, cd_p, List.mem_cons, List.mem_singleton, List.not_mem_nil, or_false, false_or, or_true, true_or, not_or, not_false_eq_true, not_true_eq_false, and_true, true_and, and_self] <;> omega)]; exact h10
  · rw [fr_J a2 (24 + 6 * (r0 - 14) + x) (ob_n (by omega)) (by simp (disch := omega) only [cd_n, cd_p, List.mem_cons, List.mem_singleton, List.not_mem_nil, or_false, false_or, or_true, true_or, not_or, not_false_eq_true, not_true_eq_false, and_true, true_and, and_self] <;> omega)]; exact h11 x hx q hq
