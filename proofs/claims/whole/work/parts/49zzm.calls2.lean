/-! calls: of a SAYING -/
theorem mSg_of {τ : hSt} {s : Nat} {C : List Int} (h : sgM τ s C) : mSg τ s (cf C) C.length := ⟨h.1, h.2.2.1, h.2.2.2.1⟩
theorem p_stC {Z : hZ} {σ : hSt} {r i : Nat} {C : List Int} (h : saZ Z r C) (hi : i < 6) : f_X4_steepOf Z σ r (i32 (i : Int)) = some (i32 (cnL i C : Int)) :=
  p_stp (T := (0, 0, (fun j => (cnL j C : Int)), (fun _ => 0), 0, 0, [], [])) h.2.2.2.2.2.1 h.2.2.2.2.2.2 hi
noncomputable def prM (z : Int) : Int32 := if 3 ≤ z ∧ z ≤ 1000000007 then pri z.toNat else 0
theorem prM_c (z : Int) : prM z = 0 ∨ (prM z = 1 ∧ (3 ≤ z ∧ z ≤ 1000000007) ∧ nPr z.toNat) := by
  unfold prM
  by_cases c : 3 ≤ z ∧ z ≤ 1000000007
  · rw [if_pos c]
    by_cases d : nPr z.toNat
    · exact Or.inr ⟨pri_t d, c, d⟩
    · exact Or.inl (pri_f d)
  · exact Or.inl (if_neg c)
theorem pri_01 (n : Nat) : pri n = 0 ∨ pri n = 1 := by
  by_cases d : nPr n
  · exact Or.inr (pri_t d)
  · exact Or.inl (pri_f d)
theorem p_isMod {F : Nat} {z : Int} (hF : 300 ≤ F) (hz : -2147483648 ≤ z ∧ z ≤ 2147483647) : f_X11_isModulus F (i32 z) = some (prM z) := by
  unfold f_X11_isModulus prM
  by_cases c : z ≤ 2
  · rw [if_pos (show i32 z ≤ (2 : Int32) by rw [show (2 : Int32) = i32 2 from rfl, i32_le (by omega)]; exact c), if_neg (by omega)]
  · rw [if_neg (show ¬ i32 z ≤ (2 : Int32) by rw [show (2 : Int32) = i32 2 from rfl, i32_le (by omega)]; exact c), p_isPrime hF hz, obs]
    unfold prI
    by_cases d : z ≤ 1000000007
    · rw [if_pos (show 0 ≤ z ∧ z ≤ 1000000007 by omega), if_pos (show 3 ≤ z ∧ z ≤ 1000000007 by omega)]
      rcases pri_01 z.toNat with e | e <;> rw [e]
      · rfl
      · exact if_neg n10
    · rw [if_neg (show ¬ (0 ≤ z ∧ z ≤ 1000000007) by omega), if_neg (show ¬ (3 ≤ z ∧ z ≤ 1000000007) by omega), if_pos rfl]
theorem p_isRing {F : Nat} {z : Int} (hF : 40000 ≤ F) (hz : -2147483648 ≤ z ∧ z ≤ 2147483647) : f_X12_isRing F (i32 z) = some (prM z) := by
  unfold f_X12_isRing prM
  rw [i32_l hz, show (3 : Int64) = i64 3 from rfl, show (1000000007 : Int64) = i64 1000000007 from rfl, p_isIn (by omega) (by omega) (by omega), obs]
  by_cases c : 3 ≤ z ∧ z ≤ 1000000007
  · have e : z = (z.toNat : Int) := by omega
    rw [decide_eq_true c, b01t, if_neg n10, if_pos c]
    rw [e, p_mprime hF (by omega), obs, ← e]
    rcases pri_01 z.toNat with e | e <;> rw [e]
    · rfl
    · exact if_neg n10
  · rw [decide_eq_false c, b01f, if_pos rfl, if_neg c]
theorem q_prime {A : HA} {Z : hZ} {σ τ : hSt} {F : Nat} (hF : 50000 ≤ F) (h : J A Z σ τ) (x : Int32) : ∃ v τ', f_X11_prime F x = some v ∧ f_X12_prime F Z τ x = some (v, τ') ∧ J A Z σ τ' := by
  obtain ⟨z, hz, rfl⟩ := ofx x
  refine ⟨prI z, sI τ 200 0 0, ?_, ?_, J_0 h 0⟩
  · unfold f_X11_prime
    rw [p_isPrime (by omega) hz, obs]
    unfold prI
    by_cases c : 0 ≤ z ∧ z ≤ 1000000007
    · rw [if_pos c]
      rcases pri_01 z.toNat with e | e <;> rw [e]
      · exact if_pos (Or.inl rfl)
      · exact if_pos (Or.inr rfl)
    · rw [if_neg c]
      exact if_pos (Or.inl rfl)
  · unfold f_X12_prime prI
    rw [i32_l hz, show (0 : Int64) = i64 0 from rfl, show (1000000007 : Int64) = i64 1000000007 from rfl, p_isIn (by omega) (by omega) (by omega), obs]
    by_cases c : 0 ≤ z ∧ z ≤ 1000000007
    · have e : z = (z.toNat : Int) := by omega
      rw [decide_eq_true c, b01t, if_neg n10, if_pos c]
      rw [e, p_mprime (by omega) (by omega), obs, ← e]
      rcases pri_01 z.toNat with e | e <;> rw [e]
      · rfl
      · exact if_neg n10
    · rw [decide_eq_false c, b01f, if_pos rfl, if_neg c]
theorem q_said {A : HA} {Z : hZ} {σ τ : hSt} {F : Nat} (hF : 50000 ≤ F) (h : J A Z σ τ) (x1 x2 : Int32) : ∃ v τ', f_X11_said Z σ x1 x2 = some v ∧ f_X12_said F Z τ x1 x2 = some (v, τ') ∧ J A Z σ τ' := by
  obtain ⟨z1, hz1, rfl⟩ := ofx x1
  obtain ⟨z2, hz2, rfl⟩ := ofx x2
  obtain ⟨⟨l1, l2⟩, -⟩ := h.2.1
  have m2 := h.2.2.2.1.2.1
  have hn := h.1.1
  have t0 := J_0 h 0
  have m2' := t0.2.2.2.1.2.1
  unfold f_X11_said f_X12_said
  rw [p_misS m2'.1 (by omega) hz1, obs, i32_l hz2, show (0 : Int64) = i64 0 from rfl, show (8 : Int64) = i64 8 from rfl, p_isIn (by omega) (by omega) (by omega), obs]
  rcases ixc z1 (nS_ A) with ⟨s, hs, rfl⟩ | c
  · have hC := h.1.2.1 s hs
    have hz := l2 s hs
    have hm := m2.2 s hs
    have hm' := m2'.2 s hs
    have hnm := nmB_of hC.2
    rw [p_sayAt l1 (by omega) hs hz.1, obs, oc_1, if_pos hz.1, decide_eq_true (show 0 ≤ (s : Int) ∧ (s : Int) < (nS_ A : Int) by omega), b01t, if_neg n10, i32_cn (by omega), if_neg (ix_ok (show s < 21 by omega) (by omega)), if_neg (ix_ok (show s < 21 by omega) (by omega))]
    by_cases e0 : z2 = 0
    · subst e0
      rw [if_pos (show i32 0 = 0 from rfl), decide_eq_true (by decide), b01t, if_neg n10, if_pos (show i32 0 = (0 : Int32) from rfl)]
      exact ⟨_, _, by rw [hz.2.2.1], by rw [hm.2.2.2.2.1], t0⟩
    · rw [if_neg (show ¬ i32 z2 = 0 by rw [show (0 : Int32) = i32 0 from rfl, i32_eq (by omega)]; exact e0), if_neg (show ¬ i32 z2 = (0 : Int32) by rw [show (0 : Int32) = i32 0 from rfl, i32_eq (by omega)]; exact e0)]
      by_cases e1 : z2 = 1
      · subst e1
        rw [if_pos (show i32 1 = 1 from rfl), decide_eq_true (by decide), b01t, if_neg n10, if_pos (show i32 1 = (1 : Int32) from rfl)]
        exact ⟨_, _, by rw [hz.2.2.2.1], by rw [hm.2.2.2.2.2.2], t0⟩
      · rw [if_neg (show ¬ i32 z2 = 1 by rw [show (1 : Int32) = i32 1 from rfl, i32_eq (by omega)]; exact e1), if_neg (show ¬ i32 z2 = (1 : Int32) by rw [show (1 : Int32) = i32 1 from rfl, i32_eq (by omega)]; exact e1)]
        by_cases e2 : z2 = 2
        · subst e2
          obtain ⟨υ, u1, u2⟩ := p_mcount (Z := Z) (F := F) (s := s) (τ := sI τ 200 0 0) (by omega) hC.2 hnm (mSg_of hm') hm'.2.2.2.2.1
          rw [if_pos (show i32 2 = 2 from rfl), decide_eq_true (by decide), b01t, if_neg n10, if_pos (show i32 2 = (2 : Int32) from rfl), u1, obs]
          exact ⟨_, _, by rw [hz.2.2.2.2.1]; rfl, rfl, J_W t0 (fr_rf [] _) u2 (by decide) (by decide) (by decide) (by decide) (by decide)⟩
        · rw [if_neg (show ¬ i32 z2 = 2 by rw [show (2 : Int32) = i32 2 from rfl, i32_eq (by omega)]; exact e2), if_neg (show ¬ i32 z2 = (2 : Int32) by rw [show (2 : Int32) = i32 2 from rfl, i32_eq (by omega)]; exact e2)]
          by_cases e3 : z2 < 3
          · rw [if_pos (show i32 z2 < (3 : Int32) by rw [show (3 : Int32) = i32 3 from rfl, i32_lt (by omega)]; exact e3), decide_eq_false (by omega), b01f, if_pos rfl]
            exact ⟨_, _, rfl, rfl, t0⟩
          · rw [if_neg (show ¬ i32 z2 < (3 : Int32) by rw [show (3 : Int32) = i32 3 from rfl, i32_lt (by omega)]; exact e3)]
            by_cases e8 : z2 ≤ 8
            · obtain ⟨i, hi, rfl⟩ : ∃ i : Nat, i < 6 ∧ z2 = (i : Int) + 3 := ⟨(z2 - 3).toNat, by omega, by omega⟩
              have q1 : i32 ((i : Int) + 3) - (3 : Int32) = i32 (i : Int) := by rw [show (3 : Int32) = i32 3 from rfl, i32_sub]; congr 1; omega
              have q2 : (6 : Int32) * i32 (s : Int) + i32 ((i : Int) + 3) - (3 : Int32) = i32 ((6 * s + i : Nat) : Int) := by rw [show (3 : Int32) = i32 3 from rfl, show (6 : Int32) = i32 6 from rfl, i32_mul, i32_add, i32_sub]; congr 1; omega
              rw [if_pos (show i32 ((i : Int) + 3) ≤ (8 : Int32) by rw [show (8 : Int32) = i32 8 from rfl, i32_le (by omega)]; exact e8), decide_eq_true (by omega), b01t, if_neg n10, q1, p_stC hz hi, obs, q2, i32_cn (by omega), if_neg (ix_ok (show 6 * s + i < 126 by omega) (by omega)), hm.2.2.2.2.2.1 i hi]
              exact ⟨_, _, rfl, rfl, t0⟩
            · rw [if_neg (show ¬ i32 z2 ≤ (8 : Int32) by rw [show (8 : Int32) = i32 8 from rfl, i32_le (by omega)]; exact e8), decide_eq_false (by omega), b01f, if_pos rfl]
              exact ⟨_, _, rfl, rfl, t0⟩
  · rw [p_sayNo l1 (by omega) hz1 c, obs, decide_eq_false c, b01f, if_pos rfl]
    exact ⟨_, _, rfl, rfl, t0⟩
theorem p_truthL {Z : hZ} {b : Nat} {K : hSt → Option (Int32 × hSt)} (hb : b < 64) : ∀ (k x M : Nat) (σ : hSt), x + k = 6 → k < M → rowJ σ 9 (ptK b) x → ∃ σ', fr [9] σ σ' ∧ rowJ σ' 9 (ptK b) 6 ∧ f_X11_truth_L25 Z (i32 (b : Int)) K M σ (i32 (x : Int)) = K σ' := by
  intro k
  induction k with
  | zero =>
    intro x M σ hx hM h9
    obtain ⟨M, rfl⟩ : ∃ q, M = q + 1 := ⟨M - 1, by omega⟩
    obtain rfl : x = 6 := by omega
    refine ⟨σ, fr_rf _ _, h9, ?_⟩
    rw [f_X11_truth_L25, if_pos (show (6 : Int32) ≤ i32 ((6 : Nat) : Int) by decide)]
  | succ k ih =>
    intro x M σ hx hM h9
    obtain ⟨M, rfl⟩ : ∃ q, M = q + 1 := ⟨M - 1, by omega⟩
    have hv : ((b / 2 ^ x % 2 : Nat) : Int) = ptK b x := rfl
    have hr := bit_rg b x
    have h9' : rowJ (sJ σ 9 x (i64 (ptK b x))) 9 (ptK b) (x + 1) := by
      intro q hq
      by_cases e : q = x
      · rw [sJ_t _ _ ⟨rfl, e⟩, e]
      · rw [sJ_j _ _ (by omega)]; exact h9 q (by omega)
    obtain ⟨σ', e1, e2, e3⟩ := ih (x + 1) M (sJ σ 9 x (i64 (ptK b x))) (by omega) (by omega) h9'
    refine ⟨σ', fr_tr (fr_sJ _ _ (by rw [cd_a rfl]; decide)) e1, e2, ?_⟩
    rw [f_X11_truth_L25, if_neg (show ¬ (6 : Int32) ≤ i32 (x : Int) by rw [show (6 : Int32) = i32 6 from rfl, i32_le (by omega)]; omega), bit_i32 hb (by omega), i32_l (by omega), hv, p_put σ _ (by omega), obs, ip1]
    exact e3
theorem q_truth {A : HA} {Z : hZ} {σ τ : hSt} {F : Nat} (hF : 50000 ≤ F) (h : J A Z σ τ) (x1 x2 : Int32) : ∃ v σ' τ', f_X11_truth F Z σ x1 x2 = some (v, σ') ∧ f_X12_truth F Z τ x1 x2 = some (v, τ') ∧ J A Z σ' τ' := by
  obtain ⟨z1, hz1, rfl⟩ := ofx x1
  obtain ⟨z2, hz2, rfl⟩ := ofx x2
  obtain ⟨⟨l1, l2⟩, -⟩ := h.2.1
  have m2 := h.2.2.2.1.2.1
  have hn := h.1.1
  have t0 := J_0 h 0
  have m2' := t0.2.2.2.1.2.1
  unfold f_X11_truth f_X12_truth
  rw [p_misS m2'.1 (by omega) hz1, obs, i32_l hz2, show (0 : Int64) = i64 0 from rfl, show (63 : Int64) = i64 63 from rfl, p_isIn (by omega) (by omega) (by omega), obs]
  rcases ixc z1 (nS_ A) with ⟨s, hs, rfl⟩ | c
  · have hC := h.1.2.1 s hs
    have hz := l2 s hs
    have hm' := m2'.2 s hs
    have hnm := nmB_of hC.2
    rw [p_sayAt l1 (by omega) hs hz.1, obs, oc_1, if_pos hz.1, decide_eq_true (show 0 ≤ (s : Int) ∧ (s : Int) < (nS_ A : Int) by omega), b01t, if_neg n10]
    by_cases e0 : z2 < 0
    · rw [if_pos (show i32 z2 < (0 : Int32) by rw [show (0 : Int32) = i32 0 from rfl, i32_lt (by omega)]; exact e0), decide_eq_false (by omega), b01f, if_pos rfl]
      exact ⟨_, _, _, rfl, rfl, t0⟩
    · rw [if_neg (show ¬ i32 z2 < (0 : Int32) by rw [show (0 : Int32) = i32 0 from rfl, i32_lt (by omega)]; exact e0)]
      by_cases e1 : z2 < 64
      · obtain ⟨b, hb, rfl⟩ : ∃ b : Nat, b < 64 ∧ z2 = (b : Int) := ⟨z2.toNat, by omega, by omega⟩
        obtain ⟨υ, u1, u2⟩ := p_mtrue (Z := Z) (F := F) (s := s) (nm := 0) (τ := sI τ 200 0 0) (by omega) hC.2 hb (mSg_of hm')
        obtain ⟨σ1, a1, a2, a3⟩ := p_truthL (Z := Z) (K := (fun σ1 => (f_X3_worthOf F Z σ1 (1000 + s) 1000000007).bind fun q7 => some ((q7.1 : Int64).toInt32, q7.2))) hb 6 0 F σ (by omega) (by omega) (fun q hq => absurd hq (Nat.not_lt_zero q))
        have hpt : inP 1000000007 (ptK b) 6 := ptK_in (by decide) b 6
        obtain ⟨σ2, b1, b2⟩ := pg_worthOf (Z := Z) (F := F) (p := 1000000007) (by omega) hz.2.1 hC.2 hnm (by decide) hpt σ1 (fun q hq => a2 q (by have := hnm.1; omega))
        have h01 := Wv_01 (p := 1000000007) (pt := ptK b) (by decide) hC.2 (ptK_in (by decide) b 6)
        rw [if_pos (show i32 (b : Int) < (64 : Int32) by rw [show (64 : Int32) = i32 64 from rfl, i32_lt (by omega)]; exact e1), decide_eq_true (by omega), b01t, if_neg n10, u1, obs]
        refine ⟨i32 (Wv 1000000007 (ptK b) (cf (fS A s)) (fS A s).length), σ2, υ, ?_, ?_, J_W t0 (fr_tr (fr_mono a1 (by decide)) (fr_mono b2 (by decide)) : fr [8, 9] σ σ2) u2 (by decide) (by decide) (by decide) (by decide) (by decide)⟩
        · refine Eq.trans a3 ?_
          rw [show (1000000007 : Int64) = i64 1000000007 from rfl, b1, obs]
          dsimp only
          rw [i64_i]
        · dsimp only
          rcases h01 with e | e
          · rw [e]; rfl
          · rw [e]; rfl
      · rw [if_neg (show ¬ i32 z2 < (64 : Int32) by rw [show (64 : Int32) = i32 64 from rfl, i32_lt (by omega)]; exact e1), decide_eq_false (by omega), b01f, if_pos rfl]
        exact ⟨_, _, _, rfl, rfl, t0⟩
  · rw [p_sayNo l1 (by omega) hz1 c, obs, decide_eq_false c, b01f, if_pos rfl]
    exact ⟨_, _, _, rfl, rfl, t0⟩
