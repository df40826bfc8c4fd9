/-! the best liar's odds: how many draws, how many lose -/
def pdI (N P : Int) (sp : Nat → Int) (cs : Cls) : Nat → Nat → Int → Int
  | 0, _, z => z
  | k + 1, i, z => if 1000 < dcI N P sp cs i then 0 else if z * dcI N P sp cs i ≤ 1000000000000000 then pdI N P sp cs k (i + 1) (z * dcI N P sp cs i) else 0
def blI (N P : Int) (sp : Nat → Int) (cs : Cls) : Nat → Nat → Int → Int
  | 0, _, z => z
  | k + 1, i, z => blI N P sp cs k (i + 1) (z * (dcI N P sp cs i - rtI N P sp cs i))
theorem rtI_rg {N P : Int} {sp : Nat → Int} {cs : Cls} {i : Nat} (hP : 1 ≤ P) (hs : 0 ≤ sp i) : 0 ≤ rtI N P sp cs i ∧ rtI N P sp cs i ≤ dcI N P sp cs i := by
  have hd := dcI_rg (N := N) (sp := sp) (cs := cs) (i := i) hP
  unfold rtI
  split
  · split <;> split <;> omega
  · omega
theorem mul_le_of {z w d e : Int} (h1 : 0 ≤ z ∧ z ≤ w) (h2 : 0 ≤ e ∧ e ≤ d) : 0 ≤ z * e ∧ z * e ≤ w * d := by
  refine ⟨Int.mul_nonneg h1.1 h2.1, ?_⟩
  exact Int.le_trans (Int.mul_le_mul_of_nonneg_right h1.2 h2.1) (Int.mul_le_mul_of_nonneg_left h2.2 (by omega))
theorem p_bestL {Z : hZ} {s t F nn : Nat} {P : Int} {sp : Nat → Int} {cs : Cls} {K : hSt → Int64 → Int64 → Option (Int32 × hSt)} (hF : 1000 ≤ F) (hP : 1 ≤ P) : ∀ (k i M : Nat) (σ : hSt) (z1 z3 : Int), i + k = nn → k < M → 0 ≤ z1 → z1 ≤ z3 → 1 ≤ z3 → z3 ≤ 1000000000000000 → sitH Z σ s t (nn : Int) P sp cs → ∃ σ', fr [8, 13] σ σ' ∧ sitH Z σ' s t (nn : Int) P sp cs ∧ f_X0_tellsBest_L7 F Z K M σ (i64 z1) (i64 z3) (i32 (i : Int)) = (if pdI nn P sp cs k i z3 = 0 then some (0, σ') else K σ' (i64 (blI nn P sp cs k i z1)) (i64 (pdI nn P sp cs k i z3))) := by
  intro k
  induction k with
  | zero =>
    intro i M σ z1 z3 hi hM h1 h2 h3 h4 h
    obtain ⟨M, rfl⟩ : ∃ q, M = q + 1 := ⟨M - 1, by omega⟩
    have hN := h.2.2.2.2.2.2.1
    refine ⟨σ, fr_rf _ _, h, ?_⟩
    rw [f_X0_tellsBest_L7, p_rounds h.1 h.2.1 h.2.2.2.2.2.1, obs, if_pos (show i32 (nn : Int) ≤ i32 (i : Int) by rw [i32_le (by omega)]; omega), pdI, blI, if_neg (by omega)]
  | succ k ih =>
    intro i M σ z1 z3 hi hM h1 h2 h3 h4 h
    obtain ⟨M, rfl⟩ : ∃ q, M = q + 1 := ⟨M - 1, by omega⟩
    have hN := h.2.2.2.2.2.2.1
    have hP2 := h.2.2.2.2.2.2.2.1
    have hsp := h.2.2.2.2.2.2.2.2.2.1 i (by omega)
    have hd := dcI_rg (N := nn) (sp := sp) (cs := cs) (i := i) hP
    have hr := rtI_rg (N := nn) (sp := sp) (cs := cs) (i := i) hP hsp.2.1
    obtain ⟨σ1, e1, e2, e3⟩ := p_dice (i := i) hF (by omega) hP h
    rw [f_X0_tellsBest_L7, p_rounds h.1 h.2.1 h.2.2.2.2.2.1, obs, if_neg (show ¬ i32 (nn : Int) ≤ i32 (i : Int) by rw [i32_le (by omega)]; omega), e1, obs, pdI, blI]
    dsimp only
    by_cases c : 1000 < dcI nn P sp cs i
    · rw [if_pos (show (1000 : Int32) < i32 (dcI nn P sp cs i) by rw [show (1000 : Int32) = i32 1000 from rfl, i32_lt (by omega)]; exact c), if_pos c]
      exact ⟨σ1, e2, e3, (if_pos rfl).symm⟩
    · have hz := mul_le_of (z := z3) (w := 1000000000000000) (e := dcI nn P sp cs i) (d := 1000) (by omega) (by omega)
      have hb := mul_le_of (z := z1) (w := z3) (e := dcI nn P sp cs i - rtI nn P sp cs i) (d := dcI nn P sp cs i) (by omega) (by omega)
      rw [if_neg (show ¬ (1000 : Int32) < i32 (dcI nn P sp cs i) by rw [show (1000 : Int32) = i32 1000 from rfl, i32_lt (by omega)]; exact c), if_neg c, i32_l (by omega), i64_mul]
      by_cases d : z3 * dcI nn P sp cs i ≤ 1000000000000000
      · obtain ⟨σ2, u1, u2, u3⟩ := p_roots (i := i) hF (by omega) hP e3
        have hz1 : 1 ≤ z3 * dcI nn P sp cs i := by
          have := Int.mul_le_mul (show (1 : Int) ≤ z3 from h3) hd.1 (by omega) (by omega)
          omega
        obtain ⟨σ3, w1, w2, w3⟩ := ih (i + 1) M σ2 (z1 * (dcI nn P sp cs i - rtI nn P sp cs i)) (z3 * dcI nn P sp cs i) (by omega) (by omega) hb.1 hb.2 hz1 d u3
        rw [if_pos (show i64 (z3 * dcI nn P sp cs i) ≤ (1000000000000000 : Int64) by rw [show (1000000000000000 : Int64) = i64 1000000000000000 from rfl, i64_le (by omega)]; exact d), if_pos d, u1, obs]
        dsimp only
        rw [i32_sub, i32_l (by omega), i64_mul, show i32 (i : Int) + (1 : Int32) = i32 ((i + 1 : Nat) : Int) by rw [show (1 : Int32) = i32 1 from rfl, i32_add]; rfl]
        exact ⟨σ3, fr_tr e2 (fr_tr u2 w1), w2, w3⟩
      · rw [if_neg (show ¬ i64 (z3 * dcI nn P sp cs i) ≤ (1000000000000000 : Int64) by rw [show (1000000000000000 : Int64) = i64 1000000000000000 from rfl, i64_le (by omega)]; exact d), if_neg d]
        exact ⟨σ1, e2, e3, (if_pos rfl).symm⟩
