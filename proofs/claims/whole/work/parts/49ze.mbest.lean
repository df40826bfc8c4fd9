/-! all draws and losing draws, model -/
theorem le_div {z d : Int} (hd : 0 < d) : (z ≤ (1000000000000000 : Int) / d) = (z * d ≤ 1000000000000000) := propext (Int.le_ediv_iff_mul_le hd)
theorem p_mprodL {B : Nat → Nat} {n k0 s F nn : Nat} {P : Int} {sp : Nat → Int} {Z : hZ} (hF : 300 ≤ F) (hP : 1 ≤ P) : ∀ (k i M : Nat) (τ : hSt) (z : Int), i + k = nn → k < M → 1 ≤ z → z ≤ 1000000000000000 → sitM B n k0 s (nn : Int) P sp τ → ∃ υ, fr (213 :: WG) τ υ ∧ sitM B n k0 s (nn : Int) P sp υ ∧ f_X12_product_L6 F Z (i32 (s : Int)) (i32 (k0 : Int)) (i32 P) M τ (i64 z) (i32 (i : Int)) = some (i64 (pdI nn P sp (tZc B n 0) k i z), υ) := by
  intro k
  induction k with
  | zero =>
    intro i M τ z hi hM h1 h2 h
    obtain ⟨M, rfl⟩ : ∃ q, M = q + 1 := ⟨M - 1, by omega⟩
    have hN := h.2.2.2.1
    have hs := h.2.2.1
    refine ⟨τ, fr_rf _ _, h, ?_⟩
    rw [f_X12_product_L6, i32_cn (by omega), if_neg (show ¬ (i32 (s : Int) < (0 : Int32) ∨ 21 ≤ s) by rw [show (0 : Int32) = i32 0 from rfl, i32_lt (by omega)]; omega), h.2.2.2.2.2.1, if_pos (show i32 (nn : Int) ≤ i32 (i : Int) by rw [i32_le (by omega)]; omega), pdI]
  | succ k ih =>
    intro i M τ z hi hM h1 h2 h
    obtain ⟨M, rfl⟩ : ∃ q, M = q + 1 := ⟨M - 1, by omega⟩
    have hN := h.2.2.2.1
    have hs := h.2.2.1
    have hP2 := h.2.2.2.2.1
    have hd := dcI_rg (N := nn) (sp := sp) (cs := tZc B n 0) (i := i) hP
    obtain ⟨υ1, e1, e2, e3⟩ := p_mdraws (Z := Z) (i := i) hF (by omega) hP h
    rw [f_X12_product_L6, i32_cn (by omega), if_neg (show ¬ (i32 (s : Int) < (0 : Int32) ∨ 21 ≤ s) by rw [show (0 : Int32) = i32 0 from rfl, i32_lt (by omega)]; omega), h.2.2.2.2.2.1, if_neg (show ¬ i32 (nn : Int) ≤ i32 (i : Int) by rw [i32_le (by omega)]; omega), e1, obs, pdI]
    dsimp only
    by_cases c : 1000 < dcI nn P sp (tZc B n 0) i
    · rw [if_pos (show (1000 : Int32) < i32 (dcI nn P sp (tZc B n 0) i) by rw [show (1000 : Int32) = i32 1000 from rfl, i32_lt (by omega)]; exact c), if_pos c]
      exact ⟨υ1, e2, e3, rfl⟩
    · have hz := mul_le_of (z := z) (w := 1000000000000000) (e := dcI nn P sp (tZc B n 0) i) (d := 1000) (by omega) (by omega)
      have hq : (1000000000000000 : Int) / dcI nn P sp (tZc B n 0) i ≤ 1000000000000000 := Int.ediv_le_self _ (by omega)
      have hq0 : 0 ≤ (1000000000000000 : Int) / dcI nn P sp (tZc B n 0) i := Int.ediv_nonneg (by omega) (by omega)
      rw [if_neg (show ¬ (1000 : Int32) < i32 (dcI nn P sp (tZc B n 0) i) by rw [show (1000 : Int32) = i32 1000 from rfl, i32_lt (by omega)]; exact c), if_neg c, i32_l (by omega), if_neg (show ¬ i64 (dcI nn P sp (tZc B n 0) i) = (0 : Int64) by rw [show (0 : Int64) = i64 0 from rfl, i64_eq (by omega)]; omega), show (1000000000000000 : Int64) = i64 1000000000000000 from rfl, i64_div (by omega), i64_mul]
      by_cases d : z * dcI nn P sp (tZc B n 0) i ≤ 1000000000000000
      · have hz1 : 1 ≤ z * dcI nn P sp (tZc B n 0) i := by
          have := Int.mul_le_mul (show (1 : Int) ≤ z from h1) hd.1 (by omega) (by omega)
          omega
        obtain ⟨υ2, w1, w2, w3⟩ := ih (i + 1) M υ1 (z * dcI nn P sp (tZc B n 0) i) (by omega) (by omega) hz1 d e3
        rw [if_pos (show i64 z ≤ i64 ((1000000000000000 : Int) / dcI nn P sp (tZc B n 0) i) by rw [i64_le (by omega), le_div (by omega)]; exact d), if_pos d, show i32 (i : Int) + (1 : Int32) = i32 ((i + 1 : Nat) : Int) by rw [show (1 : Int32) = i32 1 from rfl, i32_add]; rfl]
        exact ⟨υ2, fr_tr e2 w1, w2, w3⟩
      · rw [if_neg (show ¬ i64 z ≤ i64 ((1000000000000000 : Int) / dcI nn P sp (tZc B n 0) i) by rw [i64_le (by omega), le_div (by omega)]; exact d), if_neg d]
        exact ⟨υ1, e2, e3, rfl⟩
theorem p_mbestL {B : Nat → Nat} {n k0 s F nn : Nat} {P : Int} {y4 : Int32} {y5 : Int64} {sp : Nat → Int} {Z : hZ} {K : hSt → Int64 → Option (Int64 × hSt)} (hF : 300 ≤ F) (hP : 1 ≤ P) : ∀ (k i M : Nat) (τ : hSt) (z : Int), i + k = nn → k < M → sitM B n k0 s (nn : Int) P sp τ → ∃ υ, fr (213 :: WG) τ υ ∧ sitM B n k0 s (nn : Int) P sp υ ∧ f_X12_bestOf_L38 F Z (i32 (s : Int)) (i32 (k0 : Int)) (i32 P) y4 y5 K M τ (i64 z) (i32 (i : Int)) = K υ (i64 (blI nn P sp (tZc B n 0) k i z)) := by
  intro k
  induction k with
  | zero =>
    intro i M τ z hi hM h
    obtain ⟨M, rfl⟩ : ∃ q, M = q + 1 := ⟨M - 1, by omega⟩
    have hN := h.2.2.2.1
    have hs := h.2.2.1
    refine ⟨τ, fr_rf _ _, h, ?_⟩
    rw [f_X12_bestOf_L38, i32_cn (by omega), if_neg (show ¬ (i32 (s : Int) < (0 : Int32) ∨ 21 ≤ s) by rw [show (0 : Int32) = i32 0 from rfl, i32_lt (by omega)]; omega), h.2.2.2.2.2.1, if_pos (show i32 (nn : Int) ≤ i32 (i : Int) by rw [i32_le (by omega)]; omega), blI]
  | succ k ih =>
    intro i M τ z hi hM h
    obtain ⟨M, rfl⟩ : ∃ q, M = q + 1 := ⟨M - 1, by omega⟩
    have hN := h.2.2.2.1
    have hs := h.2.2.1
    have hP2 := h.2.2.2.2.1
    have hsp := h.2.2.2.2.2.2 i (by omega)
    have hd := dcI_rg (N := nn) (sp := sp) (cs := tZc B n 0) (i := i) hP
    have hr := rtI_rg (N := nn) (sp := sp) (cs := tZc B n 0) (i := i) hP hsp.2.1
    obtain ⟨υ1, e1, e2, e3⟩ := p_mdraws (Z := Z) (i := i) hF (by omega) hP h
    obtain ⟨υ2, u1, u2, u3⟩ := p_mroots (Z := Z) (i := i) hF (by omega) hP e3
    obtain ⟨υ3, w1, w2, w3⟩ := ih (i + 1) M υ2 (z * (dcI nn P sp (tZc B n 0) i - rtI nn P sp (tZc B n 0) i)) (by omega) (by omega) u3
    refine ⟨υ3, fr_tr e2 (fr_tr u2 w1), w2, ?_⟩
    rw [f_X12_bestOf_L38, i32_cn (by omega), if_neg (show ¬ (i32 (s : Int) < (0 : Int32) ∨ 21 ≤ s) by rw [show (0 : Int32) = i32 0 from rfl, i32_lt (by omega)]; omega), h.2.2.2.2.2.1, if_neg (show ¬ i32 (nn : Int) ≤ i32 (i : Int) by rw [i32_le (by omega)]; omega), e1, obs, blI]
    dsimp only
    rw [u1, obs]
    dsimp only
    rw [i32_sub, i32_l (by omega), i64_mul, show i32 (i : Int) + (1 : Int32) = i32 ((i + 1 : Nat) : Int) by rw [show (1 : Int32) = i32 1 from rfl, i32_add]; rfl]
    exact w3
