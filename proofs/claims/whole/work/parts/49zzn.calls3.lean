/-! calls: at the POINT -/
theorem p_putP {A : HA} {Z : hZ} {p : Int} (hp : 1 < p ∧ p ≤ 1000000007) (hn : nP_ A ≤ 6) (hf : ∀ j, j < nP_ A → 0 ≤ fP A j ∧ fP A j ≤ 2147483647) : ∀ (k x M : Nat) (σ : hSt), x + k = nP_ A → k < M → JP A σ → rowJ σ 9 (fun j => fP A j % p) x → ∃ σ', fr [9] σ σ' ∧ rowJ σ' 9 (fun j => fP A j % p) (nP_ A) ∧ f_X11_putPoint_L2 Z (i32 p) M σ (i32 (x : Int)) = some ((), σ') := by
  intro k
  induction k with
  | zero =>
    intro x M σ hx hM hj h9
    obtain ⟨M, rfl⟩ : ∃ q, M = q + 1 := ⟨M - 1, by omega⟩
    obtain rfl : x = nP_ A := by omega
    refine ⟨σ, fr_rf _ _, h9, ?_⟩
    rw [f_X11_putPoint_L2, hj.1, if_pos (Int32.le_refl _)]
  | succ k ih =>
    intro x M σ hx hM hj h9
    obtain ⟨M, rfl⟩ : ∃ q, M = q + 1 := ⟨M - 1, by omega⟩
    have f0 : fr [9] σ (sJ σ 9 x (i64 (fP A x % p))) := fr_sJ _ _ (by rw [cd_a rfl]; decide)
    have h9' : rowJ (sJ σ 9 x (i64 (fP A x % p))) 9 (fun j => fP A j % p) (x + 1) := by
      intro q hq
      by_cases e : q = x
      · rw [sJ_t _ _ ⟨rfl, e⟩, e]
      · rw [sJ_j _ _ (by omega)]; exact h9 q (by omega)
    obtain ⟨σ', e1, e2, e3⟩ := ih (x + 1) M (sJ σ 9 x (i64 (fP A x % p))) (by omega) (by omega) (JP_W hj f0 (by decide) (by decide)) h9'
    have hfx := hf x (by omega)
    refine ⟨σ', fr_tr f0 e1, e2, ?_⟩
    rw [f_X11_putPoint_L2, hj.1, if_neg (show ¬ i32 (nP_ A : Int) ≤ i32 (x : Int) by rw [i32_le (by omega)]; omega), if_neg (show ¬ (6 : Int32) ≤ i32 (x : Int) by rw [show (6 : Int32) = i32 6 from rfl, i32_le (by omega)]; omega), i32_cn (by omega), if_neg (ix_ok (show x < 6 by omega) (by omega)), hj.2 x (by omega), i32_l (by omega), i32_l (by omega), p_rest (by omega) (by omega), obs, p_put σ _ (by omega), obs, ip1]
    exact e3
theorem p_putPoint {A : HA} {Z : hZ} {p : Int} {σ : hSt} {F : Nat} (hF : 300 ≤ F) (hA : okA A) (hp : 1 < p ∧ p ≤ 1000000007) (hj : JP A σ) : ∃ σ', f_X11_putPoint F Z σ (i32 p) = some ((), σ') ∧ fr [9] σ σ' ∧ rowJ σ' 9 (fun j => fP A j % p) (nP_ A) := by
  have hn := hA.2.2.2.2.2.2.2.2.2.2
  obtain ⟨σ', e1, e2, e3⟩ := p_putP (Z := Z) hp hn.1 hn.2 (nP_ A) 0 F σ (by omega) (by omega) hj (fun q hq => absurd hq (Nat.not_lt_zero q))
  exact ⟨σ', e3, e1, e2⟩
def jpM (A : HA) (τ : hSt) : Prop := τ.1 200 20 = i32 (nP_ A : Int) ∧ ∀ j, j < nP_ A → τ.1 209 j = i32 (fP A j)
theorem jpM_W {W : List Nat} {A : HA} {τ υ : hSt} (h : jpM A τ) (f : fr W τ υ) (n1 : 209 ∉ W) (n2 : 30020 ∉ W) : jpM A υ := ⟨by rw [f.1 200 20 n2]; exact h.1, fun j hj => by rw [fr_I f 209 rfl n1]; exact h.2 j hj⟩
theorem p_layP {A : HA} {p : Int} (hp : 1 < p ∧ p ≤ 1000000007) (hn : nP_ A ≤ 6) (hf : ∀ j, j < nP_ A → 0 ≤ fP A j ∧ fP A j ≤ 2147483647) : ∀ (k x M : Nat) (τ : hSt), x + k = nP_ A → k < M → jpM A τ → rowJ τ 208 (fun j => fP A j % p) x → ∃ υ, fr [208] τ υ ∧ rowJ υ 208 (fun j => fP A j % p) (nP_ A) ∧ f_X12_layPoint_L2 (i32 p) M τ (i32 (x : Int)) = some ((), υ) := by
  intro k
  induction k with
  | zero =>
    intro x M τ hx hM hj h9
    obtain ⟨M, rfl⟩ : ∃ q, M = q + 1 := ⟨M - 1, by omega⟩
    obtain rfl : x = nP_ A := by omega
    refine ⟨τ, fr_rf _ _, h9, ?_⟩
    rw [f_X12_layPoint_L2, hj.1, if_pos (Int32.le_refl _)]
  | succ k ih =>
    intro x M τ hx hM hj h9
    obtain ⟨M, rfl⟩ : ∃ q, M = q + 1 := ⟨M - 1, by omega⟩
    have f0 : fr [208] τ (sJ τ 208 x (i64 (fP A x % p))) := fr_sJ _ _ (by rw [cd_a rfl]; decide)
    have h9' : rowJ (sJ τ 208 x (i64 (fP A x % p))) 208 (fun j => fP A j % p) (x + 1) := by
      intro q hq
      by_cases e : q = x
      · rw [sJ_t _ _ ⟨rfl, e⟩, e]
      · rw [sJ_j _ _ (by omega)]; exact h9 q (by omega)
    obtain ⟨υ, e1, e2, e3⟩ := ih (x + 1) M (sJ τ 208 x (i64 (fP A x % p))) (by omega) (by omega) (jpM_W hj f0 (by decide) (by decide)) h9'
    have hfx := hf x (by omega)
    have hm := mod_rg (fP A x) (show 0 < p by omega)
    refine ⟨υ, fr_tr f0 e1, e2, ?_⟩
    have hx := ix_ok (show x < 6 by omega) (show x ≤ 100000 by omega)
    rw [f_X12_layPoint_L2, hj.1, if_neg (show ¬ i32 (nP_ A : Int) ≤ i32 (x : Int) by rw [i32_le (by omega)]; omega), i32_cn (by omega), if_neg hx, if_neg (show ¬ i32 p = (0 : Int32) by rw [show (0 : Int32) = i32 0 from rfl, i32_eq (by omega)]; omega), if_neg hx, hj.2 x (by omega), i32_rem (by omega), i32_l (by omega), ip1]
    exact e3
theorem p_layPoint {A : HA} {Z : hZ} {p : Int} {τ : hSt} {F : Nat} (hF : 300 ≤ F) (hA : okA A) (hp : 1 < p ∧ p ≤ 1000000007) (hj : jpM A τ) : ∃ υ, f_X12_layPoint F Z τ (i32 p) = some ((), υ) ∧ fr [208] τ υ ∧ rowJ υ 208 (fun j => fP A j % p) (nP_ A) := by
  have hn := hA.2.2.2.2.2.2.2.2.2.2
  obtain ⟨υ, e1, e2, e3⟩ := p_layP hp hn.1 hn.2 (nP_ A) 0 F τ (by omega) (by omega) hj (fun q hq => absurd hq (Nat.not_lt_zero q))
  exact ⟨υ, e3, e1, e2⟩
theorem inP_pt {A : HA} {p : Int} (hp : 1 < p) : inP p (fun j => fP A j % p) 6 := fun j _ => mod_rg _ (by omega)
theorem toI_i {z : Int} : (i64 z).toInt32 = i32 z := i64_i z
theorem q_worth {A : HA} {Z : hZ} {σ τ : hSt} {F : Nat} (hF : 50000 ≤ F) (h : J A Z σ τ) (x1 x2 : Int32) : ∃ v σ' τ', f_X11_worth F Z σ x1 x2 = some (v, σ') ∧ f_X12_worth F Z τ x1 x2 = some (v, τ') ∧ J A Z σ' τ' := by
  obtain ⟨z1, hz1, rfl⟩ := ofx x1
  obtain ⟨z2, hz2, rfl⟩ := ofx x2
  obtain ⟨⟨l1, l2⟩, -⟩ := h.2.1
  have hn := h.1.1
  have hnP := h.1.2.2.2.2.2.2.2.2.2.2.1
  have t0 := J_0 h 0
  have m2' := t0.2.2.2.1.2.1
  have m7 := h.2.2.2.1.2.2.2.2.2.2.1
  have m7' : jpM A (sI τ 200 0 0) := t0.2.2.2.1.2.2.2.2.2.2.1
  have s2 := h.2.2.1.2.1
  unfold f_X11_worth f_X12_worth
  rw [p_misS m2'.1 (by omega) hz1, obs, p_isRing (by omega) hz2, obs]
  rcases ixc z1 (nS_ A) with ⟨s, hs, rfl⟩ | c
  · have hC := h.1.2.1 s hs
    have hz := l2 s hs
    have hm := h.2.2.2.1.2.1.2 s hs
    have hm' := m2'.2 s hs
    have hnm := nmB_of hC.2
    rw [p_sayAt l1 (by omega) hs hz.1, obs, oc_1, if_pos hz.1, p_isMod (by omega) hz2, obs, decide_eq_true (show 0 ≤ (s : Int) ∧ (s : Int) < (nS_ A : Int) by omega), b01t, if_neg n10, i32_cn (by omega), if_neg (ix_ok (show s < 21 by omega) (by omega)), hz.2.2.1, s2.1, hm.2.2.2.2.1, m7.1]
    rcases prM_c z2 with e | ⟨e, hp, -⟩ <;> rw [e]
    · rw [if_pos rfl, if_pos rfl]
      exact ⟨_, _, _, rfl, rfl, t0⟩
    · rw [if_neg n10, if_neg n10]
      have hn6 := hnm.1
      by_cases c : (nmL (fS A s) : Int) ≤ (nP_ A : Int)
      · obtain ⟨σ1, a1, a2, a3⟩ := p_putPoint (Z := Z) (F := F) (by omega) h.1 (p := z2) (by omega) s2
        obtain ⟨τ1, b1, b2, b3⟩ := p_layPoint (Z := Z) (F := F) (by omega) h.1 (p := z2) (by omega) m7'
        obtain ⟨σ2, c1, c2⟩ := pg_worthOf (Z := Z) (F := F) (by omega) hz.2.1 hC.2 hnm (p := z2) (by omega) (inP_pt (A := A) (by omega)) σ1 (fun q hq => a3 q (by omega))
        obtain ⟨τ2, d1, d2⟩ := pg_mworth (Z := Z) (F := F) (by omega) τ1 (mSg_fr b2 (by decide) (by decide) (mSg_of hm')) hC.2 hnm (p := z2) (by omega) (inP_pt (A := A) (by omega)) (fun q hq => b3 q (by omega))
        rw [if_pos ((leI (by omega)).mpr c), if_pos ((leI (by omega)).mpr c), a1, obs, b1, obs]
        dsimp only
        rw [i32_l hz2, c1, obs, d1, obs]
        exact ⟨_, _, _, rfl, rfl, J_W t0 (fr_tr (fr_mono a2 (by decide)) (fr_mono c2 (by decide)) : fr [8, 9] σ σ2) (fr_tr (fr_mono b2 (by decide)) (fr_mono d2 (by decide)) : fr [207, 208] _ τ2) (by decide) (by decide) (by decide) (by decide) (by decide)⟩
      · rw [if_neg (mt (leI (by omega)).mp c), if_neg (mt (leI (by omega)).mp c)]
        exact ⟨_, _, _, rfl, rfl, t0⟩
  · rw [p_sayNo l1 (by omega) hz1 c, obs, decide_eq_false c, b01f, if_pos rfl]
    exact ⟨_, _, _, rfl, rfl, t0⟩
theorem q_sum {A : HA} {Z : hZ} {σ τ : hSt} {F : Nat} (hF : 50000 ≤ F) (h : J A Z σ τ) (x1 x2 : Int32) : ∃ v σ' τ', f_X11_sum F Z σ x1 x2 = some (v, σ') ∧ f_X12_sum F Z τ x1 x2 = some (v, τ') ∧ J A Z σ' τ' := by
  obtain ⟨z1, hz1, rfl⟩ := ofx x1
  obtain ⟨z2, hz2, rfl⟩ := ofx x2
  obtain ⟨⟨l1, l2⟩, -⟩ := h.2.1
  have hn := h.1.1
  have hnP := h.1.2.2.2.2.2.2.2.2.2.2.1
  have t0 := J_0 h 0
  have m2' := t0.2.2.2.1.2.1
  have m7' : jpM A (sI τ 200 0 0) := t0.2.2.2.1.2.2.2.2.2.2.1
  have s2 := h.2.2.1.2.1
  unfold f_X11_sum f_X12_sum
  rw [p_misS m2'.1 (by omega) hz1, obs, p_isRing (by omega) hz2, obs]
  rcases ixc z1 (nS_ A) with ⟨s, hs, rfl⟩ | c
  · have hC := h.1.2.1 s hs
    have hz := l2 s hs
    have hm' := m2'.2 s hs
    have hnm := nmB_of hC.2
    rw [p_sayAt l1 (by omega) hs hz.1, obs, oc_1, if_pos hz.1, p_isMod (by omega) hz2, obs, decide_eq_true (show 0 ≤ (s : Int) ∧ (s : Int) < (nS_ A : Int) by omega), b01t, if_neg n10]
    rcases prM_c z2 with e | ⟨e, hp, -⟩ <;> rw [e]
    · rw [if_pos rfl, if_pos rfl]
      exact ⟨_, _, _, rfl, rfl, t0⟩
    · rw [if_neg n10, if_neg n10]
      obtain ⟨σ1, a1, a2, a3⟩ := p_putPoint (Z := Z) (F := F) (by omega) h.1 (p := z2) (by omega) s2
      obtain ⟨τ1, b1, b2, b3⟩ := p_layPoint (Z := Z) (F := F) (by omega) h.1 (p := z2) (by omega) m7'
      have s2' := JP_W s2 a2 (by decide) (by decide)
      have m7'' := jpM_W m7' b2 (by decide) (by decide)
      obtain ⟨σ2, c1, c2, -⟩ := pg_over (Z := Z) (F := F) (by omega) hz.2.1 hz.2.2.1 hC.2 hnm (p := z2) (by omega) (inP_pt (A := A) (by omega)) hnP σ1 a3
      obtain ⟨τ2, d1, d2, -⟩ := pg_msum (Z := Z) (F := F) (s := s) (by omega) hC.2 hnm (p := z2) (by omega) (nmL (fS A s) - nP_ A) (nP_ A) 8 τ1 _ (by omega) (by have := hnm.1; omega) (mSg_fr b2 (by decide) (by decide) (mSg_of hm')) (by rw [fr_I b2 204 rfl (by decide)]; exact hm'.2.2.2.2.1) b3 (inP_pt (A := A) (by omega))
      have d1' : f_X12_sumFrom F Z τ1 (i32 (s : Int)) (i32 (nP_ A : Int)) (i64 z2) = some (i64 (sumF z2 (cf (fS A s)) (fS A s).length (nmL (fS A s) - nP_ A) (nP_ A) (fun j => fP A j % z2)), τ2) := d1
      rw [a1, obs, b1, obs]
      dsimp only
      rw [i32_l hz2, s2'.1, m7''.1, c1, obs, d1', obs]
      exact ⟨_, _, _, rfl, rfl, J_W t0 (fr_tr (fr_mono a2 (by decide)) c2 : fr [8, 9] σ σ2) (fr_tr (fr_mono b2 (by decide)) d2 : fr [207, 208] _ τ2) (by decide) (by decide) (by decide) (by decide) (by decide)⟩
  · rw [p_sayNo l1 (by omega) hz1 c, obs, decide_eq_false c, b01f, if_pos rfl]
    exact ⟨_, _, _, rfl, rfl, t0⟩
theorem p_mcv35 {A : HA} {p : Int} {y2 : Int32} {K : hSt → Option (Int32 × hSt)} (hp : 1 < p ∧ p ≤ 1000000007) (hn : nP_ A ≤ 6) (hf : ∀ j, j < nP_ A → 0 ≤ fP A j ∧ fP A j ≤ 2147483647) : ∀ (k x M : Nat) (τ : hSt), x + k = nP_ A → k < M → jpM A τ → rowJ τ 210 (fun j => fP A j % p) x → ∃ υ, fr [210] τ υ ∧ rowJ υ 210 (fun j => fP A j % p) (nP_ A) ∧ f_X12_curve_L35 (i32 p) y2 K M τ (i32 (x : Int)) = K υ := by
  intro k
  induction k with
  | zero =>
    intro x M τ hx hM hj h9
    obtain ⟨M, rfl⟩ : ∃ q, M = q + 1 := ⟨M - 1, by omega⟩
    obtain rfl : x = nP_ A := by omega
    refine ⟨τ, fr_rf _ _, h9, ?_⟩
    rw [f_X12_curve_L35, hj.1, if_pos (Int32.le_refl _)]
  | succ k ih =>
    intro x M τ hx hM hj h9
    obtain ⟨M, rfl⟩ : ∃ q, M = q + 1 := ⟨M - 1, by omega⟩
    have f0 : fr [210] τ (sJ τ 210 x (i64 (fP A x % p))) := fr_sJ _ _ (by rw [cd_a rfl]; decide)
    have h9' : rowJ (sJ τ 210 x (i64 (fP A x % p))) 210 (fun j => fP A j % p) (x + 1) := by
      intro q hq
      by_cases e : q = x
      · rw [sJ_t _ _ ⟨rfl, e⟩, e]
      · rw [sJ_j _ _ (by omega)]; exact h9 q (by omega)
    obtain ⟨υ, e1, e2, e3⟩ := ih (x + 1) M (sJ τ 210 x (i64 (fP A x % p))) (by omega) (by omega) (jpM_W hj f0 (by decide) (by decide)) h9'
    have hfx := hf x (by omega)
    have hm := mod_rg (fP A x) (show 0 < p by omega)
    refine ⟨υ, fr_tr f0 e1, e2, ?_⟩
    have hx := ix_ok (show x < 6 by omega) (show x ≤ 100000 by omega)
    have hx2 := ix_ok (show x < 201 by omega) (show x ≤ 100000 by omega)
    rw [f_X12_curve_L35, hj.1, if_neg (show ¬ i32 (nP_ A : Int) ≤ i32 (x : Int) by rw [i32_le (by omega)]; omega), i32_cn (by omega), if_neg hx, if_neg (show ¬ i32 p = (0 : Int32) by rw [show (0 : Int32) = i32 0 from rfl, i32_eq (by omega)]; omega), if_neg hx2, hj.2 x (by omega), i32_rem (by omega), i32_l (by omega), ip1]
    exact e3
theorem lgu_cg {p x y : Int} {f : Nat → Int} {k : Nat} (h : p ∣ x - y) : ∀ j, p ∣ lgu f x k j - lgu f y k j
  | 0 => by simp [lgu]
  | j + 1 => by
    have ih := lgu_cg (f := f) (k := k) h j
    rw [lgu, lgu]
    by_cases e : j = k
    · rw [if_pos e, if_pos e]; exact ih
    · rw [if_neg e, if_neg e, show lgu f x k j * (x - j) - lgu f y k j * (y - j) = (lgu f x k j - lgu f y k j) * (x - j) + lgu f y k j * (x - y) by grind]
      exact Int.dvd_add (Int.dvd_mul_of_dvd_left ih) (Int.dvd_mul_of_dvd_right h)
theorem lgs_cg {p x y : Int} {f : Nat → Int} {m : Nat} (h : p ∣ x - y) : ∀ k, p ∣ lgs p f x m k - lgs p f y m k
  | 0 => by simp [lgs]
  | k + 1 => by
    have ih := lgs_cg (f := f) (m := m) h k
    have h2 := lgu_cg (f := f) (k := k) h m
    rw [lgs, lgs, show lgs p f x m k + lgu f x k m * (lgl k m) ^ (p - 2).toNat - (lgs p f y m k + lgu f y k m * (lgl k m) ^ (p - 2).toNat) = (lgs p f x m k - lgs p f y m k) + (lgu f x k m - lgu f y k m) * (lgl k m) ^ (p - 2).toNat by grind]
    exact Int.dvd_add ih (Int.dvd_mul_of_dvd_left h2)
theorem CV_mod {p : Int} {f : Nat → Int} {m : Nat} {x : Int} : CV p f m (x % p) = CV p f m x := by
  unfold CV
  have h : p ∣ x % p - x := ⟨-(x / p), by have := Int.emod_def x p; rw [Int.mul_neg]; omega⟩
  exact Int.emod_eq_emod_iff_emod_sub_eq_zero.mpr (Int.emod_eq_zero_of_dvd (lgs_cg h m))
theorem q_curve {A : HA} {Z : hZ} {σ τ : hSt} {F : Nat} (hF : 50000 ≤ F) (h : J A Z σ τ) (x1 x2 : Int32) : ∃ v σ' τ', f_X11_curve F Z σ x1 x2 = some (v, σ') ∧ f_X12_curve F Z τ x1 x2 = some (v, τ') ∧ J A Z σ' τ' := by
  obtain ⟨z1, hz1, rfl⟩ := ofx x1
  obtain ⟨z2, hz2, rfl⟩ := ofx x2
  have hnP := h.1.2.2.2.2.2.2.2.2.2.2
  have t0 := J_0 h 0
  have m7 := h.2.2.2.1.2.2.2.2.2.2.1
  have m7' : jpM A (sI τ 200 0 0) := t0.2.2.2.1.2.2.2.2.2.2.1
  have s2 := h.2.2.1.2.1
  unfold f_X11_curve f_X12_curve
  rw [p_isMod (by omega) hz1, p_isRing (by omega) hz1, obs, obs, s2.1, m7.1]
  rcases prM_c z1 with e | ⟨e, hp, hpr⟩ <;> rw [e]
  · rw [if_pos rfl, if_pos rfl]
    exact ⟨_, _, _, rfl, rfl, t0⟩
  · rw [if_neg n10, if_neg n10, show (1 : Int32) = i32 1 from rfl, show (0 : Int32) = i32 0 from rfl]
    by_cases c : nP_ A = 0
    · rw [if_pos ((ltI (by omega)).mpr (show (nP_ A : Int) < 1 by omega)), if_pos ((eqI (by omega)).mpr (show (nP_ A : Int) = 0 by omega))]
      exact ⟨_, _, _, rfl, rfl, t0⟩
    · rw [if_neg (mt (ltI (by omega)).mp (show ¬ (nP_ A : Int) < 1 by omega)), if_neg (mt (eqI (by omega)).mp (show ¬ (nP_ A : Int) = 0 by omega))]
      by_cases d : z1 ≤ (nP_ A : Int)
      · rw [if_pos ((leI (by omega)).mpr d), if_pos ((leI (by omega)).mpr d)]
        exact ⟨_, _, _, rfl, rfl, t0⟩
      · rw [if_neg (mt (leI (by omega)).mp d), if_neg (mt (leI (by omega)).mp d)]
        by_cases g : 0 ≤ z2
        · rw [if_pos ((leI (by omega)).mpr g), if_pos ((leI (by omega)).mpr g)]
          obtain ⟨σ1, a1, a2, a3⟩ := p_putPoint (Z := Z) (F := F) (by omega) h.1 (p := z1) (by omega) s2
          have s2' := JP_W s2 a2 (by decide) (by decide)
          obtain ⟨τ1, b1, b2, b3⟩ := p_mcv35 (y2 := i32 z2) (K := (fun σ1 => (f_X12_curveAt F Z σ1 (σ1.1 200 20) (i64 z2) (i64 z1)).bind fun q10 => some ((q10 : Int64).toInt32, σ1))) (p := z1) (by omega) hnP.1 hnP.2 (nP_ A) 0 F (sI τ 200 0 0) (by omega) (by omega) m7' (fun q hq => absurd hq (Nat.not_lt_zero q))
          have m7'' := jpM_W m7' b1 (by decide) (by decide)
          have hpe : ((z1.toNat : Nat) : Int) = z1 := by omega
          have hx := mod_rg z2 (show 0 < z1 by omega)
          obtain ⟨σ2, c1, c2⟩ := p_nwS (F := F) (Z := Z) (p := z1.toNat) (m := nP_ A) (r := 9) (x := z2 % z1) (f := fun j => fP A j % z1) (by omega) hpr (by omega) ⟨by omega, by omega, by show nP_ A ≤ 6; omega⟩ (by decide) (by decide) (by omega) σ1 a3 (by rw [hpe]; exact fun q hq => mod_rg _ (by omega))
          rw [hpe] at c1
          have d1 := p_mcurve (F := F) (Z := Z) (σ := τ1) (p := z1) (x := z2) (f := fun j => fP A j % z1) (m := nP_ A) (by omega) (by omega) (by omega) (by omega) b2 (fun q hq => mod_rg _ (by omega))
          have hcv : CV z1 (fun j => fP A j % z1) (nP_ A) (z2 % z1) = CV z1 (fun j => fP A j % z1) (nP_ A) z2 := CV_mod
          rw [a1, obs]
          dsimp only
          rw [i32_l hz2, i32_l hz1, p_rest (by omega) (by omega), obs, s2'.1, c1, obs, hcv]
          refine ⟨_, _, τ1, rfl, Eq.trans b3 ?_, J_W t0 (fr_tr (fr_mono a2 (by decide)) (fr_mono c2 (by decide)) : fr [9, 10, 11] σ σ2) b1 (by decide) (by decide) (by decide) (by decide) (by decide)⟩
          rw [m7''.1, d1, obs]
        · rw [if_neg (mt (leI (by omega)).mp g), if_neg (mt (leI (by omega)).mp g)]
          exact ⟨_, _, _, rfl, rfl, t0⟩
