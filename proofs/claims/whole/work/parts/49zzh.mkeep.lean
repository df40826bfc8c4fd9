/-! what the model keeps of a run -/
def kpT (x : Nat) (T : TK) (y : Int) (fx : Bool) (m0 : Int64) (υ : hSt) : Prop := υ.1 200 39 = 1 ∧ υ.1 200 48 = i32 (x : Int) ∧ υ.1 200 49 = i32 (ggI T y fx m0) ∧ υ.1 200 50 = i32 (G_I T y fx m0 : Int) ∧ υ.2.1 200 52 = i64 (fsI T y) ∧ υ.2.1 200 53 = i64 (rnS T y fx m0 (G_I T y fx m0)).2.1 ∧ υ.1 200 51 = i32 (nsI T y fx m0 : Int) ∧ (∀ x', x' < nsI T y fx m0 → ∀ q : Nat, q ≤ (kS T x').toNat → υ.2.1 220 (201 * x' + q) = i64 (sdI T y (rnS T y fx m0 x').1 x' (rnS T y fx m0 x').2.1 (q : Int))) ∧ ∀ q, q < G_I T y fx m0 → υ.2.1 221 q = i64 ((rnS T y fx m0 (G_I T y fx m0)).1 q)
theorem p_kp83 {y2 : Int32} {K : hSt → Option (Int32 × hSt)} : ∀ (k z M : Nat) (τ : hSt), z + k = 1206 → k < M → (∀ q, q < z → τ.2.1 220 q = τ.2.1 219 q) → ∃ υ, fr [220] τ υ ∧ (∀ q, q < 1206 → υ.2.1 220 q = τ.2.1 219 q) ∧ f_X12_keep_L83 y2 K M τ (i32 (z : Int)) = K υ := by
  intro k
  induction k with
  | zero =>
    intro z M τ hz hM h
    obtain ⟨M, rfl⟩ : ∃ q, M = q + 1 := ⟨M - 1, by omega⟩
    obtain rfl : z = 1206 := by omega
    refine ⟨τ, fr_rf _ _, h, ?_⟩
    rw [f_X12_keep_L83, if_pos (show (1206 : Int32) ≤ i32 ((1206 : Nat) : Int) by decide)]
  | succ k ih =>
    intro z M τ hz hM h
    obtain ⟨M, rfl⟩ : ∃ q, M = q + 1 := ⟨M - 1, by omega⟩
    have f0 : fr [220] τ (sJ τ 220 z (τ.2.1 219 z)) := fr_sJ _ _ (by rw [cd_a rfl]; decide)
    obtain ⟨υ, e1, e2, e3⟩ := ih (z + 1) M (sJ τ 220 z (τ.2.1 219 z)) (by omega) (by omega) (fun q hq => by
      rw [sJ_r _ _ (show 219 < 220 ∨ 220 < 219 by omega)]
      by_cases e : q = z
      · rw [sJ_t _ _ ⟨rfl, e⟩, e]
      · rw [sJ_j _ _ (by omega)]; exact h q (by omega))
    refine ⟨υ, fr_tr f0 e1, fun q hq => by rw [e2 q hq, sJ_r _ _ (by omega)], ?_⟩
    have hx := ix_ok (x := z) (r := 1206) (by omega) (by omega)
    rw [f_X12_keep_L83, i32_cn (show z ≤ 2147483647 by omega), if_neg (show ¬ (1206 : Int32) ≤ i32 (z : Int) by rw [show (1206 : Int32) = i32 1206 from rfl, i32_le (by omega)]; omega), if_neg hx, if_neg hx, ip1]
    exact e3
theorem p_kp116 {b : Bool} : ∀ (k z M : Nat) (τ : hSt), z + k = 6 → k < M → (∀ q, q < z → τ.2.1 221 q = τ.2.1 218 q) → ∃ υ, fr [221] τ υ ∧ (∀ q, q < 6 → υ.2.1 221 q = τ.2.1 218 q) ∧ f_X12_keep_L116 (b01 b) M τ (i32 (z : Int)) = some (b01 b, υ) := by
  intro k
  induction k with
  | zero =>
    intro z M τ hz hM h
    obtain ⟨M, rfl⟩ : ∃ q, M = q + 1 := ⟨M - 1, by omega⟩
    obtain rfl : z = 6 := by omega
    refine ⟨τ, fr_rf _ _, h, ?_⟩
    rw [f_X12_keep_L116, if_pos (show (6 : Int32) ≤ i32 ((6 : Nat) : Int) by decide)]
    cases b with
    | false => rw [b01f, if_pos rfl]
    | true => rw [b01t, if_neg n10]
  | succ k ih =>
    intro z M τ hz hM h
    obtain ⟨M, rfl⟩ : ∃ q, M = q + 1 := ⟨M - 1, by omega⟩
    have f0 : fr [221] τ (sJ τ 221 z (τ.2.1 218 z)) := fr_sJ _ _ (by rw [cd_a rfl]; decide)
    obtain ⟨υ, e1, e2, e3⟩ := ih (z + 1) M (sJ τ 221 z (τ.2.1 218 z)) (by omega) (by omega) (fun q hq => by
      rw [sJ_r _ _ (show 218 < 221 ∨ 221 < 218 by omega)]
      by_cases e : q = z
      · rw [sJ_t _ _ ⟨rfl, e⟩, e]
      · rw [sJ_j _ _ (by omega)]; exact h q (by omega))
    refine ⟨υ, fr_tr f0 e1, fun q hq => by rw [e2 q hq, sJ_r _ _ (by omega)], ?_⟩
    have hx := ix_ok (x := z) (r := 6) (by omega) (by omega)
    rw [f_X12_keep_L116, i32_cn (show z ≤ 2147483647 by omega), if_neg (show ¬ (6 : Int32) ≤ i32 (z : Int) by rw [show (6 : Int32) = i32 6 from rfl, i32_le (by omega)]; omega), if_neg hx, if_neg hx, ip1]
    exact e3
def WKp : List Nat := [220, 221, 30039, 30048, 30049, 30050, 30051, 30052, 30053]
theorem g_rg {T : TK} {y : Int} {fx : Bool} {m0 : Int64} : G_I T y fx m0 ≤ kN T := by
  have := (fr_rgI (T := T) (y := y) (fx := fx) (m0 := m0) (kN T) 0).2
  unfold G_I
  omega
theorem ns_rg {T : TK} {y : Int} {fx : Bool} {m0 : Int64} : nsI T y fx m0 ≤ kN T := by
  have h1 := g_rg (T := T) (y := y) (fx := fx) (m0 := m0)
  unfold nsI
  by_cases c : G_I T y fx m0 = kN T
  · rw [if_pos c]; omega
  · rw [if_neg c]; omega
theorem p_mkeep {x s kl kg nl ng F : Nat} {Bl Bg : Nat → Nat} {T : TK} {y : Int} {fx b : Bool} {m0 : Int64} {Z : hZ} {τ : hSt} (hF : 3000 ≤ F) (hT : okT T) (h : mrG x s kl kg nl ng Bl Bg T y fx m0 (G_I T y fx m0) (nsI T y fx m0) (ggI T y fx m0) τ) : ∃ υ, f_X12_keep F Z τ (i32 (x : Int)) (b01 b) = some (b01 b, υ) ∧ fr WKp τ υ ∧ kpT x T y fx m0 υ := by
  have hN := hT.1
  obtain ⟨h1, h2, h3, h4, h5, h6, h7⟩ := h
  have hx := ix_ok (x := x) h1.1 (by have := h1.1; omega)
  have hx2 : x ≤ 2147483647 := by have := h1.1; omega
  have k6 := h1.2.2.2.2.2.1
  have hs20 := k6.2.2.1
  have hg := g_rg (T := T) (y := y) (fx := fx) (m0 := m0)
  have hn := ns_rg (T := T) (y := y) (fx := fx) (m0 := m0)
  have key : ∀ v : Int32, v = i32 (nsI T y fx m0 : Int) → ∃ υ, f_X12_keep_L83 (b01 b) (fun σ1 => f_X12_keep_L116 (b01 b) F σ1 0) F (sI (sJ (sJ (sI (sI (sI (sI τ 200 39 1) 200 48 (i32 (x : Int))) 200 49 (τ.1 200 41)) 200 50 (τ.1 200 42)) 200 52 (τ.2.1 200 43)) 200 53 (τ.2.1 200 44)) 200 51 v) 0 = some (b01 b, υ) ∧ fr WKp τ υ ∧ kpT x T y fx m0 υ := by
    intro v hv
    obtain ⟨τ1, hτ1⟩ : ∃ τ1, τ1 = sI (sJ (sJ (sI (sI (sI (sI τ 200 39 1) 200 48 (i32 (x : Int))) 200 49 (τ.1 200 41)) 200 50 (τ.1 200 42)) 200 52 (τ.2.1 200 43)) 200 53 (τ.2.1 200 44)) 200 51 v := ⟨_, rfl⟩
    rw [← hτ1]
    have f1 : fr WKp τ τ1 := by
      rw [hτ1]
      exact fr_tr (fr_tr (fr_tr (fr_tr (fr_tr (fr_tr (fr_sI _ _ (by decide)) (fr_sI _ _ (by decide))) (fr_sI _ _ (by decide))) (fr_sI _ _ (by decide))) (fr_sJ _ _ (by decide))) (fr_sJ _ _ (by decide))) (fr_sI _ _ (by decide))
    have q39 : τ1.1 200 39 = 1 := by rw [hτ1, sI_j _ _ (by omega), sJ_1, sJ_1, sI_j _ _ (by omega), sI_j _ _ (by omega), sI_j _ _ (by omega), sI_t _ _ ⟨rfl, rfl⟩]
    have q48 : τ1.1 200 48 = i32 (x : Int) := by rw [hτ1, sI_j _ _ (by omega), sJ_1, sJ_1, sI_j _ _ (by omega), sI_j _ _ (by omega), sI_t _ _ ⟨rfl, rfl⟩]
    have q49 : τ1.1 200 49 = i32 (ggI T y fx m0) := by rw [hτ1, sI_j _ _ (by omega), sJ_1, sJ_1, sI_j _ _ (by omega), sI_t _ _ ⟨rfl, rfl⟩]; exact h7
    have q50 : τ1.1 200 50 = i32 (G_I T y fx m0 : Int) := by rw [hτ1, sI_j _ _ (by omega), sJ_1, sJ_1, sI_t _ _ ⟨rfl, rfl⟩]; exact h5
    have q51 : τ1.1 200 51 = i32 (nsI T y fx m0 : Int) := by rw [hτ1, sI_t _ _ ⟨rfl, rfl⟩]; exact hv
    have q52 : τ1.2.1 200 52 = i64 (fsI T y) := by rw [hτ1, sI_2, sJ_j _ _ (by omega), sJ_t _ _ ⟨rfl, rfl⟩]; exact h6
    have q53 : τ1.2.1 200 53 = i64 (rnS T y fx m0 (G_I T y fx m0)).2.1 := by rw [hτ1, sI_2, sJ_t _ _ ⟨rfl, rfl⟩]; exact h2
    obtain ⟨τ2, a1, a2, a3⟩ := p_kp83 (y2 := b01 b) (K := fun σ1 => f_X12_keep_L116 (b01 b) F σ1 0) 1206 0 F τ1 (by omega) (by omega) (fun q hq => absurd hq (Nat.not_lt_zero q))
    obtain ⟨τ3, b1, b2, b3⟩ := p_kp116 (b := b) 6 0 F τ2 (by omega) (by omega) (fun q hq => absurd hq (Nat.not_lt_zero q))
    refine ⟨τ3, Eq.trans a3 b3, fr_tr f1 (fr_tr (fr_mono a1 (by decide)) (fr_mono b1 (by decide))), ?_, ?_, ?_, ?_, ?_, ?_, ?_, fun x' hx' q hq => ?_, fun q hq => ?_⟩
    · rw [b1.1 200 39 (by decide), a1.1 200 39 (by decide)]; exact q39
    · rw [b1.1 200 48 (by decide), a1.1 200 48 (by decide)]; exact q48
    · rw [b1.1 200 49 (by decide), a1.1 200 49 (by decide)]; exact q49
    · rw [b1.1 200 50 (by decide), a1.1 200 50 (by decide)]; exact q50
    · rw [b1.2.1 200 52 (by decide), a1.2.1 200 52 (by decide)]; exact q52
    · rw [b1.2.1 200 53 (by decide), a1.2.1 200 53 (by decide)]; exact q53
    · rw [b1.1 200 51 (by decide), a1.1 200 51 (by decide)]; exact q51
    · have hS := hT.2.2.2.2.2.1 x' (by omega)
      rw [fr_J b1 220 rfl (by decide), a2 _ (by omega), fr_J f1 219 rfl (by decide)]
      exact h4 x' hx' q hq
    · rw [b2 q (by omega), fr_J a1 218 rfl (by decide), fr_J f1 218 rfl (by decide)]
      exact h3 q hq
  unfold f_X12_keep
  rw [i32_cn hx2, if_neg hx, h1.2.1, i32_cn (show s ≤ 2147483647 by omega), if_neg (ix_ok (show s < 21 by omega) (by omega)), k6.2.2.2.2.2.1]
  have h41 := h7
  by_cases c : bvI T y fx m0 = true
  · have e1 : ggI T y fx m0 = -1 := if_pos c
    have e2 : G_I T y fx m0 = kN T := by
      unfold bvI at c
      rw [Bool.and_eq_true] at c
      exact of_decide_eq_true c.1
    have e3 : nsI T y fx m0 = kN T := if_pos e2
    rw [if_pos (show τ.1 200 41 = -1 by rw [h41, e1]; rfl)]
    exact key _ (by rw [e3])
  · have e1 : ggI T y fx m0 = (G_I T y fx m0 : Int) := if_neg c
    rw [if_neg (show ¬ τ.1 200 41 = -1 by rw [h41, e1, show (-1 : Int32) = i32 (-1) from rfl, i32_eq (by omega)]; omega)]
    refine key _ ?_
    rw [h41, e1, ip1]
    by_cases d : G_I T y fx m0 = kN T
    · rw [if_neg (show ¬ i32 ((G_I T y fx m0 + 1 : Nat) : Int) < i32 (kN T : Int) by rw [i32_lt (by omega)]; omega), show nsI T y fx m0 = kN T from if_pos d]
    · have e3 : nsI T y fx m0 = G_I T y fx m0 + 1 := if_neg d
      rw [e3]
      by_cases e : G_I T y fx m0 + 1 = kN T
      · rw [if_neg (show ¬ i32 ((G_I T y fx m0 + 1 : Nat) : Int) < i32 (kN T : Int) by rw [i32_lt (by omega)]; omega), e]
      · rw [if_pos (show i32 ((G_I T y fx m0 + 1 : Nat) : Int) < i32 (kN T : Int) by rw [i32_lt (by omega)]; omega)]
