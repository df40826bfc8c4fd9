/-! whole TALKS of the model: the rounds -/
theorem mg_93 {x s kl kg nl ng i F : Nat} {Bl Bg : Nat → Nat} {T : TK} {y : Int} {fx : Bool} {m0 : Int64} {y5 : Int32} {Z : hZ} {K : hSt → Option (Int32 × hSt)} {τ : hSt} (hF : 300 ≤ F) (hT : okT T) (hi : i < kN T) (h : mrG x s kl kg nl ng Bl Bg T y fx m0 i (i + 1) (-1) τ) (hm : τ.2.1 200 45 = (rnS T y fx m0 i).2.2) : ∃ υ, fr [30045] τ υ ∧ mrG x s kl kg nl ng Bl Bg T y fx m0 i (i + 1) (-1) υ ∧ (if fx = true then υ.2.1 200 45 else mixR (υ.2.1 200 45) 0) = miR T y fx i (rnS T y fx m0 i) ∧ f_X12_goes_L93 Z (i32 (x : Int)) (b01 fx) y5 (i32 (s : Int)) (i32 (i : Int)) K F τ 0 = K υ := by
  have hN := hT.1
  have hS := hT.2.2.2.2.2.1 i (by omega)
  cases fx with
  | true =>
    obtain ⟨υ, e1, e2, e3, e4⟩ := p_mgo93 (Z := Z) (y5 := y5) (K := K) hT hi ((kS T i).toNat + 1) 0 F τ (by omega) (by omega) h
    refine ⟨υ, e1, e2, ?_, e4⟩
    rw [if_pos rfl, e3, hm]
    rfl
  | false =>
    have h6 := h.1.2.2.2.2.2.1
    have hs20 := h6.2.2.1
    have hq : (6 : Int32) * i32 (s : Int) + i32 (i : Int) = i32 ((6 * s + i : Nat) : Int) := by rw [show (6 : Int32) = i32 6 from rfl, i32_mul, i32_add]; rfl
    refine ⟨τ, fr_rf _ _, h, ?_, ?_⟩
    · rw [if_neg (by decide), hm]
      rfl
    · obtain ⟨F, rfl⟩ : ∃ q, F = q + 1 := ⟨F - 1, by omega⟩
      rw [f_X12_goes_L93, hq, i32_cn (show 6 * s + i ≤ 2147483647 by omega), if_neg (ix_ok (show 6 * s + i < 126 by omega) (by omega)), b01f, if_pos rfl, ite_self]
theorem mg_rest {x s kl kg nl ng i F : Nat} {Bl Bg : Nat → Nat} {T : TK} {y : Int} {fx : Bool} {m0 : Int64} {Z : hZ} {L : hSt → Option (Int32 × hSt)} {τ : hSt} (hF : 300 ≤ F) (hT : okT T) (hi : i < kN T) (h : mrG x s kl kg nl ng Bl Bg T y fx m0 i (i + 1) (-1) τ) (hm : (if fx = true then τ.2.1 200 45 else mixR (τ.2.1 200 45) 0) = miR T y fx i (rnS T y fx m0 i)) : ∃ υ, fr WT_ τ υ ∧ ((agI T y (rnS T y fx m0 i).1 i (rnS T y fx m0 i).2.1 = true ∧ mrG x s kl kg nl ng Bl Bg T y fx m0 (i + 1) (i + 1) (-1) υ ∧ υ.2.1 200 45 = miR T y fx i (rnS T y fx m0 i)) ∨ (agI T y (rnS T y fx m0 i).1 i (rnS T y fx m0 i).2.1 = false ∧ mrG x s kl kg nl ng Bl Bg T y fx m0 i (i + 1) (i : Int) υ)) ∧ ((f_X12_asksSum F Z τ (τ.1 216 x) (i32 (s : Int)) (τ.1 215 x) (i32 (i : Int))).bind fun q15 => (if q15.1 = (0 : Int32) then (if b01 fx = (0 : Int32) then (f_X12_mix Z q15.2 0).bind fun q24 => (f_X12_draws F Z q24.2 (q24.2.1 216 x) (i32 (s : Int)) (q24.2.1 215 x) (i32 (i : Int))).bind fun q27 => if (q27.1 : Int32).toInt64 = (0 : Int64) then none else if i32 (i : Int) < (0 : Int32) ∨ 6 ≤ i then none else (f_X12_nextClaim F Z (sI (sJ q27.2 218 i ((((q24.2.2.1 200 45)).toUInt64 >>> ((33 : Int32).toInt64.toUInt64 &&& Int64.toUInt64 63)).toInt64 - (((q24.2.2.1 200 45)).toUInt64 >>> ((33 : Int32).toInt64.toUInt64 &&& Int64.toUInt64 63)).toInt64 / (q27.1 : Int32).toInt64 * (q27.1 : Int32).toInt64)) 200 42 ((q27.2.1 200 42) + (1 : Int32))) (i32 (x : Int)) (i32 (i : Int))).bind fun q30 => L (sJ q30.2 200 44 q30.1) else (f_X12_draws F Z q15.2 (q15.2.1 216 x) (i32 (s : Int)) (q15.2.1 215 x) (i32 (i : Int))).bind fun q20 => if (q20.1 : Int32).toInt64 = (0 : Int64) then none else if i32 (i : Int) < (0 : Int32) ∨ 6 ≤ i then none else (f_X12_nextClaim F Z (sI (sJ q20.2 218 i ((((q15.2.2.1 200 45)).toUInt64 >>> ((33 : Int32).toInt64.toUInt64 &&& Int64.toUInt64 63)).toInt64 - (((q15.2.2.1 200 45)).toUInt64 >>> ((33 : Int32).toInt64.toUInt64 &&& Int64.toUInt64 63)).toInt64 / (q20.1 : Int32).toInt64 * (q20.1 : Int32).toInt64)) 200 42 ((q20.2.1 200 42) + (1 : Int32))) (i32 (x : Int)) (i32 (i : Int))).bind fun q23 => L (sJ q23.2 200 44 q23.1)) else (f_X12_sumsUp Z q15.2 (i32 (x : Int)) (i32 (i : Int)) (q15.2.2.1 200 44)).bind fun q31 => (if q31 = (0 : Int32) then some ((0 : Int32), (sI q15.2 200 41 (i32 (i : Int)))) else (if b01 fx = (0 : Int32) then (f_X12_mix Z q15.2 0).bind fun q40 => (f_X12_draws F Z q40.2 (q40.2.1 216 x) (i32 (s : Int)) (q40.2.1 215 x) (i32 (i : Int))).bind fun q43 => if (q43.1 : Int32).toInt64 = (0 : Int64) then none else if i32 (i : Int) < (0 : Int32) ∨ 6 ≤ i then none else (f_X12_nextClaim F Z (sI (sJ q43.2 218 i ((((q40.2.2.1 200 45)).toUInt64 >>> ((33 : Int32).toInt64.toUInt64 &&& Int64.toUInt64 63)).toInt64 - (((q40.2.2.1 200 45)).toUInt64 >>> ((33 : Int32).toInt64.toUInt64 &&& Int64.toUInt64 63)).toInt64 / (q43.1 : Int32).toInt64 * (q43.1 : Int32).toInt64)) 200 42 ((q43.2.1 200 42) + (1 : Int32))) (i32 (x : Int)) (i32 (i : Int))).bind fun q46 => L (sJ q46.2 200 44 q46.1) else (f_X12_draws F Z q15.2 (q15.2.1 216 x) (i32 (s : Int)) (q15.2.1 215 x) (i32 (i : Int))).bind fun q36 => if (q36.1 : Int32).toInt64 = (0 : Int64) then none else if i32 (i : Int) < (0 : Int32) ∨ 6 ≤ i then none else (f_X12_nextClaim F Z (sI (sJ q36.2 218 i ((((q15.2.2.1 200 45)).toUInt64 >>> ((33 : Int32).toInt64.toUInt64 &&& Int64.toUInt64 63)).toInt64 - (((q15.2.2.1 200 45)).toUInt64 >>> ((33 : Int32).toInt64.toUInt64 &&& Int64.toUInt64 63)).toInt64 / (q36.1 : Int32).toInt64 * (q36.1 : Int32).toInt64)) 200 42 ((q36.2.1 200 42) + (1 : Int32))) (i32 (x : Int)) (i32 (i : Int))).bind fun q39 => L (sJ q39.2 200 44 q39.1))))) = (if agI T y (rnS T y fx m0 i).1 i (rnS T y fx m0 i).2.1 = true then L υ else some ((0 : Int32), υ)) := by
  have hN := hT.1
  have hP := hT.2.2.1
  have h6 := h.1.2.2.2.2.2.1
  have rg := rn_rg (y := y) (fx := fx) (m0 := m0) hT i
  obtain ⟨τ1, a1, a2, a3⟩ := p_masks (Z := Z) (F := F) (i := i) hF (by omega) h6
  rw [← h.1.2.2.2.2.2.2.1] at a1
  have a2' : fr WN τ τ1 := fr_mono a2 (by decide)
  have h1 := mrG_W h a2'
  have e45 : τ1.2.1 200 45 = τ.2.1 200 45 := a2.2.1 200 45 (by decide)
  have hsu := p_msumsUp (Z := Z) (y := y) (ds := (rnS T y fx m0 i).1) hT hi rg.2.2 h1.1 (h1.2.2.2.1 i (by omega))
  rw [← h1.2.1] at hsu
  rw [h.1.2.2.2.1, h.1.2.2.1, a1, obs]
  dsimp only
  have go : ∃ υ, fr WT_ τ υ ∧ mrG x s kl kg nl ng Bl Bg T y fx m0 (i + 1) (i + 1) (-1) υ ∧ υ.2.1 200 45 = miR T y fx i (rnS T y fx m0 i) ∧ (if b01 fx = (0 : Int32) then (f_X12_mix Z τ1 0).bind fun q24 => (f_X12_draws F Z q24.2 (q24.2.1 216 x) (i32 (s : Int)) (q24.2.1 215 x) (i32 (i : Int))).bind fun q27 => if (q27.1 : Int32).toInt64 = (0 : Int64) then none else if i32 (i : Int) < (0 : Int32) ∨ 6 ≤ i then none else (f_X12_nextClaim F Z (sI (sJ q27.2 218 i ((((q24.2.2.1 200 45)).toUInt64 >>> ((33 : Int32).toInt64.toUInt64 &&& Int64.toUInt64 63)).toInt64 - (((q24.2.2.1 200 45)).toUInt64 >>> ((33 : Int32).toInt64.toUInt64 &&& Int64.toUInt64 63)).toInt64 / (q27.1 : Int32).toInt64 * (q27.1 : Int32).toInt64)) 200 42 ((q27.2.1 200 42) + (1 : Int32))) (i32 (x : Int)) (i32 (i : Int))).bind fun q30 => L (sJ q30.2 200 44 q30.1) else (f_X12_draws F Z τ1 (τ1.1 216 x) (i32 (s : Int)) (τ1.1 215 x) (i32 (i : Int))).bind fun q20 => if (q20.1 : Int32).toInt64 = (0 : Int64) then none else if i32 (i : Int) < (0 : Int32) ∨ 6 ≤ i then none else (f_X12_nextClaim F Z (sI (sJ q20.2 218 i ((((τ1.2.1 200 45)).toUInt64 >>> ((33 : Int32).toInt64.toUInt64 &&& Int64.toUInt64 63)).toInt64 - (((τ1.2.1 200 45)).toUInt64 >>> ((33 : Int32).toInt64.toUInt64 &&& Int64.toUInt64 63)).toInt64 / (q20.1 : Int32).toInt64 * (q20.1 : Int32).toInt64)) 200 42 ((q20.2.1 200 42) + (1 : Int32))) (i32 (x : Int)) (i32 (i : Int))).bind fun q23 => L (sJ q23.2 200 44 q23.1)) = L υ := by
    cases fx with
    | false =>
      have f1 : fr WN τ1 (sJ τ1 200 45 (mixR (τ1.2.1 200 45) 0)) := fr_sJ _ _ (by decide)
      have hm2 : (sJ τ1 200 45 (mixR (τ1.2.1 200 45) 0)).2.1 200 45 = miR T y false i (rnS T y false m0 i) := by
        rw [sJ_t _ _ ⟨rfl, rfl⟩, e45]
        rw [if_neg (by decide)] at hm
        exact hm
      obtain ⟨υ, u1, u2, u3, u4⟩ := p_mtail (Z := Z) (L := L) hF hT hi (mrG_W h1 f1) hm2
      refine ⟨υ, fr_tr (fr_mono (fr_tr a2' f1) WN_T) u2, u3, u4.trans hm2, ?_⟩
      rw [b01f, if_pos rfl, p_mix, obs]
      exact u1
    | true =>
      have hm2 : τ1.2.1 200 45 = miR T y true i (rnS T y true m0 i) := by
        rw [e45]
        rw [if_pos rfl] at hm
        exact hm
      obtain ⟨υ, u1, u2, u3, u4⟩ := p_mtail (Z := Z) (L := L) hF hT hi h1 hm2
      refine ⟨υ, fr_tr (fr_mono a2' WN_T) u2, u3, u4.trans hm2, ?_⟩
      rw [b01t, if_neg n10]
      exact u1
  obtain ⟨υ, g1, g2, g3, g4⟩ := go
  have hgu : agI T y (rnS T y fx m0 i).1 i (rnS T y fx m0 i).2.1 = (!(asI (kN T) (kP T) (kS T) (kA T) 99 i) || decide ((sdI T y (rnS T y fx m0 i).1 i (rnS T y fx m0 i).2.1 0 + sdI T y (rnS T y fx m0 i).1 i (rnS T y fx m0 i).2.1 (if kS T i < 1 then kS T i else 1)) % kP T = (rnS T y fx m0 i).2.1)) := rfl
  cases d : asI (kN T) (kP T) (kS T) (kA T) 99 i with
  | false =>
    rw [d] at hgu
    have hgt : agI T y (rnS T y fx m0 i).1 i (rnS T y fx m0 i).2.1 = true := hgu
    refine ⟨υ, g1, Or.inl ⟨hgt, g2, g3⟩, ?_⟩
    rw [b01f, if_pos rfl, g4, if_pos hgt]
  | true =>
    rw [d] at hgu
    rw [b01t, if_neg n10, hsu, obs]
    cases e : decide ((sdI T y (rnS T y fx m0 i).1 i (rnS T y fx m0 i).2.1 0 + sdI T y (rnS T y fx m0 i).1 i (rnS T y fx m0 i).2.1 (if kS T i < 1 then kS T i else 1)) % kP T = (rnS T y fx m0 i).2.1) with
    | true =>
      rw [e] at hgu
      have hgt : agI T y (rnS T y fx m0 i).1 i (rnS T y fx m0 i).2.1 = true := hgu
      refine ⟨υ, g1, Or.inl ⟨hgt, g2, g3⟩, ?_⟩
      rw [b01t, if_neg n10, g4, if_pos hgt]
    | false =>
      rw [e] at hgu
      obtain ⟨k1, k2, k3, k4, k5, k6, k7⟩ := h1
      refine ⟨sI τ1 200 41 (i32 (i : Int)), fr_tr (fr_mono a2' WN_T) (fr_sI _ _ (by decide)), Or.inr ⟨hgu, tkM_fr k1 (fr_sI _ _ (by decide)), k2, k3, k4, ?_, k6, sI_t _ _ ⟨rfl, rfl⟩⟩, ?_⟩
      · rw [sI_j _ _ (by omega)]; exact k5
      · rw [b01f, if_pos rfl, if_neg (by rw [hgu]; decide)]
theorem p_mgo65 {x s kl kg nl ng F : Nat} {Bl Bg : Nat → Nat} {T : TK} {y : Int} {fx : Bool} {m0 : Int64} {Z : hZ} {K : hSt → Option (Int32 × hSt)} (hF : 300 ≤ F) (hT : okT T) (hy : 0 ≤ y ∧ y ≤ 1000000) : ∀ (k i M : Nat) (τ : hSt), i + k = kN T → k < M → mrG x s kl kg nl ng Bl Bg T y fx m0 i i (-1) τ → τ.2.1 200 45 = (rnS T y fx m0 i).2.2 → ∃ υ, fr WT_ τ υ ∧ (frI T y fx m0 k i = kN T → f_X12_goes_L65 F Z (i32 (x : Int)) (b01 fx) (i32 y) (i32 (s : Int)) K M τ (i32 (i : Int)) = K υ ∧ mrG x s kl kg nl ng Bl Bg T y fx m0 (kN T) (kN T) (-1) υ) ∧ (¬ frI T y fx m0 k i = kN T → f_X12_goes_L65 F Z (i32 (x : Int)) (b01 fx) (i32 y) (i32 (s : Int)) K M τ (i32 (i : Int)) = some (0, υ) ∧ mrG x s kl kg nl ng Bl Bg T y fx m0 (frI T y fx m0 k i) (frI T y fx m0 k i + 1) (frI T y fx m0 k i) υ) := by
  have hN := hT.1
  intro k
  induction k with
  | zero =>
    intro i M τ hik hM h hm
    obtain ⟨M, rfl⟩ : ∃ q, M = q + 1 := ⟨M - 1, by omega⟩
    obtain rfl : i = kN T := by omega
    have h6 := h.1.2.2.2.2.2.1
    have hs20 := h6.2.2.1
    refine ⟨τ, fr_rf _ _, fun _ => ⟨?_, h⟩, fun z => absurd rfl z⟩
    rw [f_X12_goes_L65, i32_cn (show s ≤ 2147483647 by omega), if_neg (ix_ok (show s < 21 by omega) (by omega)), h6.2.2.2.2.2.1, if_pos (Int32.le_refl _)]
  | succ k ih =>
    intro i M τ hik hM h hm
    obtain ⟨M, rfl⟩ : ∃ q, M = q + 1 := ⟨M - 1, by omega⟩
    have h6 := h.1.2.2.2.2.2.1
    have hs20 := h6.2.2.1
    have hx12 := h.1.1
    have hfr : frI T y fx m0 (k + 1) i = if agI T y (rnS T y fx m0 i).1 i (rnS T y fx m0 i).2.1 = true then frI T y fx m0 k (i + 1) else i := rfl
    obtain ⟨τ1, a1, a2, a3, a4⟩ := mg_say (Z := Z) hF hT (by omega) hy h
    rw [f_X12_goes_L65]
    simp only [i32_cn (show s ≤ 2147483647 by omega), i32_cn (show x ≤ 2147483647 by omega), i32_cn (show i ≤ 2147483647 by omega), if_neg (ix_ok (show s < 21 by omega) (show s ≤ 100000 by omega)), if_neg (ix_ok (show x < 12 by omega) (show x ≤ 100000 by omega))]
    rw [h6.2.2.2.2.2.1, if_neg (show ¬ i32 (kN T : Int) ≤ i32 (i : Int) by rw [i32_le (by omega)]; omega), a1, obs]
    obtain ⟨τ2, b1, b2, b3, b4⟩ := mg_93 (y5 := i32 y) (Z := Z) (F := F) (K := (fun σ1 => (f_X12_asksSum F Z σ1 (σ1.1 216 x) (i32 (s : Int)) (σ1.1 215 x) (i32 (i : Int))).bind fun q15 => (if q15.1 = (0 : Int32) then (if b01 fx = (0 : Int32) then (f_X12_mix Z q15.2 0).bind fun q24 => (f_X12_draws F Z q24.2 (q24.2.1 216 x) (i32 (s : Int)) (q24.2.1 215 x) (i32 (i : Int))).bind fun q27 => if (q27.1 : Int32).toInt64 = (0 : Int64) then none else if i32 (i : Int) < (0 : Int32) ∨ 6 ≤ i then none else (f_X12_nextClaim F Z (sI (sJ q27.2 218 i ((((q24.2.2.1 200 45)).toUInt64 >>> ((33 : Int32).toInt64.toUInt64 &&& Int64.toUInt64 63)).toInt64 - (((q24.2.2.1 200 45)).toUInt64 >>> ((33 : Int32).toInt64.toUInt64 &&& Int64.toUInt64 63)).toInt64 / (q27.1 : Int32).toInt64 * (q27.1 : Int32).toInt64)) 200 42 ((q27.2.1 200 42) + (1 : Int32))) (i32 (x : Int)) (i32 (i : Int))).bind fun q30 => f_X12_goes_L65 F Z (i32 (x : Int)) (b01 fx) (i32 y) (i32 (s : Int)) K M (sJ q30.2 200 44 q30.1) (i32 (i : Int) + 1) else (f_X12_draws F Z q15.2 (q15.2.1 216 x) (i32 (s : Int)) (q15.2.1 215 x) (i32 (i : Int))).bind fun q20 => if (q20.1 : Int32).toInt64 = (0 : Int64) then none else if i32 (i : Int) < (0 : Int32) ∨ 6 ≤ i then none else (f_X12_nextClaim F Z (sI (sJ q20.2 218 i ((((q15.2.2.1 200 45)).toUInt64 >>> ((33 : Int32).toInt64.toUInt64 &&& Int64.toUInt64 63)).toInt64 - (((q15.2.2.1 200 45)).toUInt64 >>> ((33 : Int32).toInt64.toUInt64 &&& Int64.toUInt64 63)).toInt64 / (q20.1 : Int32).toInt64 * (q20.1 : Int32).toInt64)) 200 42 ((q20.2.1 200 42) + (1 : Int32))) (i32 (x : Int)) (i32 (i : Int))).bind fun q23 => f_X12_goes_L65 F Z (i32 (x : Int)) (b01 fx) (i32 y) (i32 (s : Int)) K M (sJ q23.2 200 44 q23.1) (i32 (i : Int) + 1)) else (f_X12_sumsUp Z q15.2 (i32 (x : Int)) (i32 (i : Int)) (q15.2.2.1 200 44)).bind fun q31 => (if q31 = (0 : Int32) then some ((0 : Int32), (sI q15.2 200 41 (i32 (i : Int)))) else (if b01 fx = (0 : Int32) then (f_X12_mix Z q15.2 0).bind fun q40 => (f_X12_draws F Z q40.2 (q40.2.1 216 x) (i32 (s : Int)) (q40.2.1 215 x) (i32 (i : Int))).bind fun q43 => if (q43.1 : Int32).toInt64 = (0 : Int64) then none else if i32 (i : Int) < (0 : Int32) ∨ 6 ≤ i then none else (f_X12_nextClaim F Z (sI (sJ q43.2 218 i ((((q40.2.2.1 200 45)).toUInt64 >>> ((33 : Int32).toInt64.toUInt64 &&& Int64.toUInt64 63)).toInt64 - (((q40.2.2.1 200 45)).toUInt64 >>> ((33 : Int32).toInt64.toUInt64 &&& Int64.toUInt64 63)).toInt64 / (q43.1 : Int32).toInt64 * (q43.1 : Int32).toInt64)) 200 42 ((q43.2.1 200 42) + (1 : Int32))) (i32 (x : Int)) (i32 (i : Int))).bind fun q46 => f_X12_goes_L65 F Z (i32 (x : Int)) (b01 fx) (i32 y) (i32 (s : Int)) K M (sJ q46.2 200 44 q46.1) (i32 (i : Int) + 1) else (f_X12_draws F Z q15.2 (q15.2.1 216 x) (i32 (s : Int)) (q15.2.1 215 x) (i32 (i : Int))).bind fun q36 => if (q36.1 : Int32).toInt64 = (0 : Int64) then none else if i32 (i : Int) < (0 : Int32) ∨ 6 ≤ i then none else (f_X12_nextClaim F Z (sI (sJ q36.2 218 i ((((q15.2.2.1 200 45)).toUInt64 >>> ((33 : Int32).toInt64.toUInt64 &&& Int64.toUInt64 63)).toInt64 - (((q15.2.2.1 200 45)).toUInt64 >>> ((33 : Int32).toInt64.toUInt64 &&& Int64.toUInt64 63)).toInt64 / (q36.1 : Int32).toInt64 * (q36.1 : Int32).toInt64)) 200 42 ((q36.2.1 200 42) + (1 : Int32))) (i32 (x : Int)) (i32 (i : Int))).bind fun q39 => f_X12_goes_L65 F Z (i32 (x : Int)) (b01 fx) (i32 y) (i32 (s : Int)) K M (sJ q39.2 200 44 q39.1) (i32 (i : Int) + 1)))))) hF hT (show i < kN T by omega) a3 (a4.trans hm)
    obtain ⟨τ3, c1, c2, c3⟩ := mg_rest (Z := Z) (F := F) (L := fun σ1 => f_X12_goes_L65 F Z (i32 (x : Int)) (b01 fx) (i32 y) (i32 (s : Int)) K M σ1 (i32 (i : Int) + 1)) hF hT (show i < kN T by omega) b2 b3
    rw [hfr]
    have f3 : fr WT_ τ τ3 := fr_tr a2 (fr_tr (fr_mono b1 (by decide)) c1)
    have c4 := Eq.trans b4 c3
    rcases c2 with ⟨g1, g2, g3⟩ | ⟨g1, g2⟩
    · rw [if_pos g1] at c4
      obtain ⟨υ, u1, u2, u3⟩ := ih (i + 1) M τ3 (by omega) (by omega) g2 g3
      rw [if_pos g1]
      refine ⟨υ, fr_tr f3 u1, fun z => ⟨Eq.trans c4 ?_, (u2 z).2⟩, fun z => ⟨Eq.trans c4 ?_, (u3 z).2⟩⟩
      · rw [ip1]
        exact (u2 z).1
      · rw [ip1]
        exact (u3 z).1
    · have g1' : ¬ agI T y (rnS T y fx m0 i).1 i (rnS T y fx m0 i).2.1 = true := by rw [g1]; decide
      rw [if_neg g1'] at c4
      rw [if_neg g1']
      exact ⟨τ3, f3, fun z => absurd z (by omega), fun _ => ⟨c4, g2⟩⟩
