/-! whole TALKS of the model: from the first CLAIM to the end -/
def WQ : List Nat := 207 :: 208 :: 213 :: WG
theorem mg_open {x s kl kg nl ng : Nat} {Bl Bg : Nat → Nat} {T : TK} {y : Int} {fx : Bool} {m0 : Int64} {τ υ : hSt} {m : Int64} (h : tkM x s kl kg nl ng Bl Bg T τ) (f : fr WQ (sI (sI (sJ τ 200 45 m) 200 41 (-1)) 200 42 0) υ) : mrG x s kl kg nl ng Bl Bg T y fx m0 0 0 (-1) (sJ (sJ υ 200 43 (i64 (fsI T y))) 200 44 (i64 (fsI T y))) ∧ fr WT_ τ (sJ (sJ υ 200 43 (i64 (fsI T y))) 200 44 (i64 (fsI T y))) ∧ (sJ (sJ υ 200 43 (i64 (fsI T y))) 200 44 (i64 (fsI T y))).2.1 200 45 = m := by
  have f1 : fr WT_ τ (sI (sI (sJ τ 200 45 m) 200 41 (-1)) 200 42 0) := fr_tr (fr_tr (fr_sJ _ _ (by decide)) (fr_sI _ _ (by decide))) (fr_sI _ _ (by decide))
  have f2 : fr WT_ τ (sJ (sJ υ 200 43 (i64 (fsI T y))) 200 44 (i64 (fsI T y))) := fr_tr f1 (fr_tr (fr_mono f (by decide)) (fr_tr (fr_sJ _ _ (by decide)) (fr_sJ _ _ (by decide))))
  refine ⟨⟨tkM_fr h f2, sJ_t _ _ ⟨rfl, rfl⟩, fun q hq => absurd hq (Nat.not_lt_zero q), fun q hq => absurd hq (Nat.not_lt_zero q), ?_, ?_, ?_⟩, f2, ?_⟩
  · rw [sJ_1, sJ_1, f.1 200 42 (by decide), sI_t _ _ ⟨rfl, rfl⟩]; rfl
  · rw [sJ_j _ _ (by omega), sJ_t _ _ ⟨rfl, rfl⟩]
  · rw [sJ_1, sJ_1, f.1 200 41 (by decide), sI_j _ _ (by omega), sI_t _ _ ⟨rfl, rfl⟩]; rfl
  · rw [sJ_j _ _ (by omega), sJ_j _ _ (by omega), f.2.1 200 45 (by decide)]
    show (sJ τ 200 45 m).2.1 200 45 = m
    rw [sJ_t _ _ ⟨rfl, rfl⟩]
def mgK (F : Nat) (Z : hZ) (x s : Nat) : hSt → Option (Int32 × hSt) := fun σ1 => (f_X12_endsWell F Z σ1 (i32 (x : Int)) (σ1.2.1 200 44)).bind fun q47 => (if q47.1 = (0 : Int32) then if (i32 (s : Int) : Int32) < 0 ∨ 21 ≤ (i32 (s : Int) : Int32).toNatClampNeg then none else some ((0 : Int32), (sI q47.2 200 41 (q47.2.1 204 ((i32 (s : Int) : Int32).toNatClampNeg)))) else some ((1 : Int32), q47.2))
theorem mg_core {x s kl kg nl ng F : Nat} {Bl Bg : Nat → Nat} {T : TK} {y : Int} {fx : Bool} {m0 : Int64} {Z : hZ} {τ : hSt} (hF : 300 ≤ F) (hT : okT T) (hy : 0 ≤ y ∧ y ≤ 1000000) (h : mrG x s kl kg nl ng Bl Bg T y fx m0 0 0 (-1) τ) (hm : τ.2.1 200 45 = m0) : ∃ υ, f_X12_goes_L65 F Z (i32 (x : Int)) (b01 fx) (i32 y) (i32 (s : Int)) (mgK F Z x s) F τ 0 = some (b01 (bvI T y fx m0), υ) ∧ fr WT_ τ υ ∧ mrG x s kl kg nl ng Bl Bg T y fx m0 (G_I T y fx m0) (nsI T y fx m0) (ggI T y fx m0) υ := by
  have hN := hT.1
  have h6 := h.1.2.2.2.2.2.1
  have hs20 := h6.2.2.1
  obtain ⟨τ1, a1, a2, a3⟩ := p_mgo65 (Z := Z) (F := F) (K := mgK F Z x s) hF hT hy (kN T) 0 F τ (by omega) (by omega) h hm
  have hGd : frI T y fx m0 (kN T) 0 = G_I T y fx m0 := rfl
  rw [hGd] at a2 a3
  by_cases c : G_I T y fx m0 = kN T
  · obtain ⟨b1, b2⟩ := a2 c
    have rg := rn_rg (y := y) (fx := fx) (m0 := m0) hT (kN T)
    obtain ⟨τ2, c1, c2⟩ := p_mends (Z := Z) hF hT rg.2.2 rg.1 b2.1 b2.2.2.1
    have h2 := mrG_W b2 (fr_mono c2 (by decide))
    have hns : nsI T y fx m0 = kN T := if_pos c
    have hbv : bvI T y fx m0 = enI T (rnS T y fx m0 (kN T)).1 (rnS T y fx m0 (kN T)).2.1 := by unfold bvI; rw [decide_eq_true c]; rfl
    have e1 : f_X12_goes_L65 F Z (i32 (x : Int)) (b01 fx) (i32 y) (i32 (s : Int)) (mgK F Z x s) F τ 0 = mgK F Z x s τ1 := b1
    rw [e1, hns, hbv, c]
    unfold mgK ggI
    rw [hbv, c, b2.2.1, c1, obs]
    dsimp only
    cases enI T (rnS T y fx m0 (kN T)).1 (rnS T y fx m0 (kN T)).2.1 with
    | true =>
      rw [b01t, if_neg n10, if_pos rfl]
      exact ⟨τ2, rfl, fr_tr a1 (fr_mono c2 (by decide)), h2⟩
    | false =>
      rw [b01f, if_pos rfl, i32_cn (show s ≤ 2147483647 by omega), if_neg (ix_ok (show s < 21 by omega) (by omega)), if_neg (by decide)]
      obtain ⟨k1, k2, k3, k4, k5, k6, k7⟩ := h2
      refine ⟨_, rfl, fr_tr a1 (fr_tr (fr_mono c2 (by decide)) (fr_sI _ _ (by decide))), tkM_fr k1 (fr_sI _ _ (by decide)), k2, k3, k4, ?_, k6, ?_⟩
      · rw [sI_j _ _ (by omega)]; exact k5
      · rw [sI_t _ _ ⟨rfl, rfl⟩]; exact k1.2.2.2.2.2.1.2.2.2.2.2.1
  · obtain ⟨b1, b2⟩ := a3 c
    have hns : nsI T y fx m0 = G_I T y fx m0 + 1 := if_neg c
    have hbv : bvI T y fx m0 = false := by unfold bvI; rw [decide_eq_false c]; rfl
    have e1 : f_X12_goes_L65 F Z (i32 (x : Int)) (b01 fx) (i32 y) (i32 (s : Int)) (mgK F Z x s) F τ 0 = some (0, τ1) := b1
    rw [e1, hns, hbv]
    unfold ggI
    rw [hbv, if_neg (by decide)]
    exact ⟨τ1, rfl, a1, b2⟩
def m0I (T : TK) (y : Int) (fx : Bool) (m : Int64) : Int64 := if fx = true then mixR 1 (i64 (fsI T y)) else m
theorem p_mgoes {x s kl kg nl ng F : Nat} {Bl Bg : Nat → Nat} {T : TK} {y : Int} {fx : Bool} {m : Int64} {Z : hZ} {τ : hSt} (hF : 300 ≤ F) (hT : okT T) (hy : 0 ≤ y ∧ y ≤ 1000000) (h : tkM x s kl kg nl ng Bl Bg T τ) : ∃ υ, f_X12_goes F Z τ (i32 (x : Int)) (b01 fx) m (i32 y) = some (b01 (bvI T y fx (m0I T y fx m)), υ) ∧ fr WT_ τ υ ∧ mrG x s kl kg nl ng Bl Bg T y fx (m0I T y fx m) (G_I T y fx (m0I T y fx m)) (nsI T y fx (m0I T y fx m)) (ggI T y fx (m0I T y fx m)) υ := by
  have hx := ix_ok (x := x) h.1 (by have := h.1; omega)
  have hx2 : x ≤ 2147483647 := by have := h.1; omega
  unfold f_X12_goes
  rw [i32_cn hx2, if_neg hx, h.2.1]
  cases fx with
  | false =>
    have f1 : fr WT_ τ (sI (sI (sJ τ 200 45 m) 200 41 (-1)) 200 42 0) := fr_tr (fr_tr (fr_sJ _ _ (by decide)) (fr_sI _ _ (by decide))) (fr_sI _ _ (by decide))
    obtain ⟨τ1, a1, a2⟩ := p_mfirst (Z := Z) hF hT hy (tkM_fr h f1)
    obtain ⟨o1, o2, o3⟩ := mg_open (y := y) (fx := false) (m0 := m) h a2
    obtain ⟨υ, u1, u2, u3⟩ := mg_core (Z := Z) hF hT hy o1 o3
    refine ⟨υ, ?_, fr_tr o2 u2, u3⟩
    rw [b01f, if_pos rfl, a1, obs, if_pos rfl]
    exact u1
  | true =>
    have f1 : fr WT_ τ (sI (sI (sJ τ 200 45 1) 200 41 (-1)) 200 42 0) := fr_tr (fr_tr (fr_sJ _ _ (by decide)) (fr_sI _ _ (by decide))) (fr_sI _ _ (by decide))
    obtain ⟨τ1, a1, a2⟩ := p_mfirst (Z := Z) hF hT hy (tkM_fr h f1)
    obtain ⟨o1, o2, o3⟩ := mg_open (y := y) (fx := true) (m0 := mixR 1 (i64 (fsI T y))) h a2
    have f3 : fr WN (sJ (sJ τ1 200 43 (i64 (fsI T y))) 200 44 (i64 (fsI T y))) (sJ (sJ (sJ τ1 200 43 (i64 (fsI T y))) 200 44 (i64 (fsI T y))) 200 45 (mixR 1 (i64 (fsI T y)))) := fr_sJ _ _ (by decide)
    obtain ⟨υ, u1, u2, u3⟩ := mg_core (Z := Z) hF hT hy (mrG_W o1 f3) (sJ_t _ _ ⟨rfl, rfl⟩)
    refine ⟨υ, ?_, fr_tr o2 (fr_tr (fr_mono f3 WN_T) u2), u3⟩
    rw [b01t, if_neg n10, a1, obs, if_neg n10, p_mix, obs, o3]
    exact u1
