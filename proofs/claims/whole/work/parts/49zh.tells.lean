/-- draws that lose, draws in all: of the best liar -/
def bsN (nn : Nat) (P : Int) (sp : Nat → Int) (cs : Cls) : Int := if asI nn P sp cs 101 nn = true then pdI nn P sp cs nn 0 1 - blI nn P sp cs nn 0 1 else pdI nn P sp cs nn 0 1
def WB : List Nat := [8, 13, 11205, 11206]
theorem sitH_fr {Z : hZ} {σ τ : hSt} {s t : Nat} {N P : Int} {sp : Nat → Int} {cs : Cls} (h : sitH Z σ s t N P sp cs) (f : fr [11205, 11206] σ τ) : sitH Z τ s t N P sp cs := by
  obtain ⟨a1, a2, a3, a4, a5, a6, a7, a8, a9, a10, a11, a12, a13, a14⟩ := h
  refine ⟨by rw [f.2.2.1 12 2 (by decide)]; exact a1, a2, by rw [f.2.2.1 12 3 (by decide)]; exact a3, a4, by rw [f.1 12 4 (by decide)]; exact a5, a6, a7, a8, a9, a10, a11, a12, a13, fun j hj x4 x6 x7 x9 => ?_⟩
  rw [f.2.1 13 j (by rw [cd_a rfl]; decide)]
  exact a14 j hj x4 x6 x7 x9
theorem p_tellsBest {Z : hZ} {σ : hSt} {s t F nn : Nat} {P : Int} {sp : Nat → Int} {cs : Cls} (hF : 1000 ≤ F) (hP : 1 ≤ P) (h : sitH Z σ s t (nn : Int) P sp cs) : ∃ σ', fr WB σ σ' ∧ sitH Z σ' s t (nn : Int) P sp cs ∧ (if pdI nn P sp cs nn 0 1 = 0 then f_X0_tellsBest F Z σ = some (0, σ') else f_X0_tellsBest F Z σ = some (1, σ') ∧ σ'.2.1 12 5 = i64 ((bsN nn P sp cs).toNat / Nat.gcd (pdI nn P sp cs nn 0 1).toNat (bsN nn P sp cs).toNat : Nat) ∧ σ'.2.1 12 6 = i64 ((pdI nn P sp cs nn 0 1).toNat / Nat.gcd (pdI nn P sp cs nn 0 1).toNat (bsN nn P sp cs).toNat : Nat)) := by
  have hN := h.2.2.2.2.2.2.1
  obtain ⟨σ1, e1, e2, e3⟩ := p_bestL (Z := Z) (F := F) (K := fun σ1 z1 z3 => (f_X0_asksAtEnd F Z σ1).bind fun q7 => (if q7.1 = (0 : Int32) then (f_X0_setFraction F Z q7.2 z3 z3).bind fun q9 => some ((1 : Int32), q9.2) else (f_X0_setFraction F Z q7.2 (z3 - z1) z3).bind fun q10 => some ((1 : Int32), q10.2))) hF hP nn 0 F σ 1 1 (by omega) (by omega) (by omega) (by omega) (by omega) (by omega) h
  have e3 : f_X0_tellsBest F Z σ = _ := e3
  by_cases c : pdI nn P sp cs nn 0 1 = 0
  · rw [if_pos c] at e3
    refine ⟨σ1, fr_mono e1 (by decide), e2, ?_⟩
    rw [if_pos c]
    exact e3
  · obtain ⟨b1, b2, b3, b4⟩ := bl_le (N := nn) (sp := sp) (cs := cs) hP (fun j hj => (h.2.2.2.2.2.2.2.2.2.1 j hj).2.1) nn 0 1 1 (by omega) (by omega) (by omega) (by omega) (by omega) c
    obtain ⟨σ2, u1, u2, u3⟩ := p_asksEnd hF e2
    rw [if_neg c, u1, obs] at e3
    dsimp only at e3
    have hb : bsN nn P sp cs = ((bsN nn P sp cs).toNat : Int) ∧ bsN nn P sp cs ≤ 1000000000000000 ∧ (asI nn P sp cs 101 (nn : Int).toNat = true → bsN nn P sp cs = pdI nn P sp cs nn 0 1 - blI nn P sp cs nn 0 1) ∧ (asI nn P sp cs 101 (nn : Int).toNat = false → bsN nn P sp cs = pdI nn P sp cs nn 0 1) := by
      unfold bsN
      rw [Int.toNat_natCast]
      by_cases d : asI nn P sp cs 101 nn = true
      · rw [if_pos d]
        exact ⟨by omega, by omega, fun _ => rfl, fun z => by rw [d] at z; cases z⟩
      · rw [if_neg d]
        exact ⟨by omega, by omega, fun z => absurd z d, fun _ => rfl⟩
    have hp : pdI nn P sp cs nn 0 1 = ((pdI nn P sp cs nn 0 1).toNat : Int) := by omega
    have fr0 := p_setFr (F := F) (Z := Z) (σ := σ2) (a := (bsN nn P sp cs).toNat) (b := (pdI nn P sp cs nn 0 1).toNat) (by omega) (by omega) (by omega)
    rw [← hb.1, ← hp] at fr0
    have e4 : f_X0_tellsBest F Z σ = (f_X0_setFraction F Z σ2 (i64 (bsN nn P sp cs)) (i64 (pdI nn P sp cs nn 0 1))).bind fun q10 => some ((1 : Int32), q10.2) := by
      rw [e3]
      cases d : asI nn P sp cs 101 (nn : Int).toNat with
      | true => rw [b01t, if_neg n10, i64_sub, hb.2.2.1 d]
      | false => rw [b01f, if_pos rfl, hb.2.2.2 d]
    rw [fr0, obs] at e4
    have f5 : fr [11205, 11206] σ2 (sJ (sJ σ2 12 5 (i64 ((bsN nn P sp cs).toNat / Nat.gcd (pdI nn P sp cs nn 0 1).toNat (bsN nn P sp cs).toNat : Nat))) 12 6 (i64 ((pdI nn P sp cs nn 0 1).toNat / Nat.gcd (pdI nn P sp cs nn 0 1).toNat (bsN nn P sp cs).toNat : Nat))) := fr_tr (fr_sJ _ _ (by decide)) (fr_sJ _ _ (by decide))
    refine ⟨_, fr_tr (fr_mono (fr_tr e1 u2) (by decide)) (fr_mono f5 (by decide)), sitH_fr u3 f5, ?_⟩
    rw [if_neg c]
    refine ⟨e4, ?_, ?_⟩
    · simp (disch := omega) only [↓reduceIte, iT_lt, iF_lt, iT_le, iF_le, iT_eq, iF_eq, nT_lt, nF_lt, nT_le, nF_le, nT_eq, nF_eq, and_self, and_true, true_and, and_false, false_and, not_true_eq_false, not_false_eq_true, ne_eq, or_self, or_false, false_or, or_true, true_or, Option.bind_some, i32_lit, i64_lit, i32_add, i32_sub, i32_mul, i32_neg, i64_add, i64_sub, i64_neg, i32_lt, i32_le, i32_eq, i64_lt, i64_le, i64_eq, i32_cn, i32_cl, i32_l, i64_i, i32_nat, Int.toNat_natCast, sI_2, sJ_1, sJ_22, sR_1, sR_21, sI_t, sI_r, sI_j, sJ_t, sJ_r, sJ_j, sR_t, sR_r, sR_j]
    · simp (disch := omega) only [↓reduceIte, iT_lt, iF_lt, iT_le, iF_le, iT_eq, iF_eq, nT_lt, nF_lt, nT_le, nF_le, nT_eq, nF_eq, and_self, and_true, true_and, and_false, false_and, not_true_eq_false, not_false_eq_true, ne_eq, or_self, or_false, false_or, or_true, true_or, Option.bind_some, i32_lit, i64_lit, i32_add, i32_sub, i32_mul, i32_neg, i64_add, i64_sub, i64_neg, i32_lt, i32_le, i32_eq, i64_lt, i64_le, i64_eq, i32_cn, i32_cl, i32_l, i64_i, i32_nat, Int.toNat_natCast, sI_2, sJ_1, sJ_22, sR_1, sR_21, sI_t, sI_r, sI_j, sJ_t, sJ_r, sJ_j, sR_t, sR_r, sR_j]
