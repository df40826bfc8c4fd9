/-! the bound, both sides -/
def bdN (nn : Nat) (P : Int) (sp : Nat → Int) (cs : Cls) : Int := if asI nn P sp cs 101 nn = true then (if pdI nn P sp cs nn 0 1 < nuI nn P sp cs nn 0 0 1 then pdI nn P sp cs nn 0 1 else nuI nn P sp cs nn 0 0 1) else pdI nn P sp cs nn 0 1
theorem p_tellsBound {Z : hZ} {σ : hSt} {s t F nn : Nat} {P : Int} {sp : Nat → Int} {cs : Cls} (hF : 1000 ≤ F) (hP : 1 ≤ P) (h : sitH Z σ s t (nn : Int) P sp cs) : ∃ σ', fr WB σ σ' ∧ sitH Z σ' s t (nn : Int) P sp cs ∧ (if pdI nn P sp cs nn 0 1 = 0 then f_X0_tellsBound F Z σ = some (0, σ') else f_X0_tellsBound F Z σ = some (1, σ') ∧ σ'.2.1 12 5 = i64 ((bdN nn P sp cs).toNat / Nat.gcd (pdI nn P sp cs nn 0 1).toNat (bdN nn P sp cs).toNat : Nat) ∧ σ'.2.1 12 6 = i64 ((pdI nn P sp cs nn 0 1).toNat / Nat.gcd (pdI nn P sp cs nn 0 1).toNat (bdN nn P sp cs).toNat : Nat)) := by
  have hN := h.2.2.2.2.2.2.1
  have hsp := h.2.2.2.2.2.2.2.2.2.1
  obtain ⟨σ1, e1, e2, e3⟩ := p_boundL (Z := Z) (F := F) (K := fun σ1 z1 z3 => (f_X0_asksAtEnd F Z σ1).bind fun q7 => (if q7.1 = (0 : Int32) then (f_X0_setFraction F Z q7.2 z3 z3).bind fun q9 => some ((1 : Int32), q9.2) else (f_X0_setFraction F Z q7.2 (if z3 < z1 then z3 else z1) z3).bind fun q10 => some ((1 : Int32), q10.2))) hF hP nn 0 F σ 0 1 (by omega) (by omega) (by omega) (by omega) h
  have e3 : f_X0_tellsBound F Z σ = _ := e3
  by_cases c : pdI nn P sp cs nn 0 1 = 0
  · rw [if_pos c] at e3
    refine ⟨σ1, fr_mono e1 (by decide), e2, ?_⟩
    rw [if_pos c]
    exact e3
  · obtain ⟨b1, b2, b3, b4⟩ := bl_le (N := nn) (sp := sp) (cs := cs) hP (fun j hj => (hsp j hj).2.1) nn 0 1 1 (by omega) (by omega) (by omega) (by omega) (by omega) c
    have nr := nu_rg (N := nn) (sp := sp) (cs := cs) hP (fun j hj => (hsp j hj).2) nn 0 0 1 (by omega) (by omega) (by omega) (by omega) (by omega) c
    obtain ⟨σ2, u1, u2, u3⟩ := p_asksEnd hF e2
    rw [if_neg c, u1, obs] at e3
    dsimp only at e3
    have hb : bdN nn P sp cs = ((bdN nn P sp cs).toNat : Int) ∧ bdN nn P sp cs ≤ 1000000000000000 ∧ (asI nn P sp cs 101 (nn : Int).toNat = true → bdN nn P sp cs = if pdI nn P sp cs nn 0 1 < nuI nn P sp cs nn 0 0 1 then pdI nn P sp cs nn 0 1 else nuI nn P sp cs nn 0 0 1) ∧ (asI nn P sp cs 101 (nn : Int).toNat = false → bdN nn P sp cs = pdI nn P sp cs nn 0 1) := by
      unfold bdN
      rw [Int.toNat_natCast]
      by_cases d : asI nn P sp cs 101 nn = true
      · rw [if_pos d]
        refine ⟨?_, ?_, fun _ => rfl, fun z => by rw [d] at z; cases z⟩
        · split <;> omega
        · split <;> omega
      · rw [if_neg d]
        exact ⟨by omega, by omega, fun z => absurd z d, fun _ => rfl⟩
    have hp : pdI nn P sp cs nn 0 1 = ((pdI nn P sp cs nn 0 1).toNat : Int) := by omega
    have fr0 := p_setFr (F := F) (Z := Z) (σ := σ2) (a := (bdN nn P sp cs).toNat) (b := (pdI nn P sp cs nn 0 1).toNat) (by omega) (by omega) (by omega)
    rw [← hb.1, ← hp] at fr0
    have e4 : f_X0_tellsBound F Z σ = (f_X0_setFraction F Z σ2 (i64 (bdN nn P sp cs)) (i64 (pdI nn P sp cs nn 0 1))).bind fun q10 => some ((1 : Int32), q10.2) := by
      rw [e3]
      cases d : asI nn P sp cs 101 (nn : Int).toNat with
      | true =>
        rw [b01t, if_neg n10, hb.2.2.1 d]
        by_cases f : pdI nn P sp cs nn 0 1 < nuI nn P sp cs nn 0 0 1
        · rw [if_pos (show i64 (pdI nn P sp cs nn 0 1) < i64 (nuI nn P sp cs nn 0 0 1) by rw [i64_lt (by omega)]; exact f), if_pos f]
        · rw [if_neg (show ¬ i64 (pdI nn P sp cs nn 0 1) < i64 (nuI nn P sp cs nn 0 0 1) by rw [i64_lt (by omega)]; exact f), if_neg f]
      | false => rw [b01f, if_pos rfl, hb.2.2.2 d]
    rw [fr0, obs] at e4
    have f5 : fr [11205, 11206] σ2 (sJ (sJ σ2 12 5 (i64 ((bdN nn P sp cs).toNat / Nat.gcd (pdI nn P sp cs nn 0 1).toNat (bdN nn P sp cs).toNat : Nat))) 12 6 (i64 ((pdI nn P sp cs nn 0 1).toNat / Nat.gcd (pdI nn P sp cs nn 0 1).toNat (bdN nn P sp cs).toNat : Nat))) := fr_tr (fr_sJ _ _ (by decide)) (fr_sJ _ _ (by decide))
    refine ⟨_, fr_tr (fr_mono (fr_tr e1 u2) (by decide)) (fr_mono f5 (by decide)), sitH_fr u3 f5, ?_⟩
    rw [if_neg c]
    refine ⟨e4, ?_, ?_⟩
    · simp (disch := omega) only [↓reduceIte, iT_lt, iF_lt, iT_le, iF_le, iT_eq, iF_eq, nT_lt, nF_lt, nT_le, nF_le, nT_eq, nF_eq, and_self, and_true, true_and, and_false, false_and, not_true_eq_false, not_false_eq_true, ne_eq, or_self, or_false, false_or, or_true, true_or, Option.bind_some, i32_lit, i64_lit, i32_add, i32_sub, i32_mul, i32_neg, i64_add, i64_sub, i64_neg, i32_lt, i32_le, i32_eq, i64_lt, i64_le, i64_eq, i32_cn, i32_cl, i32_l, i64_i, i32_nat, Int.toNat_natCast, sI_2, sJ_1, sJ_22, sR_1, sR_21, sI_t, sI_r, sI_j, sJ_t, sJ_r, sJ_j, sR_t, sR_r, sR_j]
    · simp (disch := omega) only [↓reduceIte, iT_lt, iF_lt, iT_le, iF_le, iT_eq, iF_eq, nT_lt, nF_lt, nT_le, nF_le, nT_eq, nF_eq, and_self, and_true, true_and, and_false, false_and, not_true_eq_false, not_false_eq_true, ne_eq, or_self, or_false, false_or, or_true, true_or, Option.bind_some, i32_lit, i64_lit, i32_add, i32_sub, i32_mul, i32_neg, i64_add, i64_sub, i64_neg, i32_lt, i32_le, i32_eq, i64_lt, i64_le, i64_eq, i32_cn, i32_cl, i32_l, i64_i, i32_nat, Int.toNat_natCast, sI_2, sJ_1, sJ_22, sR_1, sR_21, sI_t, sI_r, sI_j, sJ_t, sJ_r, sJ_j, sR_t, sR_r, sR_j]
theorem p_mboundL {B : Nat → Nat} {n k0 s F nn : Nat} {P D : Int} {y2 : Int32} {sp : Nat → Int} {Z : hZ} {K : hSt → Int64 → Option (Int64 × hSt)} (hF : 300 ≤ F) (hP : 1 ≤ P) (hD : 0 ≤ D ∧ D ≤ 1000000000000000) : ∀ (k i M : Nat) (τ : hSt) (z : Int), i + k = nn → k < M → sitM B n k0 s (nn : Int) P sp τ → ∃ υ, fr (213 :: WG) τ υ ∧ sitM B n k0 s (nn : Int) P sp υ ∧ f_X12_bound_L92 F Z y2 (i32 (s : Int)) (i32 (k0 : Int)) (i32 P) (i64 D) K M τ (i64 z) (i32 (i : Int)) = K υ (i64 (buI nn P sp (tZc B n 0) D k i z)) := by
  intro k
  induction k with
  | zero =>
    intro i M τ z hi hM h
    obtain ⟨M, rfl⟩ : ∃ q, M = q + 1 := ⟨M - 1, by omega⟩
    have hN := h.2.2.2.1
    have hs := h.2.2.1
    refine ⟨τ, fr_rf _ _, h, ?_⟩
    rw [f_X12_bound_L92, i32_cn (by omega), if_neg (show ¬ (i32 (s : Int) < (0 : Int32) ∨ 21 ≤ s) by rw [show (0 : Int32) = i32 0 from rfl, i32_lt (by omega)]; omega), h.2.2.2.2.2.1, if_pos (show i32 (nn : Int) ≤ i32 (i : Int) by rw [i32_le (by omega)]; omega), buI]
  | succ k ih =>
    intro i M τ z hi hM h
    obtain ⟨M, rfl⟩ : ∃ q, M = q + 1 := ⟨M - 1, by omega⟩
    have hN := h.2.2.2.1
    have hs := h.2.2.1
    have hP2 := h.2.2.2.2.1
    have hd := dcI_rg (N := nn) (sp := sp) (cs := tZc B n 0) (i := i) hP
    obtain ⟨υ1, e1, e2, e3⟩ := p_masks (Z := Z) (i := i) hF (by omega) h
    have hi1 : i32 (i : Int) + (1 : Int32) = i32 ((i + 1 : Nat) : Int) := by rw [show (1 : Int32) = i32 1 from rfl, i32_add]; rfl
    rw [f_X12_bound_L92, i32_cn (by omega), if_neg (show ¬ (i32 (s : Int) < (0 : Int32) ∨ 21 ≤ s) by rw [show (0 : Int32) = i32 0 from rfl, i32_lt (by omega)]; omega), h.2.2.2.2.2.1, if_neg (show ¬ i32 (nn : Int) ≤ i32 (i : Int) by rw [i32_le (by omega)]; omega), e1, obs, buI]
    dsimp only
    cases a : asI nn P sp (tZc B n 0) 99 i with
    | false =>
      obtain ⟨υ2, w1, w2, w3⟩ := ih (i + 1) M υ1 (z + D) (by omega) (by omega) e3
      rw [b01f, if_pos rfl, i64_add, hi1, if_neg (by decide)]
      exact ⟨υ2, fr_tr e2 w1, w2, w3⟩
    | true =>
      obtain ⟨υ2, u1, u2, u3⟩ := p_mdraws (Z := Z) (i := i) hF (by omega) hP e3
      obtain ⟨υ3, w1, w2, w3⟩ := ih (i + 1) M υ2 (z + D / dcI nn P sp (tZc B n 0) i * sp i) (by omega) (by omega) u3
      have hsp := u3.2.2.2.2.2.2 i (by omega)
      have hq : (6 : Int32) * i32 (s : Int) + i32 (i : Int) = i32 ((6 * s + i : Nat) : Int) := by rw [show (6 : Int32) = i32 6 from rfl, i32_mul, i32_add]; rfl
      rw [b01t, if_neg n10, u1, obs, if_pos rfl]
      dsimp only
      rw [i32_l (by omega), if_neg (show ¬ i64 (dcI nn P sp (tZc B n 0) i) = (0 : Int64) by rw [show (0 : Int64) = i64 0 from rfl, i64_eq (by omega)]; omega), hq, i32_cn (by omega), if_neg (show ¬ (i32 ((6 * s + i : Nat) : Int) < (0 : Int32) ∨ 126 ≤ 6 * s + i) by rw [show (0 : Int32) = i32 0 from rfl, i32_lt (by omega)]; omega), hsp.1, i32_l (by omega), i64_div (by omega), i64_mul, i64_add, hi1]
      exact ⟨υ3, fr_tr e2 (fr_tr u2 w1), w2, w3⟩
