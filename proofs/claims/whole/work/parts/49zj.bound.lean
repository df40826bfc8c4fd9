/-! the bound of a talk's odds -/
def eI (N P : Int) (sp : Nat → Int) (cs : Cls) (i : Nat) : Int := if asI N P sp cs 99 i = true then sp i else dcI N P sp cs i
def nuI (N P : Int) (sp : Nat → Int) (cs : Cls) : Nat → Nat → Int → Int → Int
  | 0, _, z, _ => z
  | k + 1, i, z, w => nuI N P sp cs k (i + 1) (z * dcI N P sp cs i + eI N P sp cs i * w) (w * dcI N P sp cs i)
def buI (N P : Int) (sp : Nat → Int) (cs : Cls) (D : Int) : Nat → Nat → Int → Int
  | 0, _, z => z
  | k + 1, i, z => buI N P sp cs D k (i + 1) (z + (if asI N P sp cs 99 i = true then D / dcI N P sp cs i * sp i else D))
theorem pd_dvd {N P : Int} {sp : Nat → Int} {cs : Cls} : ∀ (k i : Nat) (z : Int), z ∣ pdI N P sp cs k i z := by
  intro k
  induction k with
  | zero => intro i z; exact Int.dvd_refl _
  | succ k ih =>
    intro i z
    rw [pdI]
    split
    · exact Int.dvd_zero _
    · split
      · exact Int.dvd_trans (Int.dvd_mul_right _ _) (ih _ _)
      · exact Int.dvd_zero _
theorem ar_bu {a b c d e w : Int} (hd : 0 < d) (h : d ∣ c) (h1 : a * w = b * c) : (a + c / d * e) * (w * d) = (b * d + e * w) * c := by
  obtain ⟨q, rfl⟩ := h
  rw [Int.mul_ediv_cancel_left _ (by omega)]
  have e1 : (a + q * e) * (w * d) = (a * w) * d + q * e * w * d := by rw [Int.add_mul]; ac_nf
  have e2 : (b * d + e * w) * (d * q) = (b * (d * q)) * d + q * e * w * d := by rw [Int.add_mul]; ac_nf
  rw [e1, e2, h1]
theorem bu_nu {N P D : Int} {sp : Nat → Int} {cs : Cls} (hP : 1 ≤ P) : ∀ (k i : Nat) (z8 z1 z3 : Int), 1 ≤ z3 → D = pdI N P sp cs k i z3 → D ≠ 0 → z8 * z3 = z1 * D → buI N P sp cs D k i z8 = nuI N P sp cs k i z1 z3 := by
  intro k
  induction k with
  | zero =>
    intro i z8 z1 z3 h3 hD hD0 h
    rw [pdI] at hD
    rw [buI, nuI]
    rw [hD] at h
    exact Int.eq_of_mul_eq_mul_right (by omega) h
  | succ k ih =>
    intro i z8 z1 z3 h3 hD hD0 h
    have hd := dcI_rg (N := N) (sp := sp) (cs := cs) (i := i) hP
    rw [pdI] at hD
    rw [buI, nuI]
    by_cases c : 1000 < dcI N P sp cs i
    · rw [if_pos c] at hD; exact absurd hD hD0
    · rw [if_neg c] at hD
      by_cases d : z3 * dcI N P sp cs i ≤ 1000000000000000
      · rw [if_pos d] at hD
        have hz1 : 1 ≤ z3 * dcI N P sp cs i := by
          have := Int.mul_le_mul (show (1 : Int) ≤ z3 from h3) hd.1 (by omega) (by omega)
          omega
        have hv : dcI N P sp cs i ∣ D := by
          rw [hD]
          exact Int.dvd_trans (Int.dvd_mul_left _ _) (pd_dvd _ _ _)
        refine ih (i + 1) _ _ _ hz1 hD hD0 ?_
        have := ar_bu (e := eI N P sp cs i) (show 0 < dcI N P sp cs i by omega) hv h
        rw [← this]
        congr 2
        unfold eI
        split
        · rfl
        · exact (Int.ediv_mul_cancel hv).symm
      · rw [if_neg d] at hD; exact absurd hD hD0
theorem nu_rg {N P : Int} {sp : Nat → Int} {cs : Cls} (hP : 1 ≤ P) (hs : ∀ j, j < 6 → 0 ≤ sp j ∧ sp j ≤ 200) : ∀ (k i : Nat) (z1 z3 : Int), i + k ≤ 6 → 0 ≤ z1 → z1 ≤ (200 * (i : Int)) * z3 → 1 ≤ z3 → z3 ≤ 1000000000000000 → pdI N P sp cs k i z3 ≠ 0 → 0 ≤ nuI N P sp cs k i z1 z3 ∧ nuI N P sp cs k i z1 z3 ≤ 1200000000000000000 := by
  intro k
  induction k with
  | zero =>
    intro i z1 z3 hi h1 h2 h3 h4 hne
    rw [nuI]
    refine ⟨h1, ?_⟩
    have := mul_le_of (z := 200 * (i : Int)) (w := 1200) (e := z3) (d := 1000000000000000) (by omega) (by omega)
    omega
  | succ k ih =>
    intro i z1 z3 hi h1 h2 h3 h4 hne
    have hd := dcI_rg (N := N) (sp := sp) (cs := cs) (i := i) hP
    have hsi := hs i (by omega)
    rw [pdI] at hne
    rw [nuI]
    by_cases c : 1000 < dcI N P sp cs i
    · rw [if_pos c] at hne; exact absurd rfl hne
    · rw [if_neg c] at hne
      by_cases d : z3 * dcI N P sp cs i ≤ 1000000000000000
      · rw [if_pos d] at hne
        have hz1 : 1 ≤ z3 * dcI N P sp cs i := by
          have := Int.mul_le_mul (show (1 : Int) ≤ z3 from h3) hd.1 (by omega) (by omega)
          omega
        have he : 0 ≤ eI N P sp cs i ∧ eI N P sp cs i ≤ 200 * dcI N P sp cs i := by unfold eI; split <;> omega
        have ha := Int.mul_nonneg h1 (show 0 ≤ dcI N P sp cs i by omega)
        have hb := Int.mul_nonneg he.1 (show 0 ≤ z3 by omega)
        have hc := Int.mul_le_mul_of_nonneg_right h2 (show 0 ≤ dcI N P sp cs i by omega)
        have hd' := Int.mul_le_mul_of_nonneg_right he.2 (show 0 ≤ z3 by omega)
        refine ih (i + 1) _ _ (by omega) (by omega) ?_ hz1 d hne
        rw [show (200 * ((i + 1 : Nat) : Int)) * (z3 * dcI N P sp cs i) = 200 * (i : Int) * z3 * dcI N P sp cs i + 200 * dcI N P sp cs i * z3 by rw [show ((i + 1 : Nat) : Int) = (i : Int) + 1 by omega, Int.mul_add, Int.add_mul]; ac_nf]
        omega
      · rw [if_neg d] at hne; exact absurd rfl hne
theorem p_boundL {Z : hZ} {s t F nn : Nat} {P : Int} {sp : Nat → Int} {cs : Cls} {K : hSt → Int64 → Int64 → Option (Int32 × hSt)} (hF : 1000 ≤ F) (hP : 1 ≤ P) : ∀ (k i M : Nat) (σ : hSt) (z1 z3 : Int), i + k = nn → k < M → 1 ≤ z3 → z3 ≤ 1000000000000000 → sitH Z σ s t (nn : Int) P sp cs → ∃ σ', fr [8, 13] σ σ' ∧ sitH Z σ' s t (nn : Int) P sp cs ∧ f_X0_tellsBound_L7 F Z K M σ (i64 z1) (i64 z3) (i32 (i : Int)) = (if pdI nn P sp cs k i z3 = 0 then some (0, σ') else K σ' (i64 (nuI nn P sp cs k i z1 z3)) (i64 (pdI nn P sp cs k i z3))) := by
  intro k
  induction k with
  | zero =>
    intro i M σ z1 z3 hi hM h3 h4 h
    obtain ⟨M, rfl⟩ : ∃ q, M = q + 1 := ⟨M - 1, by omega⟩
    have hN := h.2.2.2.2.2.2.1
    refine ⟨σ, fr_rf _ _, h, ?_⟩
    rw [f_X0_tellsBound_L7, p_rounds h.1 h.2.1 h.2.2.2.2.2.1, obs, if_pos (show i32 (nn : Int) ≤ i32 (i : Int) by rw [i32_le (by omega)]; omega), pdI, nuI, if_neg (by omega)]
  | succ k ih =>
    intro i M σ z1 z3 hi hM h3 h4 h
    obtain ⟨M, rfl⟩ : ∃ q, M = q + 1 := ⟨M - 1, by omega⟩
    have hN := h.2.2.2.2.2.2.1
    have hP2 := h.2.2.2.2.2.2.2.1
    have hsp := h.2.2.2.2.2.2.2.2.2.1 i (by omega)
    have hd := dcI_rg (N := nn) (sp := sp) (cs := cs) (i := i) hP
    obtain ⟨σ1, e1, e2, e3⟩ := p_dice (i := i) hF (by omega) hP h
    obtain ⟨σ2, u1, u2, u3⟩ := p_asks (i := i) hF (by omega) e3
    have hst : f_X0_steepOf Z σ2 (i32 (i : Int)) = some (i32 (sp i)) := p_steepOf u3.1 u3.2.1 u3.2.2.2.2.2.2.2.2.1 (fun j hj => (u3.2.2.2.2.2.2.2.2.2.1 j hj).1) (by omega)
    rw [f_X0_tellsBound_L7, p_rounds h.1 h.2.1 h.2.2.2.2.2.1, obs, if_neg (show ¬ i32 (nn : Int) ≤ i32 (i : Int) by rw [i32_le (by omega)]; omega), e1, obs, pdI, nuI]
    dsimp only
    rw [u1, obs]
    dsimp only
    rw [hst, obs]
    by_cases c : 1000 < dcI nn P sp cs i
    · rw [if_pos (show (1000 : Int32) < i32 (dcI nn P sp cs i) by rw [show (1000 : Int32) = i32 1000 from rfl, i32_lt (by omega)]; exact c), if_pos c, if_pos (show (1000 : Int32) < i32 (dcI nn P sp cs i) by rw [show (1000 : Int32) = i32 1000 from rfl, i32_lt (by omega)]; exact c), ite_self]
      exact ⟨σ2, fr_tr e2 u2, u3, (if_pos rfl).symm⟩
    · have hz := mul_le_of (z := z3) (w := 1000000000000000) (e := dcI nn P sp cs i) (d := 1000) (by omega) (by omega)
      have hc : ¬ (1000 : Int32) < i32 (dcI nn P sp cs i) := by rw [show (1000 : Int32) = i32 1000 from rfl, i32_lt (by omega)]; exact c
      rw [if_neg hc, if_neg hc, if_neg c, i32_l (by omega), i32_l (by omega), i64_mul, i64_mul, i64_mul, i64_mul, i64_add, i64_add, show i32 (i : Int) + (1 : Int32) = i32 ((i + 1 : Nat) : Int) by rw [show (1 : Int32) = i32 1 from rfl, i32_add]; rfl]
      by_cases d : z3 * dcI nn P sp cs i ≤ 1000000000000000
      · have hz1 : 1 ≤ z3 * dcI nn P sp cs i := by
          have := Int.mul_le_mul (show (1 : Int) ≤ z3 from h3) hd.1 (by omega) (by omega)
          omega
        have hd2 : i64 (z3 * dcI nn P sp cs i) ≤ (1000000000000000 : Int64) := by rw [show (1000000000000000 : Int64) = i64 1000000000000000 from rfl, i64_le (by omega)]; exact d
        obtain ⟨σ3, w1, w2, w3⟩ := ih (i + 1) M σ2 (z1 * dcI nn P sp cs i + eI nn P sp cs i * z3) (z3 * dcI nn P sp cs i) (by omega) (by omega) hz1 d u3
        rw [if_pos hd2, if_pos hd2, if_pos d]
        refine ⟨σ3, fr_tr e2 (fr_tr u2 w1), w2, Eq.trans ?_ w3⟩
        unfold eI
        cases asI nn P sp cs 99 i with
        | true => rw [b01t, if_neg n10, if_pos rfl]
        | false => rw [b01f, if_pos rfl, if_neg (by decide)]
      · have hd2 : ¬ i64 (z3 * dcI nn P sp cs i) ≤ (1000000000000000 : Int64) := by rw [show (1000000000000000 : Int64) = i64 1000000000000000 from rfl, i64_le (by omega)]; exact d
        rw [if_neg hd2, if_neg hd2, if_neg d, ite_self]
        exact ⟨σ2, fr_tr e2 u2, u3, (if_pos rfl).symm⟩
