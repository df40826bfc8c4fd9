/-! calls: spent, odds -/
def spV (T : TK) : Nat → Nat → Int32 → Int32
  | 0, _, z => z
  | k + 1, i, z => spV T k (i + 1) (z + (((2 : Int32) * (i32 (kS T i) + 1)) * (i32 (kS T i) + 1) + b01 (asI (kN T) (kP T) (kS T) (kA T) 99 i)))
theorem p_spL {Z : hZ} {r s tl tg F : Nat} {T : TK} (hF : 1000 ≤ F) (hT : okT T) (hz : tkZ Z r s tl tg T) : ∀ (k i M : Nat) (σ : hSt) (z : Int32), i + k = kN T → k < M → sitH Z σ s tl (kN T) (kP T) (kS T) (kA T) → ∃ σ', f_X11_spent_L85 F Z s M σ z (i32 (i : Int)) = some (spV T k i z, σ') ∧ fr [8, 13] σ σ' ∧ sitH Z σ' s tl (kN T) (kP T) (kS T) (kA T) := by
  have hN := hT.1
  intro k
  induction k with
  | zero =>
    intro i M σ z hi hM h
    obtain ⟨M, rfl⟩ : ∃ q, M = q + 1 := ⟨M - 1, by omega⟩
    obtain rfl : i = kN T := by omega
    refine ⟨σ, ?_, fr_rf _ _, h⟩
    rw [f_X11_spent_L85, hz.2.2.2.2.2.2.2.2.2.1, if_pos (Int32.le_refl _)]
    rfl
  | succ k ih =>
    intro i M σ z hi hM h
    obtain ⟨M, rfl⟩ : ∃ q, M = q + 1 := ⟨M - 1, by omega⟩
    obtain ⟨σ1, a1, a2, a3⟩ := p_asks (i := i) hF (by omega) h
    obtain ⟨σ2, b1, b2, b3⟩ := ih (i + 1) M σ1 (z + (((2 : Int32) * (i32 (kS T i) + 1)) * (i32 (kS T i) + 1) + b01 (asI (kN T) (kP T) (kS T) (kA T) 99 i))) (by omega) (by omega) a3
    refine ⟨σ2, ?_, fr_tr a2 b2, b3⟩
    rw [f_X11_spent_L85, hz.2.2.2.2.2.2.2.2.2.1, if_neg (mt (leI (by omega)).mp (by omega)), p_stp hz.2.2.2.2.2.2.2.2.2.2.2.1 hz.2.2.2.2.2.2.2.2.2.2.2.2.1 (by omega), obs, a1, obs, ip1]
    dsimp only
    rw [spV]
    cases e : asI (kN T) (kP T) (kS T) (kA T) 99 i with
    | false => rw [e] at b1; rw [b01f, if_pos rfl]; exact b1
    | true => rw [e] at b1; rw [b01t, if_neg n10]; exact b1
theorem p_mspentL {x s kl kg nl ng F : Nat} {Bl Bg : Nat → Nat} {T : TK} {Z : hZ} (hF : 300 ≤ F) (hT : okT T) : ∀ (k i M : Nat) (τ : hSt) (z : Int32), i + k = kN T → k < M → tkM x s kl kg nl ng Bl Bg T τ → ∃ υ, f_X12_spent_L86 F Z (i32 (x : Int)) (i32 (s : Int)) M τ z (i32 (i : Int)) = some (spV T k i z, υ) ∧ fr (213 :: WG) τ υ := by
  have hN := hT.1
  intro k
  induction k with
  | zero =>
    intro i M τ z hi hM h
    obtain ⟨M, rfl⟩ : ∃ q, M = q + 1 := ⟨M - 1, by omega⟩
    obtain rfl : i = kN T := by omega
    have h6 := h.2.2.2.2.2.1
    have hs20 := h6.2.2.1
    refine ⟨τ, ?_, fr_rf _ _⟩
    rw [f_X12_spent_L86, i32_cn (show s ≤ 2147483647 by omega), if_neg (ix_ok (show s < 21 by omega) (by omega)), h6.2.2.2.2.2.1, if_pos (Int32.le_refl _)]
    rfl
  | succ k ih =>
    intro i M τ z hi hM h
    obtain ⟨M, rfl⟩ : ∃ q, M = q + 1 := ⟨M - 1, by omega⟩
    have hx12 := h.1
    have h6 := h.2.2.2.2.2.1
    have hs20 := h6.2.2.1
    have hxx := ix_ok (show x < 12 by omega) (show x ≤ 100000 by omega)
    have hq2 : (6 : Int32) * i32 (s : Int) + i32 (i : Int) = i32 ((6 * s + i : Nat) : Int) := by rw [show (6 : Int32) = i32 6 from rfl, i32_mul, i32_add]; rfl
    obtain ⟨τ1, a1, a2, a3⟩ := p_masks (Z := Z) (F := F) (i := i) hF (by omega) h6
    rw [← h.2.2.2.2.2.2.1] at a1
    obtain ⟨τ2, b1, b2⟩ := ih (i + 1) M τ1 (z + (((2 : Int32) * (i32 (kS T i) + 1)) * (i32 (kS T i) + 1) + b01 (asI (kN T) (kP T) (kS T) (kA T) 99 i))) (by omega) (by omega) (tkM_fr h (fr_mono a2 (by decide)))
    refine ⟨τ2, ?_, fr_tr a2 b2⟩
    rw [f_X12_spent_L86, i32_cn (show s ≤ 2147483647 by omega), if_neg (ix_ok (show s < 21 by omega) (by omega)), h6.2.2.2.2.2.1, if_neg (mt (leI (by omega)).mp (by omega)), hq2, i32_cn (show 6 * s + i ≤ 2147483647 by omega), if_neg (ix_ok (show 6 * s + i < 126 by omega) (by omega)), i32_cn (show x ≤ 2147483647 by omega), if_neg hxx, if_neg hxx, h.2.2.2.1, h.2.2.1, a1, obs, (h6.2.2.2.2.2.2 i (by omega)).1, ip1]
    dsimp only
    rw [spV]
    cases e : asI (kN T) (kP T) (kS T) (kA T) 99 i with
    | false => rw [e] at b1; rw [b01f, if_pos rfl]; exact b1
    | true => rw [e] at b1; rw [b01t, if_neg n10]; exact b1
theorem q_spent {A : HA} {Z : hZ} {σ τ : hSt} {F : Nat} (hF : 50000 ≤ F) (h : J A Z σ τ) (x1 x2 : Int32) : ∃ v σ' τ', f_X11_spent F Z σ x1 x2 = some (v, σ') ∧ f_X12_spent F Z τ x1 x2 = some (v, τ') ∧ J A Z σ' τ' := by
  obtain ⟨z1, hz1, rfl⟩ := ofx x1
  obtain ⟨z2, hz2, rfl⟩ := ofx x2
  obtain ⟨l1, l2⟩ := h.2.1.2.2.2.1
  have hn := h.1.2.2.2.2.2.2.1
  have t0 := J_0 h 0
  have m2' := t0.2.2.2.1.2.2.2.2.1
  unfold f_X11_spent f_X12_spent
  rw [p_misK m2'.1 (by omega) hz1, obs, i32_l hz2, show f_X12_isIn (i64 z2) 0 1 = _ from p_isIn (a := 0) (b := 1) (by omega) (by omega) (by omega), obs]
  rcases ixc z1 (nK_ A) with ⟨x, hx, rfl⟩ | c
  · have hT := tkA_ok h.1 hx
    have hz := tkZ_of h.1 h.2.1 hx
    have hM := tkM_of h.1 t0.2.2.2.1 hx
    rw [tf_e] at hz
    have hN := hT.1
    have hP := hT.2.2.1
    have hxx := ix_ok (show x < 12 by omega) (show x ≤ 100000 by omega)
    have m5 := h.2.2.2.1.2.2.2.2.1.2 x hx
    have hb := h.1.2.2.2.2.2.2.2.1 x hx
    have hs20 : (fK A x).1 ≤ 20 := hM.2.2.2.2.2.1.2.2.1
    have hss := ix_ok (show (fK A x).1 < 21 by omega) (show (fK A x).1 ≤ 100000 by omega)
    have ms := h.2.2.2.1.2.1.2 _ hb.1
    have cz := h.2.1.1.2 _ hb.1
    rw [p_talkAt l1 (by omega) hx hz.2.2.2.2.2.2.1, obs, oc_1, if_pos hz.2.2.2.2.2.2.1, decide_eq_true (show 0 ≤ (x : Int) ∧ (x : Int) < (nK_ A : Int) by omega), b01t, if_neg n10, hz.1, oc_1, if_pos hz.2.1, hz.2.2.1, oc_1, if_pos hz.2.2.2.1, i32_cn (show x ≤ 2147483647 by omega), if_neg hxx, if_neg hxx, if_neg hxx, m5.1, i32_cn (show (fK A x).1 ≤ 2147483647 by omega), if_neg hss, if_neg hss, ms.2.2.2.2.1, ms.2.2.2.2.2.2, cz.2.2.1, cz.2.2.2.1, hz.2.2.2.2.2.2.2.1, m5.2.1, m5.2.2.1]
    by_cases d : 0 ≤ z2 ∧ z2 ≤ 1
    · rw [decide_eq_true d, b01t, if_neg n10, if_neg (show ¬ i32 z2 < (0 : Int32) from mt (ltI (b := 0) (by omega)).mp (by omega)), if_pos (show i32 z2 ≤ (1 : Int32) from (leI (b := 1) (by omega)).mpr (by omega))]
      by_cases d1 : z2 = 1
      · have d1' : i32 z2 = (1 : Int32) := by rw [d1]; rfl
        rw [if_pos d1', if_pos d1']
        exact ⟨_, _, _, rfl, rfl, t0⟩
      · have d1' : ¬ i32 z2 = (1 : Int32) := mt (eqI (b := 1) (by omega)).mp d1
        rw [if_neg d1', if_neg d1']
        obtain ⟨σ1, a1, a2, a3⟩ := p_sit (P := kP (tkA A x)) (sitB_tk hT hz h.2.2.1.2.2.1) (by omega)
        obtain ⟨σ2, b1, b2, b3⟩ := p_asksEnd (F := F) (by omega) a3
        obtain ⟨υ1, u1, u2, u3⟩ := p_masksEnd (F := F) (Z := Z) (by omega) hM.2.2.2.2.2.1
        rw [← hM.2.2.2.2.2.2.1] at u1
        have hM1 := tkM_fr hM (fr_mono u2 (by decide))
        have u1' : f_X12_asksEnd F Z (sI τ 200 0 0) (i32 ((fK A x).2.2.1 : Int)) (i32 ((fK A x).1 : Int)) (i32 (fK A x).2.1) = _ := u1
        have h206 : υ1.1 206 (fK A x).1 = i32 (wkL (fS A (fK A x).1) : Int) := by
          rw [fr_I u2 206 rfl (by decide)]; exact ms.2.2.2.2.2.2
        rw [a1, obs, b1, obs, u1', obs]
        dsimp only
        rw [h206]
        obtain ⟨σ3, c1, c2, c3⟩ := p_spL (F := F) (by omega) hT hz (kN (tkA A x)) 0 F σ2 (if b01 (asI (kN (tkA A x)) (kP (tkA A x)) (kS (tkA A x)) (kA (tkA A x)) 101 ((kN (tkA A x) : Nat) : Int).toNat) = (0 : Int32) then 0 else i32 (wkL (fS A (fK A x).1) : Int)) (by omega) (by omega) b3
        obtain ⟨υ2, w1, w2⟩ := p_mspentL (F := F) (Z := Z) (by omega) hT (kN (tkA A x)) 0 F υ1 (if b01 (asI (kN (tkA A x)) (kP (tkA A x)) (kS (tkA A x)) (kA (tkA A x)) 101 ((kN (tkA A x) : Nat) : Int).toNat) = (0 : Int32) then 0 else i32 (wkL (fS A (fK A x).1) : Int)) (by omega) (by omega) hM1
        have hJ : J A Z σ3 υ2 := J_A t0 (fr_tr (fr_mono a2 (by decide)) (fr_tr (fr_mono b2 (by decide)) (fr_mono c2 (by decide))) : fr WAB σ σ3) (fr_tr u2 w2) (z13_s c3) (by decide) (by decide) (by decide) (by decide)
        by_cases e : b01 (asI (kN (tkA A x)) (kP (tkA A x)) (kS (tkA A x)) (kA (tkA A x)) 101 ((kN (tkA A x) : Nat) : Int).toNat) = (0 : Int32)
        · rw [if_pos e] at c1 w1
          rw [if_pos e, if_pos e]
          exact ⟨_, _, _, c1, w1, hJ⟩
        · rw [if_neg e] at c1 w1
          rw [if_neg e, if_neg e, if_neg hss]
          exact ⟨_, _, _, c1, w1, hJ⟩
    · rw [decide_eq_false d, b01f, if_pos rfl]
      by_cases e : z2 < 0
      · rw [if_pos (show i32 z2 < (0 : Int32) from (ltI (b := 0) (by omega)).mpr e)]
        exact ⟨_, _, _, rfl, rfl, t0⟩
      · rw [if_neg (show ¬ i32 z2 < (0 : Int32) from mt (ltI (b := 0) (by omega)).mp e), if_neg (show ¬ i32 z2 ≤ (1 : Int32) from mt (leI (b := 1) (by omega)).mp (by omega))]
        exact ⟨_, _, _, rfl, rfl, t0⟩
  · rw [p_talkNo l1 (by omega) hz1 c, obs, decide_eq_false c, b01f, if_pos rfl]
    exact ⟨_, _, _, rfl, rfl, t0⟩
theorem p_own {z : Int} (hz : -2147483648 ≤ z ∧ z ≤ 2147483647) : f_X11_isOwnNumber (i32 z) = some (b01 (decide (0 ≤ z ∧ z ≤ 1000000))) := by
  unfold f_X11_isOwnNumber
  by_cases c : z < 0
  · rw [if_pos (show i32 z < (0 : Int32) from (ltI (b := 0) (by omega)).mpr c), decide_eq_false (by omega)]; rfl
  · rw [if_neg (show ¬ i32 z < (0 : Int32) from mt (ltI (b := 0) (by omega)).mp c)]
    by_cases d : 1000000 < z
    · rw [if_pos (show (1000000 : Int32) < i32 z from (ltI (a := 1000000) (by omega)).mpr d), decide_eq_false (by omega)]; rfl
    · rw [if_neg (show ¬ (1000000 : Int32) < i32 z from mt (ltI (a := 1000000) (by omega)).mp d), decide_eq_true (by omega)]; rfl
theorem p_asked {Z : hZ} {τ : hSt} {n : Nat} {z1 z2 : Int} (h : τ.1 200 36 = i32 (n : Int)) (hn : n ≤ 1000) (h1 : -2147483648 ≤ z1 ∧ z1 ≤ 2147483647) (h2 : -2147483648 ≤ z2 ∧ z2 ≤ 2147483647) : f_X12_isAsked Z τ (i32 z1) (i32 z2) = some (b01 (decide (0 ≤ z1 ∧ z1 < n) && decide (0 ≤ z2 ∧ z2 ≤ 1000000)), sI τ 200 0 0) := by
  unfold f_X12_isAsked
  rw [p_misK (n := n) (by rw [sI_j _ _ (by omega)]; exact h) hn h1, obs, i32_l h2, show f_X12_isIn (i64 z2) 0 1000000 = _ from p_isIn (a := 0) (b := 1000000) (by omega) (by omega) (by omega), obs]
  cases decide (0 ≤ z1 ∧ z1 < (n : Int)) with
  | false => rfl
  | true =>
    cases decide (0 ≤ z2 ∧ z2 ≤ 1000000) with
    | false => rfl
    | true => rfl
theorem ap_le {N P : Int} {sp : Nat → Int} {cs : Cls} : ∀ (k i : Nat) (z : Int), 1 ≤ z → 1 ≤ P → apI N P sp cs k i z ≠ -1 → ∀ j, i ≤ j → j < i + k → dcI N P sp cs j ≤ 2000 := by
  intro k
  induction k with
  | zero => intro i z hz hP h j h1 h2; omega
  | succ k ih =>
    intro i z hz hP h j h1 h2
    rw [apI] at h
    have hd := (dcI_rg (N := N) (P := P) (sp := sp) (cs := cs) (i := i) hP).1
    by_cases c : z * dcI N P sp cs i ≤ 2000
    · rw [if_pos c] at h
      have h3 : 1 * dcI N P sp cs i ≤ z * dcI N P sp cs i := Int.mul_le_mul_of_nonneg_right hz (by omega)
      by_cases e : j = i
      · subst e; omega
      · exact ih (i + 1) _ (by omega) hP h j (by omega) (by omega)
    · rw [if_neg c] at h
      exact absurd rfl h
theorem q_odds {A : HA} {Z : hZ} {σ τ : hSt} {F : Nat} (hF : 50000 ≤ F) (h : J A Z σ τ) (x1 x2 x3 : Int32) : ∃ v σ' τ', f_X11_odds F Z σ x1 x2 x3 = some (v, σ') ∧ f_X12_odds F Z τ x1 x2 x3 = some (v, τ') ∧ J A Z σ' τ' := by
  obtain ⟨z1, hz1, rfl⟩ := ofx x1
  obtain ⟨z2, hz2, rfl⟩ := ofx x2
  obtain ⟨z3, hz3, rfl⟩ := ofx x3
  obtain ⟨l1, l2⟩ := h.2.1.2.2.2.1
  have hn := h.1.2.2.2.2.2.2.1
  have t0 := J_0 h 0
  have m5a := h.2.2.2.1.2.2.2.2.1
  have m5b := t0.2.2.2.1.2.2.2.2.1
  unfold f_X11_odds f_X12_odds
  rw [p_asked m5a.1 (by omega) hz1 hz2, obs, i32_l hz3, show f_X12_isIn (i64 z3) 0 1 = _ from p_isIn (a := 0) (b := 1) (by omega) (by omega) (by omega), obs]
  dsimp only
  rcases ixc z1 (nK_ A) with ⟨x, hx, rfl⟩ | c
  · have hT := tkA_ok h.1 hx
    have hz := tkZ_of h.1 h.2.1 hx
    have hM := tkM_of h.1 t0.2.2.2.1 hx
    have hz' := hz
    rw [tf_e] at hz
    have hN := hT.1
    have hP := hT.2.2.1
    have hxx := ix_ok (show x < 12 by omega) (show x ≤ 100000 by omega)
    have m5 := m5b.2 x hx
    rw [p_talkAt l1 (by omega) hx hz.2.2.2.2.2.2.1, obs, oc_1, if_pos hz.2.2.2.2.2.2.1, p_own hz2, obs, decide_eq_true (show 0 ≤ (x : Int) ∧ (x : Int) < (nK_ A : Int) by omega), Bool.true_and]
    by_cases cy : 0 ≤ z2 ∧ z2 ≤ 1000000
    · rw [decide_eq_true cy, b01t, if_neg n10, if_neg n10, hz.1, oc_1, if_pos hz.2.1, hz.2.2.1, oc_1, if_pos hz.2.2.2.1, hz.2.2.2.2.2.2.2.1, i32_cn (show x ≤ 2147483647 by omega), if_neg hxx, m5.1]
      by_cases d : 0 ≤ z3 ∧ z3 ≤ 1
      · rw [decide_eq_true d, b01t, if_neg n10, if_neg (show ¬ i32 z3 < (0 : Int32) from mt (ltI (b := 0) (by omega)).mp (by omega)), if_pos (show i32 z3 ≤ (1 : Int32) from (leI (b := 1) (by omega)).mpr (by omega))]
        obtain ⟨σ1, a1, a2, a3⟩ := p_sit (P := kP (tkA A x)) (sitB_tk hT hz h.2.2.1.2.2.1) (by omega)
        obtain ⟨σ2, b1, b2, b3, b4⟩ := p_rowsL (F := F) (by omega) (by omega) (kN (tkA A x)) 0 F σ1 1 (by omega) (by omega) (by omega) (by omega) a3
        have b3' : f_X0_allRows F Z σ1 = some (i32 (apI (kN (tkA A x)) (kP (tkA A x)) (kS (tkA A x)) (kA (tkA A x)) (kN (tkA A x)) 0 1), σ2) := b3
        obtain ⟨υ1, w, u1, u2, u3, u4⟩ := p_mrowsL (F := F) (Z := Z) (nn := kN (tkA A x)) (x := x) (y2 := i32 z2) (y3 := i32 z3) (K := (fun σ1 z5 => (if z5 ≤ (2000 : Int64) then (if i32 z3 = (1 : Int32) then some ((z5 : Int64).toInt32, σ1) else (f_X12_firstClaim F Z σ1 (i32 (x : Int)) (i32 z2)).bind fun q14 => (f_X12_believed F Z q14.2 (i32 (x : Int)) (i32 z2) 0 q14.1).bind fun q15 => some (q15.1, q15.2)) else some ((-1 : Int32), σ1)))) (by omega) (by omega) (by omega) (kN (tkA A x)) 0 F (sI τ 200 0 0) 1 (by omega) (by omega) (by omega) (by omega) hM.2.2.2.2.2.1 m5.2.2.1 m5.2.1
        rw [← hM.2.2.2.2.2.2.1] at u4
        have u3' : f_X12_odds_L35 F Z (i32 (x : Int)) (i32 z2) (i32 z3) (i32 ((fK A x).1 : Int)) (fun σ1 z5 => (if z5 ≤ (2000 : Int64) then (if i32 z3 = (1 : Int32) then some ((z5 : Int64).toInt32, σ1) else (f_X12_firstClaim F Z σ1 (i32 (x : Int)) (i32 z2)).bind fun q14 => (f_X12_believed F Z q14.2 (i32 (x : Int)) (i32 z2) 0 q14.1).bind fun q15 => some (q15.1, q15.2)) else some ((-1 : Int32), σ1))) F (sI τ 200 0 0) 1 0 = _ := u3
        have hM1 := tkM_fr hM (fr_mono u1 (by decide))
        have f12 : fr WAB σ σ2 := fr_tr (fr_mono a2 (by decide)) (fr_mono b1 (by decide))
        have hJ : J A Z σ2 υ1 := J_A t0 f12 u1 (z13_s b2) (by decide) (by decide) (by decide) (by decide)
        rw [a1, obs, b3', obs, u3']
        dsimp only
        rcases u4 with ⟨u4, u5, u6⟩ | ⟨u4, u5, u6⟩
        · rw [u4, if_pos (show i32 (-1) = (-1 : Int32) from rfl), if_neg (show ¬ i64 w ≤ (2000 : Int64) from mt (leJ (b := 2000) (by omega)).mp (by omega))]
          exact ⟨_, _, _, rfl, rfl, hJ⟩
        · rw [u4, if_neg (show ¬ i32 w = (-1 : Int32) from mt (eqI (b := -1) (by omega)).mp (by omega)), if_pos (show i64 w ≤ (2000 : Int64) from (leJ (b := 2000) (by omega)).mpr (by omega))]
          by_cases d1 : z3 = 1
          · have d1' : i32 z3 = (1 : Int32) := by rw [d1]; rfl
            rw [if_pos d1', if_pos d1', i64_i]
            exact ⟨_, _, _, rfl, rfl, hJ⟩
          · have d1' : ¬ i32 z3 = (1 : Int32) := mt (eqI (b := 1) (by omega)).mp d1
            rw [if_neg d1', if_neg d1']
            have hD : ∀ j, j < kN (tkA A x) → dsI (tkA A x) j ≤ 2000 := fun j hj => ap_le (kN (tkA A x)) 0 1 (by omega) (by omega) (by rw [u4]; omega) j (by omega) (by omega)
            have hc15 := hJ.2.2.1.2.2.2.2.1
            have hz0 := hz'
            have hT' : okT (tfA A (8000 + x)) := by rw [tf_e]; exact hT
            obtain ⟨σ3, c1, c2, c3, c4, c5, c6, c7, c8, c9, c10⟩ := p_open (F := F) (r0 := 15) (y := z2) (by omega) (Or.inr rfl) hz' hT' cy (z13_s b2)
            rw [tf_e] at c3 c4 c10
            have hcB : crB Z (tfA A) 15 (8000 + x) (1000 + (fK A x).1) (4000 + (fK A x).2.2.1) z2 σ3 := by
              unfold crB
              rw [tf_e]
              exact ⟨c3, caS_W (Or.inr rfl) hc15 c2 (by decide) (by decide), c10⟩
            obtain ⟨σ4, d1, d2, d3, d4, d5⟩ := p_bel (F := F) (r0 := 15) (y := z2) (by omega) (Or.inr rfl) hz' hT' (kN (tkA A x)) 0 8 σ3 (fun _ => 0) (fsI (tkA A x) z2) (by rw [tf_e]; omega) (by omega) (by rw [tf_e]; exact hD) hcB (by rw [tf_e]; exact fs_rg hT) c4 (fun _ => ⟨Int.le_refl _, by rw [tf_e]; show (0 : Int) < kP (tkA A x); omega⟩) (fun _ _ => rfl) (fun q hq => absurd hq (Nat.not_lt_zero q))
            rw [tf_e] at d1
            obtain ⟨υ2, e1, e2⟩ := p_mfirst (F := F) (Z := Z) (by omega) hT cy hM1
            have hM2 := tkM_fr hM1 (fr_mono e2 (by decide))
            obtain ⟨υ3, g1, g2, -⟩ := p_mbel (F := F) (Z := Z) (y := z2) (by omega) hT cy (kN (tkA A x)) 0 8 υ2 (fun _ => 0) (fsI (tkA A x) z2) (by omega) (by omega) hD hM2 (fs_rg hT) (fun _ => ⟨Int.le_refl _, by show (0 : Int) < kP (tkA A x); omega⟩) (fun q hq => absurd hq (Nat.not_lt_zero q))
            have d1'' : f_X1_believedFrom F Z σ3 15 (8000 + x) 0 = some (i32 (bfI (tkA A x) z2 (kN (tkA A x)) 0 (fun _ => 0) (fsI (tkA A x) z2)), σ4) := d1
            have g1' : f_X12_believed F Z υ2 (i32 (x : Int)) (i32 z2) 0 (i64 (fsI (tkA A x) z2)) = some (i32 (bfI (tkA A x) z2 (kN (tkA A x)) 0 (fun _ => 0) (fsI (tkA A x) z2)), υ3) := g1
            have fB : fr WC_ σ2 σ4 := fr_tr (fr_mono c2 (by decide)) (fr_mono d2 (by decide))
            have hJ2 : J A Z σ4 υ3 := ⟨h.1, h.2.1, JS_W hJ.2.2.1 h.1 h.2.2.2.2 fB (z13_s d3.1) d3.2.1, JM_W hJ.2.2.2.1 (fr_tr (fr_mono e2 (by decide)) (fr_mono g2 (by decide))), h.2.2.2.2⟩
            rw [c1, obs, d1'', obs, e1, obs, g1', obs]
            exact ⟨_, _, _, rfl, rfl, hJ2⟩
      · rw [decide_eq_false d, b01f, if_pos rfl]
        by_cases e : z3 < 0
        · rw [if_pos (show i32 z3 < (0 : Int32) from (ltI (b := 0) (by omega)).mpr e)]
          exact ⟨_, _, _, rfl, rfl, t0⟩
        · rw [if_neg (show ¬ i32 z3 < (0 : Int32) from mt (ltI (b := 0) (by omega)).mp e), if_neg (show ¬ i32 z3 ≤ (1 : Int32) from mt (leI (b := 1) (by omega)).mp (by omega))]
          exact ⟨_, _, _, rfl, rfl, t0⟩
    · rw [decide_eq_false cy, b01f, if_pos rfl, if_pos rfl]
      exact ⟨_, _, _, rfl, rfl, t0⟩
  · rw [p_talkNo l1 (by omega) hz1 c, obs, decide_eq_false c, Bool.false_and, b01f, if_pos rfl]
    exact ⟨_, _, _, rfl, rfl, t0⟩
