/-! CONDITIONS, class -/
theorem p_partT {F n g d x D : Nat} {Z : hZ} {B : Nat → Nat} (hF : 300 ≤ F) (hg : g ≤ 1) (hu : ∀ σ p w, okH B n σ p w → resT B n σ w (tU B n g d p) ((G_X10c F Z D).2.2.1 σ (5 + g) (i32 (x : Int)) 0)) (σ : hSt) (p w : Nat) (ho : okH B n σ p w) : resT B n σ w (tP B n g d p) ((G_X10c F Z (D + 1)).2.1 σ (5 + g) (i32 (x : Int)) 0) := by
  have h := p_rowH (Z := Z) (c := 38) (e := 20038) hF (by omega) (tU_PG B n g hg d) hu σ w (hu σ p w ho)
  rw [show (G_X10c F Z (D + 1)).2.1 σ (5 + g) (i32 (x : Int)) 0 = b_X10_part F Z (G_X10c F Z D).2.2.1 σ (5 + g) (i32 (x : Int)) 0 from rfl]
  unfold b_X10_part
  simp only [part_ch]
  exact h
theorem p_condT {F n g d x D : Nat} {Z : hZ} {B : Nat → Nat} (hF : 300 ≤ F) (hg : g ≤ 1) (hu : ∀ σ p w, okH B n σ p w → resT B n σ w (tU B n g d p) ((G_X10c F Z D).2.2.1 σ (5 + g) (i32 (x : Int)) 0)) (σ : hSt) (p w : Nat) (ho : okH B n σ p w) : resT B n σ w (tC B n g d p) ((G_X10c F Z (D + 2)).1 σ (5 + g) (i32 (x : Int)) 0) := by
  have h := p_rowH (Z := Z) (c := 124) (e := 20124) hF (by omega) (tP_PG B n g hg d) (p_partT hF hg hu) σ w (p_partT hF hg hu σ p w ho)
  rw [show (G_X10c F Z (D + 2)).1 σ (5 + g) (i32 (x : Int)) 0 = b_X10_condition F Z (G_X10c F Z (D + 1)).2.1 σ (5 + g) (i32 (x : Int)) 0 from rfl]
  unfold b_X10_condition
  simp only [cond_ch]
  exact h
theorem p_add1 {n p w : Nat} {Z : hZ} {B : Nat → Nat} {σ : hSt} {r : PR} {x : Option (Int32 × hSt)} (hw : w + 1 ≤ 2 * p) (hg : r.1 = true → p ≤ r.2.1 ∧ r.2.2.length + p ≤ r.2.1) (h : resT B n σ w r x) : resT B n σ w (add1 r 20033) (x.bind fun q3 => (if q3.1 = (0 : Int32) then some ((0 : Int32), q3.2) else (f_X8_write Z q3.2 (20033 : Int32)).bind fun q5 => some ((1 : Int32), q5.2))) := by
  obtain ⟨σ1, b2, b3⟩ := h
  unfold add1
  rcases b3 with ⟨d, b1, c1, c2, c3⟩ | ⟨d, b1, b4⟩ | ⟨d, b1, b4⟩
  · obtain ⟨g1, g2⟩ := hg d
    obtain ⟨σ3, d1, d2, d3, d4, d5⟩ := p_write (Z := Z) (v := 20033) c1 (by omega)
    rw [b1, obs]
    dsimp only
    rw [if_pos d, if_neg n10, show (20033 : Int32) = i32 20033 from rfl, d1, obs]
    refine ⟨σ3, fr_tr b2 d2, Or.inl ⟨rfl, rfl, ?_, fun j hj => by rw [d4 j (by omega), c2 j hj], ?_⟩⟩
    · show okH B n σ3 r.2.1 (w + (r.2.2 ++ [20033]).length)
      rw [show w + (r.2.2 ++ [(20033 : Int)]).length = w + r.2.2.length + 1 by simp only [List.length_append, List.length_cons, List.length_nil]; omega]
      exact d3
    · refine cdA_app (cdA_kp c3 d4) ?_
      intro i hi
      have : i = 0 := by simp at hi; omega
      subst this
      exact d5
  · rw [b1, obs]
    dsimp only
    rw [if_neg (by rw [d]; decide), if_pos rfl]
    exact resT_0 b2 rfl b4
  · obtain ⟨σ3, d1, d2, d3⟩ := p_writeP (Z := Z) (i32 20033) b4
    rw [b1, obs]
    dsimp only
    rw [if_neg (by rw [d]; decide), if_neg n10, show (20033 : Int32) = i32 20033 from rfl, d1, obs]
    exact resT_P (fr_tr b2 d2) rfl d3
theorem p_unitT {F n g : Nat} {Z : hZ} {B : Nat → Nat} (hF : 300 ≤ F) (hg : g ≤ 1) : ∀ (d x D : Nat), x + d = 6 → 4 * d + 1 ≤ D → ∀ σ p w, okH B n σ p w → resT B n σ w (tU B n g d p) ((G_X10c F Z D).2.2.1 σ (5 + g) (i32 (x : Int)) 0) := by
  intro d
  induction d with
  | zero =>
    intro x D hx hD σ p w ho
    obtain ⟨D, rfl⟩ : ∃ q, D = q + 1 := ⟨D - 1, by omega⟩
    obtain ⟨e1, h2⟩ := p_next (Z := Z) hF ho
    have hr := pk_rg (q := sk B n p) ho
    have f0 : fr WT σ (sI σ 1 3 (i32 (sk B n p : Int))) := fr_sI σ _ (by decide)
    have g0 : (sI σ 1 3 (i32 (sk B n p : Int))).1 3 = σ.1 3 := sI_r _ _ (by omega)
    rw [show (G_X10c F Z (D + 1)).2.2.1 σ (5 + g) (i32 (x : Int)) 0 = b_X10_unit F Z (G_X10c F Z D).2.2.2 σ (5 + g) (i32 (x : Int)) 0 from rfl]
    unfold b_X10_unit
    rw [if_pos rfl, e1, obs, tU]
    dsimp only
    obtain ⟨σ1, s1, s2, s3⟩ := p_fail (Z := Z) h2
    have h6 : (6 : Int32) ≤ i32 (x : Int) := by rw [show (6 : Int32) = i32 6 from rfl, i32_le (by omega)]; omega
    by_cases c : pk B n (sk B n p) = 33
    · rw [if_pos (Or.inl c), if_pos (by rw [c]; rfl), if_pos h6, s1, obs]
      exact resT_0 (fr_tr f0 s2) (if_pos (Or.inl rfl)) s3
    · by_cases c2 : pk B n (sk B n p) = 40
      · rw [if_pos (Or.inr c2), if_neg (by rw [show (33 : Int32) = i32 33 from rfl, i32_eq (by omega)]; omega), if_pos (by rw [c2]; rfl), if_pos h6, s1, obs]
        exact resT_0 (fr_tr f0 s2) (if_pos (Or.inl rfl)) s3
      · rw [if_neg (by omega), if_neg (by rw [show (33 : Int32) = i32 33 from rfl, i32_eq (by omega)]; omega), if_neg (by rw [show (40 : Int32) = i32 40 from rfl, i32_eq (by omega)]; omega)]
        exact resT_pre f0 g0 (p_sCm hF hg hx h2)
  | succ d ih =>
    intro x D hx hD σ p w ho
    obtain ⟨D, rfl⟩ : ∃ q, D = q + 4 := ⟨D - 4, by omega⟩
    obtain ⟨e1, h2⟩ := p_next (Z := Z) hF ho
    have hr := pk_rg (q := sk B n p) ho
    have f0 : fr WT σ (sI σ 1 3 (i32 (sk B n p : Int))) := fr_sI σ _ (by decide)
    have g0 : (sI σ 1 3 (i32 (sk B n p : Int))).1 3 = σ.1 3 := sI_r _ _ (by omega)
    rw [show (G_X10c F Z (D + 4)).2.2.1 σ (5 + g) (i32 (x : Int)) 0 = b_X10_unit F Z (G_X10c F Z (D + 3)).2.2.2 σ (5 + g) (i32 (x : Int)) 0 from rfl]
    unfold b_X10_unit
    rw [if_pos rfl, e1, obs, tU_s]
    dsimp only
    have h6 : ¬ (6 : Int32) ≤ i32 (x : Int) := by rw [show (6 : Int32) = i32 6 from rfl, i32_le (by omega)]; omega
    have hx1 : i32 (x : Int) + (1 : Int32) = i32 ((x + 1 : Nat) : Int) := by
      rw [show (1 : Int32) = i32 1 from rfl, i32_add]; rfl
    have hps := sk_rg (B := B) ho.2.1
    have hw3 := ho.2.2.1
    by_cases c : pk B n (sk B n p) = 33
    · have hlt := pkp_lt (show pk B n (sk B n p) ≠ 0 by omega)
      obtain ⟨σ1, s1, s2, s3, s4⟩ := p_step (Z := Z) h2 hlt
      rw [if_pos c, if_pos (by rw [c]; rfl), if_neg h6, hx1]
      refine resT_w ?_
      rw [show (G_X10c F Z (D + 3)).2.2.2 (sI σ 1 3 (i32 (sk B n p : Int))) (5 + g) (i32 (pk B n (sk B n p) : Int)) (i32 ((x + 1 : Nat) : Int)) = b_X10_inner F Z (G_X10c F Z (D + 2)).1 (G_X10c F Z (D + 2)).2.2.1 (sI σ 1 3 (i32 (sk B n p : Int))) (5 + g) (i32 (pk B n (sk B n p) : Int)) (i32 ((x + 1 : Nat) : Int)) from rfl]
      unfold b_X10_inner
      rw [s1, obs]
      dsimp only
      rw [if_neg (by rw [show (40 : Int32) = i32 40 from rfl, i32_eq (by omega)]; omega)]
      obtain ⟨g1, g2⟩ := tU_PG B n g hg d (sk B n p + 1) hlt
      exact resT_pre (fr_tr f0 s2) (s4.trans g0) (p_add1 (p := sk B n p + 1) (by omega) (fun z => by have := g2 z; omega) (ih (x + 1) (D + 2) (by omega) (by omega) σ1 _ w s3))
    · rw [if_neg c, if_neg (show ¬ i32 (pk B n (sk B n p) : Int) = (33 : Int32) by rw [show (33 : Int32) = i32 33 from rfl, i32_eq (by omega)]; omega)]
      by_cases c2 : pk B n (sk B n p) = 40
      · have hlt := pkp_lt (show pk B n (sk B n p) ≠ 0 by omega)
        obtain ⟨σ1, s1, s2, s3, s4⟩ := p_step (Z := Z) h2 hlt
        rw [if_pos c2, if_pos (by rw [c2]; rfl), if_neg h6, hx1]
        refine resT_w ?_
        rw [show (G_X10c F Z (D + 3)).2.2.2 (sI σ 1 3 (i32 (sk B n p : Int))) (5 + g) (i32 (pk B n (sk B n p) : Int)) (i32 ((x + 1 : Nat) : Int)) = b_X10_inner F Z (G_X10c F Z (D + 2)).1 (G_X10c F Z (D + 2)).2.2.1 (sI σ 1 3 (i32 (sk B n p : Int))) (5 + g) (i32 (pk B n (sk B n p) : Int)) (i32 ((x + 1 : Nat) : Int)) from rfl]
        unfold b_X10_inner
        rw [s1, obs]
        dsimp only
        rw [if_pos (by rw [c2]; rfl)]
        exact resT_pre (fr_tr f0 s2) (s4.trans g0) (p_clo (c := 41) hF (by omega) (p_condT hF hg (ih (x + 1) D (by omega) (by omega)) σ1 _ w s3))
      · rw [if_neg c2, if_neg (by rw [show (40 : Int32) = i32 40 from rfl, i32_eq (by omega)]; omega)]
        exact resT_pre f0 g0 (p_sCm hF hg hx h2)
theorem p_cond0 {F n g p w : Nat} {Z : hZ} {B : Nat → Nat} {σ : hSt} (hF : 300 ≤ F) (hg : g ≤ 1) (ho : okH B n σ p w) : resT B n σ w (tC B n g 6 p) (f_X10_condition F Z σ (5 + g) 0 0) :=
  p_condT (D := 34) (x := 0) hF hg (p_unitT hF hg 6 0 34 rfl (by omega)) σ p w ho
/-- a condition whose first SUM stands already -/
def tB (B : Nat → Nat) (n g p : Nat) (acc : List Int) : PR := chF B n (isC 124) e124 (tP B n g 6) (chF B n (isC 38) e38 (tU B n g 6) (cmp B n g 6 p acc))
theorem p_condB {F n g p w : Nat} {Z : hZ} {B : Nat → Nat} {σ : hSt} {acc : List Int} (hF : 300 ≤ F) (hg : g ≤ 1) (ho : okH B n σ p (w + acc.length)) (ha : cdA σ w acc) : resT B n σ w (tB B n g p acc) (f_X10_condition F Z σ (5 + g) 0 1) := by
  have hu := p_unitT (Z := Z) (B := B) (n := n) hF hg 6 0 34 rfl (by omega)
  have h0 := resT_w (p_cmp (Z := Z) (x := 0) (d := 6) hF hg rfl ho ha)
  have h1 := p_rowH (Z := Z) (c := 38) (e := 20038) hF (by omega) (tU_PG B n g hg 6) hu σ w h0
  have h2 := p_rowH (Z := Z) (c := 124) (e := 20124) hF (by omega) (tP_PG B n g hg 6) (p_partT hF hg hu) σ w h1
  rw [show f_X10_condition F Z σ (5 + g) 0 1 = b_X10_condition F Z (G_X10c F Z 35).2.1 σ (5 + g) 0 1 from rfl]
  unfold b_X10_condition
  rw [show (G_X10c F Z 35).2.1 σ (5 + g) 0 1 = b_X10_part F Z (G_X10c F Z 34).2.2.1 σ (5 + g) 0 1 from rfl]
  unfold b_X10_part
  rw [show (G_X10c F Z 34).2.2.1 σ (5 + g) 0 1 = b_X10_unit F Z (G_X10c F Z 33).2.2.2 σ (5 + g) 0 1 from rfl]
  unfold b_X10_unit
  rw [if_neg n10]
  simp only [cond_ch, part_ch]
  exact h2
