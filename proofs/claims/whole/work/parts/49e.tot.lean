/-! SUMS, class -/
theorem p_termT {F n g d x D : Nat} {Z : hZ} {B : Nat → Nat} (hF : 300 ≤ F) (hg : g ≤ 1) (hu : ∀ σ p w, okH B n σ p w → resT B n σ w (tA B n g d p) ((G_X10s F Z D).2.2 σ (5 + g) (i32 (x : Int)))) (σ : hSt) (p w : Nat) (ho : okH B n σ p w) : resT B n σ w (tM B n g d p) ((G_X10s F Z (D + 1)).2.1 σ (5 + g) (i32 (x : Int))) := by
  have h := p_rowT (Z := Z) (a := 42) (b := 47) hF (by omega) (by omega) (tA_PG B n g hg d) hu σ p w ho
  rw [show (G_X10s F Z (D + 1)).2.1 σ (5 + g) (i32 (x : Int)) = b_X10_term F Z (G_X10s F Z D).2.2 σ (5 + g) (i32 (x : Int)) from rfl]
  unfold b_X10_term
  simp only [term_ch]
  exact h
theorem p_totT {F n g d x D : Nat} {Z : hZ} {B : Nat → Nat} (hF : 300 ≤ F) (hg : g ≤ 1) (hu : ∀ σ p w, okH B n σ p w → resT B n σ w (tA B n g d p) ((G_X10s F Z D).2.2 σ (5 + g) (i32 (x : Int)))) (σ : hSt) (p w : Nat) (ho : okH B n σ p w) : resT B n σ w (tT B n g d p) ((G_X10s F Z (D + 2)).1 σ (5 + g) (i32 (x : Int))) := by
  have h := p_rowT (Z := Z) (a := 43) (b := 45) hF (by omega) (by omega) (tM_PG B n g hg d) (p_termT hF hg hu) σ p w ho
  rw [show (G_X10s F Z (D + 2)).1 σ (5 + g) (i32 (x : Int)) = b_X10_total F Z (G_X10s F Z (D + 1)).2.1 σ (5 + g) (i32 (x : Int)) from rfl]
  unfold b_X10_total
  simp only [total_ch]
  exact h
theorem p_atomT {F n g : Nat} {Z : hZ} {B : Nat → Nat} (hF : 300 ≤ F) (hg : g ≤ 1) : ∀ (d x D : Nat), x + d = 6 → 3 * d + 1 ≤ D → ∀ σ p w, okH B n σ p w → resT B n σ w (tA B n g d p) ((G_X10s F Z D).2.2 σ (5 + g) (i32 (x : Int))) := by
  intro d
  induction d with
  | zero =>
    intro x D hx hD σ p w ho
    obtain ⟨D, rfl⟩ : ∃ q, D = q + 1 := ⟨D - 1, by omega⟩
    obtain ⟨e1, h2⟩ := p_next (Z := Z) hF ho
    have hr := pk_rg (q := sk B n p) ho
    have f0 : fr WT σ (sI σ 1 3 (i32 (sk B n p : Int))) := fr_sI σ _ (by decide)
    have g0 : (sI σ 1 3 (i32 (sk B n p : Int))).1 3 = σ.1 3 := sI_r _ _ (by omega)
    rw [show (G_X10s F Z (D + 1)).2.2 σ (5 + g) (i32 (x : Int)) = b_X10_atom F Z (G_X10s F Z D).1 σ (5 + g) (i32 (x : Int)) from rfl]
    unfold b_X10_atom
    rw [e1, obs, tA]
    dsimp only
    by_cases c : pk B n (sk B n p) = 91
    · obtain ⟨σ1, s1, s2, s3⟩ := p_fail (Z := Z) h2
      rw [if_pos c, if_pos (by rw [c]; rfl), if_neg (by rw [show (6 : Int32) = i32 6 from rfl, i32_lt (by omega)]; omega), s1, obs]
      refine resT_0 (fr_tr f0 s2) ?_ s3
      exact if_pos (Or.inl rfl)
    · rw [if_neg c, if_neg (by rw [show (91 : Int32) = i32 91 from rfl, i32_eq (by omega)]; omega)]
      exact resT_pre f0 g0 (p_lfA hF hg h2)
  | succ d ih =>
    intro x D hx hD σ p w ho
    obtain ⟨D, rfl⟩ : ∃ q, D = q + 3 := ⟨D - 3, by omega⟩
    obtain ⟨e1, h2⟩ := p_next (Z := Z) hF ho
    have hr := pk_rg (q := sk B n p) ho
    have f0 : fr WT σ (sI σ 1 3 (i32 (sk B n p : Int))) := fr_sI σ _ (by decide)
    have g0 : (sI σ 1 3 (i32 (sk B n p : Int))).1 3 = σ.1 3 := sI_r _ _ (by omega)
    rw [show (G_X10s F Z (D + 3)).2.2 σ (5 + g) (i32 (x : Int)) = b_X10_atom F Z (G_X10s F Z (D + 2)).1 σ (5 + g) (i32 (x : Int)) from rfl]
    unfold b_X10_atom
    rw [e1, obs, tA_s]
    dsimp only
    by_cases c : pk B n (sk B n p) = 91
    · have hlt := pkp_lt (show pk B n (sk B n p) ≠ 0 by omega)
      obtain ⟨σ1, s1, s2, s3, s4⟩ := p_step (Z := Z) h2 hlt
      have hx1 : i32 (x : Int) + (1 : Int32) = i32 ((x + 1 : Nat) : Int) := by
        rw [show (1 : Int32) = i32 1 from rfl, i32_add]; rfl
      rw [if_pos c, if_pos (by rw [c]; rfl), if_pos (by rw [show (6 : Int32) = i32 6 from rfl, i32_lt (by omega)]; omega), s1, obs]
      dsimp only
      rw [hx1]
      exact resT_pre (fr_tr f0 s2) (s4.trans g0) (p_clo (c := 93) hF (by omega) (p_totT hF hg (ih (x + 1) D (by omega) (by omega)) σ1 _ w s3))
    · rw [if_neg c, if_neg (by rw [show (91 : Int32) = i32 91 from rfl, i32_eq (by omega)]; omega)]
      exact resT_pre f0 g0 (p_lfA hF hg h2)
theorem p_total {F n g d x : Nat} {Z : hZ} {B : Nat → Nat} (hF : 300 ≤ F) (hg : g ≤ 1) (hx : x + d = 6) (σ : hSt) (p w : Nat) (ho : okH B n σ p w) : resT B n σ w (tT B n g d p) (f_X10_total F Z σ (5 + g) (i32 (x : Int))) :=
  p_totT (D := 28) hF hg (p_atomT hF hg d x 28 hx (by omega)) σ p w ho
/-! comparisons -/
theorem p_isCmp {c : Nat} (hc : c ≤ 255) : f_X10_isComparison (i32 (c : Int)) = some (b01 (isCm c)) := by
  have : ∀ c : Fin 256, f_X10_isComparison (i32 (c.val : Int)) = some (b01 (isCm c.val)) := by decide +kernel
  exact this ⟨c, by omega⟩
theorem isCm_dg {c : Nat} (h : 48 ≤ c ∧ c ≤ 57) : isCm c = false := by
  have : ∀ c : Fin 58, 48 ≤ c.val → isCm c.val = false := by decide
  exact this ⟨c, by omega⟩ h.1
theorem p_cmpP {F n f r : Nat} {y : Int32} {Z : hZ} {B : Nat → Nat} {σ : hSt} (hF : 300 ≤ F) (h : okP B n σ f) : ∃ σ', f_X10_comparison F Z σ r y = some (0, σ') ∧ fr WT σ σ' ∧ σ'.1 1 4 = i32 (f : Int) := by
  have hd := pk_dg h.2.2.1
  obtain ⟨σ1, s1, s2, s3⟩ := p_failP (Z := Z) h
  unfold f_X10_comparison
  rw [p_nextP hF h, obs]
  dsimp only
  rw [p_isCmp (by omega), isCm_dg hd, obs, b01f, if_pos rfl, s1, obs]
  exact ⟨σ1, if_pos (Or.inl rfl), s2, s3⟩
/-- what a reader finds behind signs acc that stand from w0 on -/
theorem p_cmp {F n g d x p w0 : Nat} {Z : hZ} {B : Nat → Nat} {σ : hSt} {acc : List Int} (hF : 300 ≤ F) (hg : g ≤ 1) (hx : x + d = 6) (ho : okH B n σ p (w0 + acc.length)) (ha : cdA σ w0 acc) : resT B n σ w0 (cmp B n g d p acc) (f_X10_comparison F Z σ (5 + g) (i32 (x : Int))) := by
  obtain ⟨e1, h2⟩ := p_next (Z := Z) hF ho
  have hr := pk_rg (q := sk B n p) ho
  have f0 : fr WT σ (sI σ 1 3 (i32 (sk B n p : Int))) := fr_sI σ _ (by decide)
  have g0 : (sI σ 1 3 (i32 (sk B n p : Int))).1 3 = σ.1 3 := sI_r _ _ (by omega)
  unfold f_X10_comparison cmp
  rw [e1, obs]
  dsimp only
  rw [p_isCmp (by omega), obs]
  by_cases c : isCm (pk B n (sk B n p)) = true
  · have hlt := pkp_lt (show pk B n (sk B n p) ≠ 0 by intro z; rw [z] at c; exact absurd c (by decide))
    obtain ⟨σ1, s1, s2, s3, s4⟩ := p_step (Z := Z) h2 hlt
    rw [if_pos c, c, b01t, if_neg n10, s1, obs]
    dsimp only
    obtain ⟨g1, g2⟩ := tT_PG B n g hg d (sk B n p + 1) hlt
    obtain ⟨σ2, t1, t2⟩ := p_total (Z := Z) hF hg hx σ1 _ _ s3
    have hw3 := ho.2.2.1
    have hps := sk_rg (B := B) ho.2.1
    rcases t2 with ⟨e, b1, c1, c2, c3⟩ | ⟨e, b1, b4⟩ | ⟨e, b1, b4⟩
    · obtain ⟨g3, g4⟩ := g2 e
      obtain ⟨σ3, d1, d2, d3, d4, d5⟩ := p_write (Z := Z) (v := 20000 + (pk B n (sk B n p) : Int)) c1 (by omega)
      rw [if_pos e, b1, obs]
      dsimp only
      rw [if_neg n10, show (20000 : Int32) = i32 20000 from rfl, i32_add, d1, obs]
      have hk1 : kpW σ σ2 (w0 + acc.length) := fun j hj => by rw [c2 j hj, s4, g0]
      refine ⟨σ3, fr_tr (fr_tr (fr_tr f0 s2) t1) d2, Or.inl ⟨rfl, rfl, ?_, fun j hj => by rw [d4 j (by omega), hk1 j (by omega)], ?_⟩⟩
      · show okH B n σ3 (tT B n g d (sk B n p + 1)).2.1 (w0 + (acc ++ ((tT B n g d (sk B n p + 1)).2.2 ++ [20000 + (pk B n (sk B n p) : Int)])).length)
        rw [show w0 + (acc ++ ((tT B n g d (sk B n p + 1)).2.2 ++ [20000 + (pk B n (sk B n p) : Int)])).length = w0 + acc.length + (tT B n g d (sk B n p + 1)).2.2.length + 1 by simp only [List.length_append, List.length_cons, List.length_nil]; omega]
        exact d3
      · refine cdA_app (cdA_kp (cdA_kp ha hk1) (fun j hj => d4 j (by omega))) (cdA_app (cdA_kp c3 d4) ?_)
        intro i hi
        have : i = 0 := by simp at hi; omega
        subst this
        exact d5
    · rw [if_neg (by rw [e]; decide), b1, obs]
      dsimp only
      rw [if_pos rfl]
      exact resT_0 (fr_tr (fr_tr f0 s2) t1) rfl b4
    · obtain ⟨σ3, d1, d2, d3⟩ := p_writeP (Z := Z) (i32 (20000 + (pk B n (sk B n p) : Int))) b4
      rw [if_neg (by rw [e]; decide), b1, obs]
      dsimp only
      rw [if_neg n10, show (20000 : Int32) = i32 20000 from rfl, i32_add, d1, obs]
      exact resT_P (fr_tr (fr_tr (fr_tr f0 s2) t1) d2) rfl d3
  · have c' : isCm (pk B n (sk B n p)) = false := by
      cases h : isCm (pk B n (sk B n p))
      · rfl
      · exact absurd h c
    obtain ⟨σ1, s1, s2, s3⟩ := p_fail (Z := Z) h2
    rw [if_neg c, c', b01f, if_pos rfl, s1, obs]
    refine resT_0 (fr_tr f0 s2) ?_ s3
    exact if_pos (Or.inl rfl)
theorem p_sCm {F n g d x p w : Nat} {Z : hZ} {B : Nat → Nat} {σ : hSt} (hF : 300 ≤ F) (hg : g ≤ 1) (hx : x + d = 6) (ho : okH B n σ p w) : resT B n σ w (sCm B n g d p) ((f_X10_total F Z σ (5 + g) (i32 (x : Int))).bind fun q10 => (if q10.1 = (0 : Int32) then some ((0 : Int32), q10.2) else (f_X10_comparison F Z q10.2 (5 + g) (i32 (x : Int))).bind fun q12 => (if q12.1 = (0 : Int32) then some ((0 : Int32), q12.2) else some ((1 : Int32), q12.2)))) := by
  obtain ⟨σ1, t1, t2⟩ := p_total (Z := Z) hF hg hx σ p w ho
  unfold sCm
  rcases t2 with ⟨e, b1, c1, c2, c3⟩ | ⟨e, b1, b4⟩ | ⟨e, b1, b4⟩
  · rw [if_pos e, b1, obs]
    dsimp only
    rw [if_neg n10]
    obtain ⟨σ2, u1, u2⟩ := p_cmp (Z := Z) hF hg hx c1 c3
    refine ⟨σ2, fr_tr t1 u1, ?_⟩
    rcases u2 with ⟨e2, v1, v2, v3, v4⟩ | ⟨e2, v1, v2⟩ | ⟨e2, v1, v2⟩
    · refine Or.inl ⟨e2, by rw [v1, obs]; exact if_neg n10, v2, fun j hj => by rw [v3 j hj, c2 j hj], v4⟩
    · exact Or.inr (Or.inl ⟨e2, by rw [v1, obs]; exact if_pos rfl, v2⟩)
    · exact Or.inr (Or.inr ⟨e2, by rw [v1, obs]; exact if_neg n10, v2⟩)
  · rw [if_neg (by rw [e]; decide), b1, obs]
    dsimp only
    rw [if_pos rfl]
    exact resT_0 t1 rfl b4
  · obtain ⟨σ2, s1, s2, s3⟩ := p_cmpP (Z := Z) (r := 5 + g) (y := i32 (x : Int)) hF b4
    rw [if_neg (by rw [e]; decide), b1, obs]
    dsimp only
    rw [if_neg n10, s1, obs]
    exact resT_0 (fr_tr t1 s2) (if_pos rfl) s3
/-! rows of conditions -/
theorem cond_ch (F : Nat) (Z : hZ) (u : hSt → Nat → Int32 → Int32 → Option (Int32 × hSt)) (r : Nat) (y : Int32) : ∀ N σ z, f_X10_condition_L15 F Z u r y N σ z = chH F Z (124 : Int32) (20124 : Int32) (fun σ => u σ r y 0) N σ z
  | 0, _, _ => rfl
  | N + 1, σ, z => by
    rw [f_X10_condition_L15, chH]
    simp only [cond_ch F Z u r y N]
theorem part_ch (F : Nat) (Z : hZ) (u : hSt → Nat → Int32 → Int32 → Option (Int32 × hSt)) (r : Nat) (y : Int32) : ∀ N σ z, f_X10_part_L15 F Z u r y N σ z = chH F Z (38 : Int32) (20038 : Int32) (fun σ => u σ r y 0) N σ z
  | 0, _, _ => rfl
  | N + 1, σ, z => by
    rw [f_X10_part_L15, chH]
    simp only [part_ch F Z u r y N]
