/-! a clause of the model, whole -/
theorem p_mopen {B : Nat → Nat} {n r bs g q F : Nat} {L : Nat → Int64} {Z : hZ} {lab o : Int} {fd : Option Int64} {τ : hSt} (hF : 300 ≤ F) (hg : g ≤ 1) (ho : 0 ≤ o ∧ o ≤ 255) (hlab : 0 ≤ lab ∧ lab ≤ 255) (h : okV B n r bs g L τ q 0) (hf : fnd τ g lab fd) : resK B n r bs g L lab fd (o, tQc B n g (tO B n g q)) τ (tQ B n g o (tO B n g q)) (if pk B n q = 33 ∨ pk B n q = 40 then (f_X12_condition F Z τ 0 0).bind fun q11 => (f_X12_takes F Z q11.2 (63 : Int32)).bind fun q12 => (if q12.1 = (0 : Int32) then some ((), q12.2) else (f_X12_reckon F Z q12.2).bind fun q14 => stl (i32 o) q11.1 q14.1 q14.2) else (f_X12_reckon F Z τ).bind fun q20 => (if (q20.2.1 200 7) = (-1 : Int32) then (f_X12_look F Z q20.2).bind fun q26 => (f_X12_isSign q26.1).bind fun q27 => (if q27 = (0 : Int32) then stl (i32 o) 1 q20.1 q26.2 else (f_X12_condition F Z q26.2 1 q20.1).bind fun q33 => (f_X12_takes F Z q33.2 (63 : Int32)).bind fun q34 => (if q34.1 = (0 : Int32) then some ((), q34.2) else (f_X12_reckon F Z q34.2).bind fun q36 => stl (i32 o) q33.1 q36.1 q36.2)) else stl (i32 o) 1 q20.1 q20.2)) := by
  have hn := h.1.1
  by_cases c : pk B n q = 33 ∨ pk B n q = 40
  · rw [if_pos c, show tO B n g q = stM B n (tC B n g 6 q) from if_pos c]
    exact p_mcl2 hF hg ho hlab (tC_PG B n g hg 6 q h.1.2.1).1 hn hf (p_mcond0 hF hg h)
  · rw [if_neg c]
    obtain ⟨υ, w, b1, b2, b3, b4⟩ := p_mreckon (Z := Z) (d := 6) hF hg rfl h
    obtain ⟨g1, g2⟩ := tT_PG B n g hg 6 q h.1.2.1
    rw [b1, obs]
    dsimp only
    by_cases e : (tT B n g 6 q).1 = true
    · obtain ⟨c1, c2, c3⟩ := b3 e
      obtain ⟨g3, g4⟩ := g2 e
      obtain ⟨τ1, t0, e1, e2, f1, h1, e3⟩ := look2 (Z := Z) hF c1
      have hB := txM_b h.1
      have hk := lk_cases (q := sk B n (tT B n g 6 q).2.1) hB
      have hs := sk_rg (B := B) g1
      have hcm : isCm (lkV B n (sk B n (tT B n g 6 q).2.1)).toNat = isCm (pk B n (sk B n (tT B n g 6 q).2.1)) := by
        by_cases z0 : pk B n (sk B n (tT B n g 6 q).2.1) = 0
        · rw [hk.2.2.2 z0, z0]; rfl
        · rw [hk.2.2.1 (by omega)]; rfl
      rw [c1.2.1, if_pos m1, e1, obs]
      dsimp only
      rw [p_isSign ⟨hk.1, hk.2.1⟩, obs, hcm]
      have fA : fr WV τ τ1 := fr_tr b2 f1
      by_cases d : isCm (pk B n (sk B n (tT B n g 6 q).2.1)) = true
      · rw [d, b01t, if_neg n10, show tO B n g q = stM B n (tB B n g (sk B n (tT B n g 6 q).2.1) (tT B n g 6 q).2.2) by unfold tO; rw [if_neg c, if_pos e, if_pos d]]
        have k := tB_PG (B := B) (q := 0) (p := sk B n (tT B n g 6 q).2.1) (acc := (tT B n g 6 q).2.2) hg hs.2 (by omega) (by omega)
        exact resK_pre fA (p_mcl2 hF hg ho hlab k.1 hn (fnd_fr hf fA) (p_mcondB hF hg h1 c3 (by omega)))
      · have d' : isCm (pk B n (sk B n (tT B n g 6 q).2.1)) = false := by cases h : isCm (pk B n (sk B n (tT B n g 6 q).2.1)) with
          | false => rfl
          | true => exact absurd h d
        obtain ⟨υ4, s1, s2, s3, s4⟩ := p_stl (o := o) (b := true) (C := []) (S := (tT B n g 6 q).2.2) ho hlab h1 (fnd_fr hf fA) ⟨fun _ => Or.inl rfl, fun _ => rfl⟩ (ev_s c3)
        rw [d', b01f, if_pos rfl, show stl (i32 o) 1 w τ1 = _ from s1]
        by_cases x : pk B n (sk B n (tT B n g 6 q).2.1) = 63
        · rw [show tO B n g q = (false, sk B n (tT B n g 6 q).2.1, []) by unfold tO; rw [if_neg c, if_pos e, if_neg d, if_pos x]]
          exact ⟨υ4, rfl, fr_tr (WV_K fA) s2, Or.inr (Or.inr ⟨rfl, s3, x⟩)⟩
        · rw [show tO B n g q = (true, sk B n (tT B n g 6 q).2.1, (tT B n g 6 q).2.2) by unfold tO; rw [if_neg c, if_pos e, if_neg d, if_neg x]]
          unfold tQ tQc
          dsimp only
          rw [sk_sk, if_pos rfl, if_neg x, if_neg x]
          exact ⟨υ4, rfl, fr_tr (WV_K fA) s2, Or.inl ⟨rfl, s3, s4⟩⟩
    · have e' : (tT B n g 6 q).1 = false := by cases h : (tT B n g 6 q).1 with
        | false => rfl
        | true => exact absurd h e
      have hne := f_ne (by omega) (b4 e')
      rw [if_neg hne, show tO B n g q = (false, (tT B n g 6 q).2.1, []) by unfold tO; rw [if_neg c, if_neg e]]
      unfold stl
      rw [if_neg hne]
      exact resK_0 rfl b2 (b4 e')
theorem p_mclause {B : Nat → Nat} {n r bs g p F : Nat} {L : Nat → Int64} {Z : hZ} {lab : Int} {fd : Option Int64} {τ : hSt} (hF : 300 ≤ F) (hg : g ≤ 1) (hlab : 0 ≤ lab ∧ lab ≤ 255) (h : okV B n r bs g L τ p 0) (hf : fnd τ g lab fd) : resK B n r bs g L lab fd (tKc B n g p) τ (tK B n g p) (f_X12_clause F Z τ) := by
  obtain ⟨τ1, t0, e1, e2, f1, h1, e3⟩ := look2 (Z := Z) hF h
  have hB := txM_b h.1
  have hk := lk_cases (q := sk B n p) hB
  have hle := pkB_le (q := sk B n p) hB
  have hf1 := fnd_fr hf f1
  unfold f_X12_clause tK tKc
  rw [e1, obs]
  dsimp only
  by_cases z : pk B n (sk B n p) = 0
  · have hix : ¬ 0 ≤ ixS (2 * g) (pk B n (sk B n p)) := by
      rw [z]
      have : g = 0 ∨ g = 1 := by omega
      rcases this with rfl | rfl
      · decide +kernel
      · decide +kernel
    rw [hk.2.2.2 z, if_pos m1, if_neg hix, okV_f h1, obs]
    exact resK_0 rfl (fr_tr f1 (fr7 _ _)) (sI_t _ _ ⟨rfl, rfl⟩)
  · have hlt := pkp_lt z
    rw [hk.2.2.1 (by omega), if_neg (show ¬ i32 (pk B n (sk B n p) : Int) = (-1 : Int32) by rw [show (-1 : Int32) = i32 (-1) from rfl, i32_eq (by omega)]; omega), hf1.2.1]
    unfold oc
    dsimp only
    have hst : isSt (2 * g) = true := by unfold isSt; rw [decide_eq_true_eq]; omega
    rw [if_pos hst, p_ix hF (by omega) hle, obs]
    have hi := ixS_rg (k := 2 * g) (by omega) (pk B n (sk B n p))
    by_cases x : 0 ≤ ixS (2 * g) (pk B n (sk B n p))
    · rw [if_pos x, if_pos (show (0 : Int32) ≤ i32 (ixS (2 * g) (pk B n (sk B n p))) by rw [show (0 : Int32) = i32 0 from rfl, i32_le (by omega)]; omega), e3]
      have f2 := fr6 τ (i32 ((sk B n p + 1 : Nat) : Int))
      obtain ⟨υ, u1, u2⟩ := p_mtakes (Z := Z) (c := 58) hF (by omega) (okV_at h (show sk B n p + 1 ≤ n from hlt))
      have fA : fr WV τ υ := fr_tr f2 u1
      by_cases q : pk B n (sk B n (sk B n p + 1)) = 58
      · rw [if_pos q] at u2
        obtain ⟨v1, v2, v3⟩ := u2
        rw [if_pos q, show f_X12_takes F Z (sI τ 200 6 (i32 ((sk B n p + 1 : Nat) : Int))) 58 = _ from v1, obs]
        dsimp only
        rw [if_neg n10]
        obtain ⟨τ3, t3, k1, k2, k3, k4, k5⟩ := look2 (Z := Z) hF v2
        rw [k1, obs]
        dsimp only
        have fB : fr WV τ τ3 := fr_tr fA k3
        have hO := p_mopen (Z := Z) (o := (pk B n (sk B n p) : Int)) hF hg (by omega) hlab k4 (fnd_fr hf fB)
        refine resK_pre fB ?_
        by_cases c : pk B n (sk B n (sk B n (sk B n p + 1) + 1)) = 33
        · rw [if_pos (show i32 (lkV B n (sk B n (sk B n (sk B n p + 1) + 1))) = (33 : Int32) from lk_y h (by decide) c)]
          rw [if_pos (Or.inl c)] at hO
          exact hO
        · rw [if_neg (show ¬ i32 (lkV B n (sk B n (sk B n (sk B n p + 1) + 1))) = (33 : Int32) from lk_n h (by decide) c)]
          by_cases c2 : pk B n (sk B n (sk B n (sk B n p + 1) + 1)) = 40
          · rw [if_pos (show i32 (lkV B n (sk B n (sk B n (sk B n p + 1) + 1))) = (40 : Int32) from lk_y h (by decide) c2)]
            rw [if_pos (Or.inr c2)] at hO
            exact hO
          · rw [if_neg (show ¬ i32 (lkV B n (sk B n (sk B n (sk B n p + 1) + 1))) = (40 : Int32) from lk_n h (by decide) c2)]
            rw [if_neg (show ¬ (pk B n (sk B n (sk B n (sk B n p + 1) + 1)) = 33 ∨ pk B n (sk B n (sk B n (sk B n p + 1) + 1)) = 40) by omega)] at hO
            exact hO
      · rw [if_neg q] at u2
        obtain ⟨v1, v2⟩ := u2
        rw [if_neg q, show f_X12_takes F Z (sI τ 200 6 (i32 ((sk B n p + 1 : Nat) : Int))) 58 = _ from v1, obs]
        exact resK_0 (if_pos rfl) fA v2
    · rw [if_neg x, if_neg (show ¬ (0 : Int32) ≤ i32 (ixS (2 * g) (pk B n (sk B n p))) by rw [show (0 : Int32) = i32 0 from rfl, i32_le (by omega)]; omega), okV_f h1, obs]
      exact resK_0 rfl (fr_tr f1 (fr7 _ _)) (sI_t _ _ ⟨rfl, rfl⟩)
