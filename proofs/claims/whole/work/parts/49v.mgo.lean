/-! a whole LAW or GIANT, model -/
def fdL (L : Nat → Int64) (lab : Int) (cs : List (Int × List Int × List Int)) : Option Int64 := cs.foldl (fun fd c => fdN L lab c fd) none
theorem fdL_app (L : Nat → Int64) (lab : Int) (cs : List (Int × List Int × List Int)) (c : Int × List Int × List Int) : fdL L lab (cs ++ [c]) = fdN L lab c (fdL L lab cs) := by
  unfold fdL
  rw [List.foldl_append]
  rfl
theorem fdF_s (L : Nat → Int64) (lab : Int) (v : Int64) : ∀ cs : List (Int × List Int × List Int), cs.foldl (fun fd c => fdN L lab c fd) (some v) = some v
  | [] => rfl
  | _ :: t => fdF_s L lab v t
theorem fdL_lw (L : Nat → Int64) (lab : Int) : ∀ cs, (fdL L lab cs).getD 0 = lwS L lab cs
  | [] => rfl
  | c :: t => by
    have ih := fdL_lw L lab t
    unfold fdL at ih ⊢
    rw [List.foldl_cons, lwS, show fdN L lab c none = if c.1 = lab ∧ (c.2.1 = [] ∨ ev L c.2.1 ≠ 0) then some (ev L c.2.2) else none from rfl]
    by_cases d : c.1 = lab ∧ (c.2.1 = [] ∨ ev L c.2.1 ≠ 0)
    · rw [if_pos d, if_pos d, fdF_s]; rfl
    · rw [if_neg d, if_neg d]; exact ih
theorem p_mgoL {B : Nat → Nat} {n r bs g F : Nat} {L : Nat → Int64} {Z : hZ} {lab : Int} {K : hSt → Option (Unit × hSt)} (hF : 300 ≤ F) (hg : g ≤ 1) (hlab : 0 ≤ lab ∧ lab ≤ 255) :
    ∀ k p N (τ : hSt) cs acc, k + 1 < N → n ≤ p + k → okV B n r bs g L τ p 0 → fnd τ g lab (fdL L lab cs) → ∃ υ, fr WK τ υ ∧ f_X12_goThrough_L63 F Z K N τ = K υ ∧ (((clL B n g k p acc).1 = true ∧ okV B n r bs g L υ (clL B n g k p acc).2.1 0 ∧ fnd υ g lab (fdL L lab (clLc B n g k p cs))) ∨ ((clL B n g k p acc).1 = false ∧ υ.1 200 7 = i32 ((clL B n g k p acc).2.1 : Int) ∧ (clL B n g k p acc).2.1 ≤ n) ∨ ((clL B n g k p acc).1 = false ∧ okV B n r bs g L υ (clL B n g k p acc).2.1 0 ∧ pk B n (clL B n g k p acc).2.1 = 63)) := by
  intro k
  induction k with
  | zero =>
    intro p N τ cs acc hN hnp h hf
    obtain ⟨N, rfl⟩ : ∃ q, N = q + 1 := ⟨N - 1, by omega⟩
    have hpn := h.1.2.1
    obtain rfl : p = n := by omega
    obtain ⟨τ1, t0, e1, e2, f1, h1, e3⟩ := look2 (Z := Z) hF h
    have hq : ¬ pk B p (sk B p p) = 59 := by rw [sk_n]; unfold pk; rw [if_neg (by omega)]; omega
    rw [f_X12_goThrough_L63, h.2.1, if_pos m1, e1, obs]
    dsimp only
    rw [if_neg (show ¬ i32 (lkV B p (sk B p p)) = (59 : Int32) from lk_n h (by decide) hq), clL, clLc]
    rw [sk_n] at h1
    exact ⟨τ1, WV_K f1, rfl, Or.inl ⟨rfl, h1, fnd_fr hf f1⟩⟩
  | succ k ih =>
    intro p N τ cs acc hN hnp h hf
    obtain ⟨N, rfl⟩ : ∃ q, N = q + 1 := ⟨N - 1, by omega⟩
    have hs := sk_rg (B := B) h.1.2.1
    have hn := h.1.1
    obtain ⟨τ1, t0, e1, e2, f1, h1, e3⟩ := look2 (Z := Z) hF h
    rw [f_X12_goThrough_L63, h.2.1, if_pos m1, e1, obs, clL, clLc]
    dsimp only
    by_cases q : pk B n (sk B n p) = 59
    · have hlt := pkp_lt (show pk B n (sk B n p) ≠ 0 by omega)
      have f2 := fr6 τ (i32 ((sk B n p + 1 : Nat) : Int))
      obtain ⟨g1, g2⟩ := tK_PG (B := B) hg (show sk B n p + 1 ≤ n from hlt)
      rw [if_pos q, if_pos q, if_pos (show i32 (lkV B n (sk B n p)) = (59 : Int32) from lk_y h (by decide) q), e3]
      obtain ⟨υ, u1, u2, u3⟩ := p_mclause (Z := Z) hF hg hlab (okV_at h (show sk B n p + 1 ≤ n from hlt)) (fnd_fr hf f2)
      rw [u1, obs]
      dsimp only
      have fA : fr WK τ υ := fr_tr (WV_K f2) u2
      rcases u3 with ⟨d, v1, v2⟩ | ⟨d, v1⟩ | ⟨d, v1, v2⟩
      · obtain ⟨g3, g4⟩ := g2 d
        rw [if_pos d, if_pos d]
        rw [← fdL_app] at v2
        obtain ⟨υ2, w1, w2, w3⟩ := ih _ N υ (cs ++ [tKc B n g (sk B n p + 1)]) (acc ++ (tK B n g (sk B n p + 1)).2.2) (by omega) (by omega) v1 v2
        exact ⟨υ2, fr_tr fA w1, w2, w3⟩
      · obtain ⟨N, rfl⟩ : ∃ q, N = q + 1 := ⟨N - 1, by omega⟩
        have hne := f_ne (by omega) v1
        rw [if_neg (by rw [d]; decide), f_X12_goThrough_L63, if_neg hne]
        exact ⟨υ, fA, rfl, Or.inr (Or.inl ⟨rfl, v1, g1⟩)⟩
      · obtain ⟨N, rfl⟩ : ∃ q, N = q + 1 := ⟨N - 1, by omega⟩
        obtain ⟨τ4, t4, k1, k2, k3, k4, k5⟩ := look2 (Z := Z) hF v1
        have hsk : sk B n (tK B n g (sk B n p + 1)).2.1 = (tK B n g (sk B n p + 1)).2.1 := sk_stop (fun z => by
          have := v2
          unfold pk at this
          rw [if_pos z.1] at this
          omega)
        rw [if_neg (by rw [d]; decide), f_X12_goThrough_L63, v1.2.1, if_pos m1, k1, obs]
        dsimp only
        rw [hsk, if_neg (show ¬ i32 (lkV B n (tK B n g (sk B n p + 1)).2.1) = (59 : Int32) from lk_n v1 (c := 59) (by decide) (by rw [v2]; decide))]
        rw [hsk] at k4
        exact ⟨τ4, fr_tr fA (WV_K k3), rfl, Or.inr (Or.inr ⟨rfl, k4, v2⟩)⟩
    · rw [if_neg q, if_neg q, if_neg (show ¬ i32 (lkV B n (sk B n p)) = (59 : Int32) from lk_n h (by decide) q)]
      exact ⟨τ1, WV_K f1, rfl, Or.inl ⟨rfl, h1, fnd_fr hf f1⟩⟩
/-- the end of it -/
def gEnd (F : Nat) (Z : hZ) : hSt → Option (Unit × hSt) := fun σ1 => (if (σ1.1 200 7) = (-1 : Int32) then (f_X12_look F Z σ1).bind fun q10 => (if q10.1 = (-1 : Int32) then some ((), q10.2) else (f_X12_fails Z q10.2).bind fun q12 => some ((), q12.2)) else some ((), σ1))
theorem p_gEnd {B : Nat → Nat} {n r bs g p F : Nat} {L : Nat → Int64} {Z : hZ} {τ : hSt} (hF : 300 ≤ F) (h : okV B n r bs g L τ p 0) : ∃ υ, gEnd F Z τ = some ((), υ) ∧ fr WV τ υ ∧ υ.1 200 7 = i32 (if sk B n p < n then (sk B n p : Int) else -1) := by
  obtain ⟨τ1, t0, e1, e2, f1, h1, e3⟩ := look2 (Z := Z) hF h
  have hB := txM_b h.1
  have hk := lk_cases (q := sk B n p) hB
  unfold gEnd
  rw [h.2.1, if_pos m1, e1, obs]
  dsimp only
  by_cases c : sk B n p < n
  · have := hB _ c
    have hp : pk B n (sk B n p) = B (sk B n p) := by unfold pk; rw [if_pos c]
    rw [if_pos c, hk.2.2.1 (by omega), if_neg (show ¬ i32 (pk B n (sk B n p) : Int) = (-1 : Int32) by rw [show (-1 : Int32) = i32 (-1) from rfl, i32_eq (by omega)]; omega), okV_f h1, obs]
    exact ⟨_, rfl, fr_tr f1 (fr7 _ _), sI_t _ _ ⟨rfl, rfl⟩⟩
  · have hp : pk B n (sk B n p) = 0 := by unfold pk; rw [if_neg c]
    rw [if_neg c, hk.2.2.2 hp, if_pos m1]
    exact ⟨τ1, rfl, f1, h1.2.1⟩
theorem p_mgo {B : Nat → Nat} {n r bs g F : Nat} {L : Nat → Int64} {Z : hZ} {lab : Int} {τ : hSt} (hF : 300 ≤ F) (hg : g ≤ 1) (hlab : 0 ≤ lab ∧ lab ≤ 255) (h : okV B n r bs g L τ 0 0) (hf : fnd τ g lab none) : ∃ υ, ((f_X12_clause F Z τ).bind fun q4 => f_X12_goThrough_L63 F Z (gEnd F Z) F q4.2) = some ((), υ) ∧ fr WK τ υ ∧ υ.1 200 7 = i32 (oF (txF B n g)) ∧ (txF B n g = none → υ.2.1 200 31 = lwS L lab (tZc B n g)) := by
  have hn := h.1.1
  obtain ⟨g1, g2⟩ := tK_PG (B := B) hg (show 0 ≤ n from Nat.zero_le n)
  obtain ⟨υ, u1, u2, u3⟩ := p_mclause (Z := Z) hF hg hlab h hf
  rw [u1, obs]
  dsimp only
  have main : ∃ υ2, fr WK τ υ2 ∧ f_X12_goThrough_L63 F Z (gEnd F Z) F υ = gEnd F Z υ2 ∧ (((tZ B n g).1 = true ∧ okV B n r bs g L υ2 (tZ B n g).2.1 0 ∧ fnd υ2 g lab (fdL L lab (tZc B n g))) ∨ ((tZ B n g).1 = false ∧ υ2.1 200 7 = i32 ((tZ B n g).2.1 : Int) ∧ (tZ B n g).2.1 ≤ n) ∨ ((tZ B n g).1 = false ∧ okV B n r bs g L υ2 (tZ B n g).2.1 0 ∧ pk B n (tZ B n g).2.1 = 63)) := by
    unfold tZ tZc
    obtain ⟨F, rfl⟩ : ∃ q, F = q + 1 := ⟨F - 1, by omega⟩
    rcases u3 with ⟨d, v1, v2⟩ | ⟨d, v1⟩ | ⟨d, v1, v2⟩
    · rw [if_pos d]
      obtain ⟨υ2, w1, w2, w3⟩ := p_mgoL (Z := Z) (K := gEnd (F + 1) Z) hF hg hlab 200 (tK B n g 0).2.1 (F + 1) υ [tKc B n g 0] (tK B n g 0).2.2 (by omega) (by omega) v1 v2
      exact ⟨υ2, fr_tr u2 w1, w2, w3⟩
    · have hne := f_ne (by omega) v1
      rw [if_neg (by rw [d]; decide), f_X12_goThrough_L63, if_neg hne]
      exact ⟨υ, u2, rfl, Or.inr (Or.inl ⟨rfl, v1, g1⟩)⟩
    · obtain ⟨τ4, t4, k1, k2, k3, k4, k5⟩ := look2 (Z := Z) hF v1
      have hsk : sk B n (tK B n g 0).2.1 = (tK B n g 0).2.1 := sk_stop (fun z => by
        have := v2
        unfold pk at this
        rw [if_pos z.1] at this
        omega)
      rw [if_neg (by rw [d]; decide), f_X12_goThrough_L63, v1.2.1, if_pos m1, k1, obs]
      dsimp only
      rw [hsk, if_neg (show ¬ i32 (lkV B n (tK B n g 0).2.1) = (59 : Int32) from lk_n v1 (c := 59) (by decide) (by rw [v2]; decide))]
      rw [hsk] at k4
      exact ⟨τ4, fr_tr u2 (WV_K k3), rfl, Or.inr (Or.inr ⟨rfl, k4, v2⟩)⟩
  obtain ⟨υ2, m0, m2, m3⟩ := main
  rw [m2]
  unfold txF
  rcases m3 with ⟨d, v1, v2⟩ | ⟨d, v1, v2⟩ | ⟨d, v1, v2⟩
  · obtain ⟨υ3, w1, w2, w3⟩ := p_gEnd (Z := Z) hF v1
    refine ⟨υ3, w1, fr_tr m0 (WV_K w2), ?_, fun _ => ?_⟩
    · rw [w3, if_pos d]
      split <;> rfl
    · have v3 := fnd_fr v2 w2
      rw [← fdL_lw]
      cases hfd : fdL L lab (tZc B n g) with
      | none => exact (v3.2.2.1 hfd).2
      | some w => exact (v3.2.2.2 w hfd).2
  · have hne := f_ne (by omega) v1
    rw [if_neg (by rw [d]; decide)]
    refine ⟨υ2, ?_, m0, v1, fun z => by cases z⟩
    unfold gEnd
    rw [if_neg hne]
  · obtain ⟨υ3, w1, w2, w3⟩ := p_gEnd (Z := Z) hF v1
    have hlt := pkp_lt (show pk B n (tZ B n g).2.1 ≠ 0 by omega)
    have hsk : sk B n (tZ B n g).2.1 = (tZ B n g).2.1 := sk_stop (fun z => by
      have := v2
      unfold pk at this
      rw [if_pos z.1] at this
      omega)
    rw [if_neg (by rw [d]; decide)]
    refine ⟨υ3, w1, fr_tr m0 (WV_K w2), ?_, fun z => by cases z⟩
    rw [w3, hsk, if_pos hlt]
    rfl
