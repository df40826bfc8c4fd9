/-! the whole text, class -/
def clL (B : Nat → Nat) (n g : Nat) : Nat → Nat → List Int → PR
  | 0, p, acc => (true, p, acc)
  | k + 1, p, acc => if pk B n (sk B n p) = 59 then (if (tK B n g (sk B n p + 1)).1 = true then clL B n g k (tK B n g (sk B n p + 1)).2.1 (acc ++ (tK B n g (sk B n p + 1)).2.2) else (false, (tK B n g (sk B n p + 1)).2.1, [])) else (true, sk B n p, acc)
def tZ (B : Nat → Nat) (n g : Nat) : PR := if (tK B n g 0).1 = true then clL B n g 200 (tK B n g 0).2.1 (tK B n g 0).2.2 else (false, (tK B n g 0).2.1, [])
/-- where it can't go on, if it is none -/
def txF (B : Nat → Nat) (n g : Nat) : Option Nat := if (tZ B n g).1 = true then (if sk B n (tZ B n g).2.1 < n then some (sk B n (tZ B n g).2.1) else none) else some (tZ B n g).2.1
theorem p_endP {F n f : Nat} {Z : hZ} {B : Nat → Nat} {σ : hSt} (hF : 300 ≤ F) (h : okP B n σ f) : ∃ σ', f_X8_expectEnd F Z σ = some (0, σ') ∧ fr WT σ σ' ∧ σ'.1 1 4 = i32 (f : Int) := by
  have hd := pk_dg h.2.2.1
  obtain ⟨σ1, s1, s2, s3⟩ := p_failP (Z := Z) h
  unfold f_X8_expectEnd
  rw [p_nextP hF h, obs]
  dsimp only
  rw [if_neg (show ¬ i32 (pk B n f : Int) = (0 : Int32) by rw [show (0 : Int32) = i32 0 from rfl, i32_eq (by omega)]; omega), s1, obs]
  exact ⟨σ1, if_pos rfl, s2, s3⟩
theorem p_readL_P {F n f r k N : Nat} {Z : hZ} {B : Nat → Nat} {K : hSt → Int32 → Option (Int32 × hSt)} {σ : hSt} (hF : 300 ≤ F) (h : okP B n σ f) (hk : k ≤ 200) (hN : 0 < N) : f_X10_read_L16 F Z r K N σ 1 (i32 (k : Int)) = K σ 1 := by
  obtain ⟨N, rfl⟩ : ∃ q, N = q + 1 := ⟨N - 1, by omega⟩
  rw [f_X10_read_L16]
  by_cases c : k = 0
  · subst c
    rw [if_pos (by decide)]
  · rw [if_neg (show ¬ i32 (k : Int) ≤ (0 : Int32) by rw [show (0 : Int32) = i32 0 from rfl, i32_le (by omega)]; omega), if_neg n10, show (59 : Int32) = i32 ((59 : Nat) : Int) from rfl, p_takeP hF h (by omega), obs]
    dsimp only
    rw [if_pos rfl]
theorem p_readL_0 {F r k N : Nat} {Z : hZ} {K : hSt → Int32 → Option (Int32 × hSt)} {σ : hSt} (hk : k ≤ 200) (hN : 0 < N) : f_X10_read_L16 F Z r K N σ 0 (i32 (k : Int)) = K σ 0 := by
  obtain ⟨N, rfl⟩ : ∃ q, N = q + 1 := ⟨N - 1, by omega⟩
  rw [f_X10_read_L16]
  by_cases c : i32 (k : Int) ≤ (0 : Int32)
  · rw [if_pos c]
  · rw [if_neg c, if_pos rfl]
theorem p_readL {F n g : Nat} {Z : hZ} {B : Nat → Nat} {K : hSt → Int32 → Option (Int32 × hSt)} (hF : 300 ≤ F) (hg : g ≤ 1) :
    ∀ k p N (σ : hSt) acc, k ≤ 200 → k < N → acc.length ≤ p + 1 → okH B n σ p acc.length → cdA σ 0 acc → ∃ σ', fr WT σ σ' ∧ (((clL B n g k p acc).1 = true ∧ f_X10_read_L16 F Z (5 + g) K N σ 1 (i32 (k : Int)) = K σ' 1 ∧ okH B n σ' (clL B n g k p acc).2.1 (clL B n g k p acc).2.2.length ∧ cdA σ' 0 (clL B n g k p acc).2.2) ∨ ((clL B n g k p acc).1 = false ∧ f_X10_read_L16 F Z (5 + g) K N σ 1 (i32 (k : Int)) = K σ' 0 ∧ σ'.1 1 4 = i32 ((clL B n g k p acc).2.1 : Int)) ∨ ((clL B n g k p acc).1 = false ∧ f_X10_read_L16 F Z (5 + g) K N σ 1 (i32 (k : Int)) = K σ' 1 ∧ okP B n σ' (clL B n g k p acc).2.1)) := by
  intro k
  induction k with
  | zero =>
    intro p N σ acc hk hN hl ho ha
    obtain ⟨N, rfl⟩ : ∃ q, N = q + 1 := ⟨N - 1, by omega⟩
    refine ⟨σ, fr_rf _ _, Or.inl ⟨rfl, ?_, ho, ha⟩⟩
    rw [f_X10_read_L16]
    exact if_pos (by decide)
  | succ k ih =>
    intro p N σ acc hk hN hl ho ha
    obtain ⟨N, rfl⟩ : ∃ q, N = q + 1 := ⟨N - 1, by omega⟩
    have ht := p_take (Z := Z) (c := 59) hF ho (by omega)
    have hs := sk_rg (B := B) ho.2.1
    rw [f_X10_read_L16, clL, if_neg (show ¬ i32 ((k + 1 : Nat) : Int) ≤ (0 : Int32) by rw [show (0:Int32) = i32 0 from rfl, i32_le (by omega)]; omega), if_neg n10, show (59 : Int32) = i32 ((59 : Nat) : Int) from rfl]
    have ek : i32 ((k + 1 : Nat) : Int) + (-1 : Int32) = i32 (k : Int) := by
      rw [show (-1 : Int32) = i32 (-1) from rfl, i32_add]; congr 1; omega
    by_cases q : pk B n (sk B n p) = 59
    · rw [if_pos q] at ht
      obtain ⟨σ1, b1, b2, b3, b4, b5⟩ := ht
      rw [if_pos q, b1, obs]
      dsimp only
      rw [if_neg n10, ek]
      obtain ⟨σ2, c2, c3⟩ := p_clause (Z := Z) hF hg (by omega) b4
      obtain ⟨g1, g2⟩ := tK_PG (B := B) hg (show sk B n p + 1 ≤ n from b5)
      rcases c3 with ⟨d, c1, c5, c6, c7⟩ | ⟨d, c1, c4⟩ | ⟨d, c1, c4⟩
      · obtain ⟨g3, g4⟩ := g2 d
        rw [c1, obs]
        dsimp only
        rw [if_pos d]
        have ha2 : cdA σ2 0 (acc ++ (tK B n g (sk B n p + 1)).2.2) := by
          refine cdA_app (fun i hi => ?_) (by rw [Nat.zero_add]; exact c7)
          rw [c6 _ (by omega), b3]
          exact ha i hi
        obtain ⟨σ3, e1, e2⟩ := ih (tK B n g (sk B n p + 1)).2.1 N σ2 (acc ++ (tK B n g (sk B n p + 1)).2.2) (by omega) (by omega) (by rw [List.length_append]; omega) (by rw [List.length_append]; exact c5) ha2
        exact ⟨σ3, fr_tr (fr_tr b2 c2) e1, e2⟩
      · rw [c1, obs]
        dsimp only
        rw [if_neg (by rw [d]; decide), p_readL_0 (by omega) (by omega)]
        exact ⟨σ2, fr_tr b2 c2, Or.inr (Or.inl ⟨rfl, rfl, c4⟩)⟩
      · rw [c1, obs]
        dsimp only
        rw [if_neg (by rw [d]; decide), p_readL_P hF c4 (by omega) (by omega)]
        exact ⟨σ2, fr_tr b2 c2, Or.inr (Or.inr ⟨rfl, rfl, c4⟩)⟩
    · rw [if_neg q] at ht
      obtain ⟨σ1, b1, b2, b3, b4⟩ := ht
      rw [if_neg q, b1, obs]
      dsimp only
      rw [if_pos rfl]
      exact ⟨σ1, b2, Or.inl ⟨rfl, rfl, b4, fun i hi => by rw [b3]; exact ha i hi⟩⟩
theorem p_readT {B : Nat → Nat} {n g F : Nat} {Z : hZ} {σ : hSt} (hF : 300 ≤ F) (hg : g ≤ 1) (h : tpH B n σ) : ∃ σ', f_X10_read F Z σ (5 + g) = some (i32 (oF (txF B n g)), σ') ∧ fr WT σ σ' ∧ (txF B n g = none → σ'.1 1 5 = i32 ((tZ B n g).2.2.length : Int) ∧ cdA σ' 0 (tZ B n g).2.2) := by
  obtain ⟨σ1, a1, a2, a3⟩ := p_begin (Z := Z) h
  obtain ⟨g1, g2⟩ := tK_PG (B := B) (n := n) (p := 0) hg (Nat.zero_le _)
  unfold f_X10_read
  rw [a1, obs]
  dsimp only
  have main : ∃ σ2, fr WT σ1 σ2 ∧ (((tZ B n g).1 = true ∧ (f_X10_clause F Z σ1 (5 + g)).bind (fun q2 => f_X10_read_L16 F Z (5 + g) (fun σ1 z1 => (if z1 = (0 : Int32) then some ((σ1.1 1 4), σ1) else (f_X8_expectEnd F Z σ1).bind fun q9 => (if q9.1 = (0 : Int32) then some ((q9.2.1 1 4), q9.2) else some ((-1 : Int32), q9.2)))) F q2.2 q2.1 (200 : Int32)) = (f_X8_expectEnd F Z σ2).bind (fun q9 => (if q9.1 = (0 : Int32) then some ((q9.2.1 1 4), q9.2) else some ((-1 : Int32), q9.2))) ∧ okH B n σ2 (tZ B n g).2.1 (tZ B n g).2.2.length ∧ cdA σ2 0 (tZ B n g).2.2) ∨ ((tZ B n g).1 = false ∧ (f_X10_clause F Z σ1 (5 + g)).bind (fun q2 => f_X10_read_L16 F Z (5 + g) (fun σ1 z1 => (if z1 = (0 : Int32) then some ((σ1.1 1 4), σ1) else (f_X8_expectEnd F Z σ1).bind fun q9 => (if q9.1 = (0 : Int32) then some ((q9.2.1 1 4), q9.2) else some ((-1 : Int32), q9.2)))) F q2.2 q2.1 (200 : Int32)) = some (i32 ((tZ B n g).2.1 : Int), σ2))) := by
    unfold tZ
    obtain ⟨σ2, c2, c3⟩ := p_clause (Z := Z) hF hg (Nat.le_refl 0) a3
    rcases c3 with ⟨d, c1, c5, c6, c7⟩ | ⟨d, c1, c4⟩ | ⟨d, c1, c4⟩
    · obtain ⟨g3, g4⟩ := g2 d
      rw [Nat.zero_add] at c5
      rw [c1, obs, if_pos d]
      dsimp only
      obtain ⟨σ3, e1, e2⟩ := p_readL (Z := Z) (K := fun σ1 z1 => (if z1 = (0 : Int32) then some ((σ1.1 1 4), σ1) else (f_X8_expectEnd F Z σ1).bind fun q9 => (if q9.1 = (0 : Int32) then some ((q9.2.1 1 4), q9.2) else some ((-1 : Int32), q9.2)))) hF hg 200 (tK B n g 0).2.1 F σ2 (tK B n g 0).2.2 (Nat.le_refl _) (by omega) (by omega) c5 c7
      rcases e2 with ⟨u0, u1, u2, u3⟩ | ⟨u0, u1, u2⟩ | ⟨u0, u1, u2⟩
      · exact ⟨σ3, fr_tr c2 e1, Or.inl ⟨u0, u1, u2, u3⟩⟩
      · refine ⟨σ3, fr_tr c2 e1, Or.inr ⟨u0, Eq.trans u1 ?_⟩⟩
        rw [← u2]
        rfl
      · obtain ⟨σ4, v1, v2, v3⟩ := p_endP (Z := Z) hF u2
        refine ⟨σ4, fr_tr (fr_tr c2 e1) v2, Or.inr ⟨u0, Eq.trans u1 ?_⟩⟩
        rw [if_neg n10, v1, obs, ← v3]
        rfl
    · rw [c1, obs, if_neg (by rw [d]; decide)]
      dsimp only
      rw [show (200 : Int32) = i32 ((200 : Nat) : Int) from rfl, p_readL_0 (Nat.le_refl _) (by omega)]
      refine ⟨σ2, c2, Or.inr ⟨rfl, ?_⟩⟩
      rw [← c4]
      rfl
    · obtain ⟨σ4, v1, v2, v3⟩ := p_endP (Z := Z) hF c4
      rw [c1, obs, if_neg (by rw [d]; decide)]
      dsimp only
      rw [show (200 : Int32) = i32 ((200 : Nat) : Int) from rfl, p_readL_P hF c4 (Nat.le_refl _) (by omega)]
      refine ⟨σ4, fr_tr c2 v2, Or.inr ⟨rfl, ?_⟩⟩
      rw [if_neg n10, v1, obs, ← v3]
      rfl
  obtain ⟨σ2, m1, m2⟩ := main
  unfold txF
  rcases m2 with ⟨d, b1, c1, c3⟩ | ⟨d, b1⟩
  · refine (fun (q : ∃ σ', (f_X8_expectEnd F Z σ2).bind (fun q9 => (if q9.1 = (0 : Int32) then some ((q9.2.1 1 4), q9.2) else some ((-1 : Int32), q9.2))) = some (i32 (oF (if (tZ B n g).1 = true then (if sk B n (tZ B n g).2.1 < n then some (sk B n (tZ B n g).2.1) else none) else some (tZ B n g).2.1)), σ') ∧ fr WT σ2 σ' ∧ ((if (tZ B n g).1 = true then (if sk B n (tZ B n g).2.1 < n then some (sk B n (tZ B n g).2.1) else none) else some (tZ B n g).2.1) = none → σ'.1 1 5 = i32 ((tZ B n g).2.2.length : Int) ∧ cdA σ' 0 (tZ B n g).2.2)) => ?_) ?_
    · obtain ⟨σ', r1, r2, r3⟩ := q
      exact ⟨σ', Eq.trans b1 r1, fr_tr a2 (fr_tr m1 r2), r3⟩
    · obtain ⟨d1, d2⟩ := p_next (Z := Z) hF c1
      have hr := pk_rg (q := sk B n (tZ B n g).2.1) c1
      rw [if_pos d]
      unfold f_X8_expectEnd
      rw [d1, obs]
      dsimp only
      by_cases e : sk B n (tZ B n g).2.1 < n
      · rw [if_pos e, if_neg (show ¬ i32 (pk B n (sk B n (tZ B n g).2.1) : Int) = 0 by rw [show (0 : Int32) = i32 0 from rfl, i32_eq (by omega)]; omega)]
        obtain ⟨σ3, f1, f2, f3⟩ := p_fail (Z := Z) d2
        rw [f1, obs]
        dsimp only
        rw [if_pos rfl, obs]
        dsimp only
        rw [if_pos rfl]
        exact ⟨σ3, by rw [f3]; rfl, fr_tr (fr_sI _ _ (by decide)) f2, fun z => by cases z⟩
      · have hz : pk B n (sk B n (tZ B n g).2.1) = 0 := hr.2.mpr (by omega)
        rw [if_neg e, if_pos (show i32 (pk B n (sk B n (tZ B n g).2.1) : Int) = 0 by rw [hz]; rfl), obs]
        dsimp only
        rw [if_neg n10]
        refine ⟨_, rfl, fr_sI _ _ (by decide), fun _ => ⟨d2.2.2.2.2.2.2, fun i hi => ?_⟩⟩
        rw [sI_r _ _ (by omega)]; exact c3 i hi
  · rw [if_neg (by rw [d]; decide)]
    exact ⟨σ2, b1, fr_tr a2 m1, fun z => by cases z⟩
