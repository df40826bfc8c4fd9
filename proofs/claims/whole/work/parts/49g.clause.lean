/-! clauses, class -/
def stM (B : Nat → Nat) (n : Nat) (r : PR) : PR := if r.1 = true then (if pk B n (sk B n r.2.1) = 63 then (true, sk B n r.2.1, r.2.2) else (false, sk B n r.2.1, [])) else (false, r.2.1, [])
def tO (B : Nat → Nat) (n g q : Nat) : PR := if pk B n q = 33 ∨ pk B n q = 40 then stM B n (tC B n g 6 q) else if (tT B n g 6 q).1 = true then (if isCm (pk B n (sk B n (tT B n g 6 q).2.1)) = true then stM B n (tB B n g (sk B n (tT B n g 6 q).2.1) (tT B n g 6 q).2.2) else if pk B n (sk B n (tT B n g 6 q).2.1) = 63 then (false, sk B n (tT B n g 6 q).2.1, []) else (true, sk B n (tT B n g 6 q).2.1, (tT B n g 6 q).2.2)) else (false, (tT B n g 6 q).2.1, [])
/-- a clause behind its label and what opens it -/
def tQ (B : Nat → Nat) (n g : Nat) (lab : Int) (o : PR) : PR := if o.1 = true then (if pk B n (sk B n o.2.1) = 63 then (if (tT B n g 6 (sk B n o.2.1 + 1)).1 = true then (true, (tT B n g 6 (sk B n o.2.1 + 1)).2.1, lab :: (o.2.2.length : Int) :: ((tT B n g 6 (sk B n o.2.1 + 1)).2.2.length : Int) :: (o.2.2 ++ (tT B n g 6 (sk B n o.2.1 + 1)).2.2)) else (false, (tT B n g 6 (sk B n o.2.1 + 1)).2.1, [])) else (true, sk B n o.2.1, lab :: 0 :: (o.2.2.length : Int) :: o.2.2)) else (false, o.2.1, [])
def tK (B : Nat → Nat) (n g p : Nat) : PR := if 0 ≤ ixS (2 * g) (pk B n (sk B n p)) then (if pk B n (sk B n (sk B n p + 1)) = 58 then tQ B n g (pk B n (sk B n p) : Int) (tO B n g (sk B n (sk B n (sk B n p + 1) + 1))) else (false, sk B n (sk B n p + 1), [])) else (false, sk B n p, [])
theorem stM_PG {B : Nat → Nat} {n p : Nat} {r : PR} (h1 : r.2.1 ≤ n) (h2 : r.1 = true → p < r.2.1 ∧ r.2.2.length + p ≤ r.2.1) : (stM B n r).2.1 ≤ n ∧ ((stM B n r).1 = true → p < (stM B n r).2.1 ∧ (stM B n r).2.2.length + p ≤ (stM B n r).2.1) := by
  have hs := sk_rg (B := B) h1
  unfold stM
  by_cases e : r.1 = true
  · rw [if_pos e]
    obtain ⟨a, b⟩ := h2 e
    by_cases e2 : pk B n (sk B n r.2.1) = 63
    · rw [if_pos e2]
      exact ⟨hs.2, fun _ => ⟨by show p < sk B n r.2.1; omega, by show r.2.2.length + p ≤ sk B n r.2.1; omega⟩⟩
    · rw [if_neg e2]; exact ⟨hs.2, fun z => by cases z⟩
  · rw [if_neg e]; exact ⟨h1, fun z => by cases z⟩
theorem chF_PG {B : Nat → Nat} {n : Nat} {ops : Nat → Bool} {em : Nat → Int} {it : Nat → PR} {p : Nat} {r : PR} (h0 : ops 0 = false) (h : PG n it) (h1 : r.2.1 ≤ n) (h2 : r.1 = true → p < r.2.1 ∧ r.2.2.length + p ≤ r.2.1) : (chF B n ops em it r).2.1 ≤ n ∧ ((chF B n ops em it r).1 = true → p < (chF B n ops em it r).2.1 ∧ (chF B n ops em it r).2.2.length + p ≤ (chF B n ops em it r).2.1) := by
  unfold chF
  by_cases e : r.1 = true
  · rw [if_pos e]
    obtain ⟨a, b⟩ := h2 e
    obtain ⟨c, d⟩ := chL_PG (B := B) (em := em) h0 h 200 r.2.1 r.2.2 h1
    exact ⟨c, fun z => by have := d z; omega⟩
  · rw [if_neg e]; exact ⟨h1, fun z => by cases z⟩
theorem tB_PG {B : Nat → Nat} {n g p q : Nat} {acc : List Int} (hg : g ≤ 1) (hp : p ≤ n) (hq : acc.length + q ≤ p) (hq2 : q ≤ p) : (tB B n g p acc).2.1 ≤ n ∧ ((tB B n g p acc).1 = true → q < (tB B n g p acc).2.1 ∧ (tB B n g p acc).2.2.length + q ≤ (tB B n g p acc).2.1) := by
  obtain ⟨a, b⟩ := cmp_PG (B := B) (d := 6) (q := q) hg hp hq
  have h1 := chF_PG (B := B) (p := q) (em := e38) (show isC 38 0 = false from rfl) (tU_PG B n g hg 6) a (fun z => by have := b z; omega)
  exact chF_PG (B := B) (p := q) (em := e124) (show isC 124 0 = false from rfl) (tP_PG B n g hg 6) h1.1 h1.2
theorem tO_PG {B : Nat → Nat} {n g p : Nat} (hg : g ≤ 1) (hp : p ≤ n) : (tO B n g p).2.1 ≤ n ∧ ((tO B n g p).1 = true → p < (tO B n g p).2.1 ∧ (tO B n g p).2.2.length + p ≤ (tO B n g p).2.1) := by
  unfold tO
  by_cases c : pk B n p = 33 ∨ pk B n p = 40
  · rw [if_pos c]
    obtain ⟨a, b⟩ := tC_PG B n g hg 6 p hp
    exact stM_PG a b
  · rw [if_neg c]
    obtain ⟨a, b⟩ := tT_PG B n g hg 6 p hp
    by_cases e : (tT B n g 6 p).1 = true
    · obtain ⟨b1, b2⟩ := b e
      have hs := sk_rg (B := B) a
      rw [if_pos e]
      by_cases e2 : isCm (pk B n (sk B n (tT B n g 6 p).2.1)) = true
      · rw [if_pos e2]
        obtain ⟨c1, c2⟩ := tB_PG (B := B) (q := p) (acc := (tT B n g 6 p).2.2) hg hs.2 (by omega) (by omega)
        exact stM_PG c1 c2
      · rw [if_neg e2]
        by_cases e3 : pk B n (sk B n (tT B n g 6 p).2.1) = 63
        · rw [if_pos e3]; exact ⟨hs.2, fun z => by cases z⟩
        · rw [if_neg e3]
          exact ⟨hs.2, fun _ => ⟨by show p < sk B n (tT B n g 6 p).2.1; omega, by show (tT B n g 6 p).2.2.length + p ≤ sk B n (tT B n g 6 p).2.1; omega⟩⟩
    · rw [if_neg e]; exact ⟨a, fun z => by cases z⟩
theorem ix_lt {B : Nat → Nat} {n g q : Nat} (hg : g ≤ 1) (h : 0 ≤ ixS (2 * g) (pk B n q)) : q < n := by
  rcases Nat.lt_or_ge q n with r | r
  · exact r
  · exfalso
    unfold pk at h
    rw [if_neg (by omega)] at h
    have : g = 0 ∨ g = 1 := by omega
    rcases this with rfl | rfl
    · exact absurd h (by decide +kernel)
    · exact absurd h (by decide +kernel)
theorem tK_PG {B : Nat → Nat} {n g p : Nat} (hg : g ≤ 1) (hp : p ≤ n) : (tK B n g p).2.1 ≤ n ∧ ((tK B n g p).1 = true → p < (tK B n g p).2.1 ∧ (tK B n g p).2.2.length + p ≤ (tK B n g p).2.1 + 1) := by
  have hs := sk_rg (B := B) hp
  unfold tK
  by_cases c : 0 ≤ ixS (2 * g) (pk B n (sk B n p))
  · have hlt := ix_lt hg c
    have hs2 := sk_rg (B := B) (show sk B n p + 1 ≤ n from hlt)
    rw [if_pos c]
    by_cases c2 : pk B n (sk B n (sk B n p + 1)) = 58
    · have hlt2 := pkp_lt (show pk B n (sk B n (sk B n p + 1)) ≠ 0 by omega)
      have hs3 := sk_rg (B := B) (show sk B n (sk B n p + 1) + 1 ≤ n from hlt2)
      rw [if_pos c2]
      unfold tQ
      obtain ⟨a, b⟩ := tO_PG (B := B) hg hs3.2
      by_cases e : (tO B n g (sk B n (sk B n (sk B n p + 1) + 1))).1 = true
      · obtain ⟨b1, b2⟩ := b e
        have hs4 := sk_rg (B := B) a
        rw [if_pos e]
        by_cases e2 : pk B n (sk B n (tO B n g (sk B n (sk B n (sk B n p + 1) + 1))).2.1) = 63
        · have hlt3 := pkp_lt (show pk B n (sk B n (tO B n g (sk B n (sk B n (sk B n p + 1) + 1))).2.1) ≠ 0 by omega)
          obtain ⟨c1, c3⟩ := tT_PG B n g hg 6 _ (show sk B n (tO B n g (sk B n (sk B n (sk B n p + 1) + 1))).2.1 + 1 ≤ n from hlt3)
          rw [if_pos e2]
          by_cases e3 : (tT B n g 6 (sk B n (tO B n g (sk B n (sk B n (sk B n p + 1) + 1))).2.1 + 1)).1 = true
          · obtain ⟨d1, d2⟩ := c3 e3
            rw [if_pos e3]
            refine ⟨c1, fun _ => ⟨by show p < (tT B n g 6 _).2.1; omega, ?_⟩⟩
            simp only [List.length_append, List.length_cons]
            omega
          · rw [if_neg e3]; exact ⟨c1, fun z => by cases z⟩
        · rw [if_neg e2]
          refine ⟨hs4.2, fun _ => ⟨by show p < sk B n _; omega, ?_⟩⟩
          simp only [List.length_cons]
          omega
      · rw [if_neg e]; exact ⟨a, fun z => by cases z⟩
    · rw [if_neg c2]; exact ⟨hs2.2, fun z => by cases z⟩
  · rw [if_neg c]; exact ⟨hs.2, fun z => by cases z⟩
/-! class -/
theorem p_stM {F n w r0 : Nat} {Z : hZ} {B : Nat → Nat} {σ : hSt} {r : PR} {x : Option (Int32 × hSt)} (hF : 300 ≤ F) (h : resT B n σ w r x) : resT B n σ w (stM B n r) (x.bind fun q3 => (if q3.1 = (0 : Int32) then some ((0 : Int32), q3.2) else (f_X10_standsAtMark F Z q3.2 r0).bind fun q5 => (if q5.1 = (0 : Int32) then some ((0 : Int32), q5.2) else some ((1 : Int32), q5.2)))) := by
  obtain ⟨σ1, b2, b3⟩ := h
  unfold stM
  rcases b3 with ⟨d, b1, c1, c2, c3⟩ | ⟨d, b1, b4⟩ | ⟨d, b1, b4⟩
  · obtain ⟨e1, h2⟩ := p_next (Z := Z) hF c1
    have hr := pk_rg (q := sk B n r.2.1) c1
    have f0 : fr WT σ1 (sI σ1 1 3 (i32 (sk B n r.2.1 : Int))) := fr_sI _ _ (by decide)
    have g0 : (sI σ1 1 3 (i32 (sk B n r.2.1 : Int))).1 3 = σ1.1 3 := sI_r _ _ (by omega)
    rw [b1, obs]
    dsimp only
    rw [if_pos d, if_neg n10]
    unfold f_X10_standsAtMark
    rw [e1, obs]
    dsimp only
    by_cases q : pk B n (sk B n r.2.1) = 63
    · rw [if_pos q, if_pos (show i32 (pk B n (sk B n r.2.1) : Int) = (63 : Int32) by rw [q]; rfl), obs]
      dsimp only
      rw [if_neg n10]
      exact ⟨_, fr_tr b2 f0, Or.inl ⟨rfl, rfl, h2, fun j hj => by rw [g0, c2 j hj], fun i hi => by rw [g0]; exact c3 i hi⟩⟩
    · obtain ⟨σ2, s1, s2, s3⟩ := p_fail (Z := Z) h2
      rw [if_neg q, if_neg (show ¬ i32 (pk B n (sk B n r.2.1) : Int) = (63 : Int32) by rw [show (63 : Int32) = i32 63 from rfl, i32_eq (by omega)]; omega), s1, obs]
      dsimp only
      rw [if_pos rfl, obs]
      exact resT_0 (fr_tr (fr_tr b2 f0) s2) (if_pos rfl) s3
  · rw [b1, obs]
    dsimp only
    rw [if_neg (by rw [d]; decide), if_pos rfl]
    exact resT_0 b2 rfl b4
  · have hd := pk_dg b4.2.2.1
    obtain ⟨σ2, s1, s2, s3⟩ := p_failP (Z := Z) b4
    rw [b1, obs]
    dsimp only
    rw [if_neg (by rw [d]; decide), if_neg n10]
    unfold f_X10_standsAtMark
    rw [p_nextP hF b4, obs]
    dsimp only
    rw [if_neg (show ¬ i32 (pk B n r.2.1 : Int) = (63 : Int32) by rw [show (63 : Int32) = i32 63 from rfl, i32_eq (by omega)]; omega), s1, obs]
    dsimp only
    rw [if_pos rfl, obs]
    exact resT_0 (fr_tr b2 s2) (if_pos rfl) s3
theorem p_opening {F n g p w : Nat} {Z : hZ} {B : Nat → Nat} {σ : hSt} (hF : 300 ≤ F) (hg : g ≤ 1) (ho : okH B n σ p w) : resT B n σ w (tO B n g (sk B n p)) (f_X10_opening F Z σ (5 + g)) := by
  obtain ⟨e1, h2⟩ := p_next (Z := Z) hF ho
  have hr := pk_rg (q := sk B n p) ho
  have f0 : fr WT σ (sI σ 1 3 (i32 (sk B n p : Int))) := fr_sI σ _ (by decide)
  have g0 : (sI σ 1 3 (i32 (sk B n p : Int))).1 3 = σ.1 3 := sI_r _ _ (by omega)
  unfold f_X10_opening tO
  rw [e1, obs]
  dsimp only
  by_cases c : pk B n (sk B n p) = 33
  · rw [if_pos (Or.inl c), if_pos (show i32 (pk B n (sk B n p) : Int) = (33 : Int32) by rw [c]; rfl)]
    exact resT_pre f0 g0 (p_stM hF (p_cond0 hF hg h2))
  · by_cases c2 : pk B n (sk B n p) = 40
    · rw [if_pos (Or.inr c2), if_neg (show ¬ i32 (pk B n (sk B n p) : Int) = (33 : Int32) by rw [show (33 : Int32) = i32 33 from rfl, i32_eq (by omega)]; omega), if_pos (show i32 (pk B n (sk B n p) : Int) = (40 : Int32) by rw [c2]; rfl)]
      exact resT_pre f0 g0 (p_stM hF (p_cond0 hF hg h2))
    · rw [if_neg (show ¬ (pk B n (sk B n p) = 33 ∨ pk B n (sk B n p) = 40) by omega), if_neg (show ¬ i32 (pk B n (sk B n p) : Int) = (33 : Int32) by rw [show (33 : Int32) = i32 33 from rfl, i32_eq (by omega)]; omega), if_neg (show ¬ i32 (pk B n (sk B n p) : Int) = (40 : Int32) by rw [show (40 : Int32) = i32 40 from rfl, i32_eq (by omega)]; omega)]
      refine resT_pre f0 g0 ?_
      obtain ⟨σ1, t1, t2⟩ := p_total (Z := Z) (x := 0) (d := 6) hF hg rfl _ _ w h2
      rcases t2 with ⟨e, b1, b2, b3, b4⟩ | ⟨e, b1, b4⟩ | ⟨e, b1, b4⟩
      · rw [if_pos e, show f_X10_total F Z (sI σ 1 3 (i32 (sk B n p : Int))) (5 + g) 0 = _ from b1, obs]
        dsimp only
        obtain ⟨i1, i2⟩ := p_next (Z := Z) hF b2
        have hr2 := pk_rg (q := sk B n (tT B n g 6 (sk B n p)).2.1) b2
        have f1 : fr WT σ1 (sI σ1 1 3 (i32 (sk B n (tT B n g 6 (sk B n p)).2.1 : Int))) := fr_sI _ _ (by decide)
        have g1 : (sI σ1 1 3 (i32 (sk B n (tT B n g 6 (sk B n p)).2.1 : Int))).1 3 = σ1.1 3 := sI_r _ _ (by omega)
        obtain ⟨i3, i4⟩ := p_next (Z := Z) hF i2
        rw [sk_sk, sI_sI] at i3
        rw [if_neg n10, i1, obs]
        dsimp only
        rw [p_isCmp (by omega), obs]
        by_cases q : isCm (pk B n (sk B n (tT B n g 6 (sk B n p)).2.1)) = true
        · rw [if_pos q, q, b01t, if_neg n10]
          obtain ⟨σ2, u1, u2⟩ := p_stM (r0 := 5 + g) (Z := Z) hF (p_condB (Z := Z) hF hg i2 (fun i hi => by rw [g1]; exact b4 i hi))
          refine ⟨σ2, fr_tr (fr_tr t1 f1) u1, ?_⟩
          rcases u2 with ⟨v0, v1, v2, v3, v4⟩ | u2
          · exact Or.inl ⟨v0, v1, v2, fun j hj => by rw [v3 j hj, g1, b3 j hj], v4⟩
          · exact Or.inr u2
        · have q' : isCm (pk B n (sk B n (tT B n g 6 (sk B n p)).2.1)) = false := by
            cases h : isCm (pk B n (sk B n (tT B n g 6 (sk B n p)).2.1))
            · rfl
            · exact absurd h q
          rw [if_neg q, q', b01f, if_pos rfl, i3, obs]
          dsimp only
          by_cases q3 : pk B n (sk B n (tT B n g 6 (sk B n p)).2.1) = 63
          · obtain ⟨σ2, s1, s2, s3⟩ := p_fail (Z := Z) i2
            rw [if_pos q3, if_pos (show i32 (pk B n (sk B n (tT B n g 6 (sk B n p)).2.1) : Int) = (63 : Int32) by rw [q3]; rfl), s1, obs]
            exact resT_0 (fr_tr (fr_tr t1 f1) s2) (if_pos rfl) s3
          · rw [if_neg q3, if_neg (show ¬ i32 (pk B n (sk B n (tT B n g 6 (sk B n p)).2.1) : Int) = (63 : Int32) by rw [show (63 : Int32) = i32 63 from rfl, i32_eq (by omega)]; omega)]
            exact ⟨_, fr_tr t1 f1, Or.inl ⟨rfl, rfl, i2, fun j hj => by rw [g1, b3 j hj], fun i hi => by rw [g1]; exact b4 i hi⟩⟩
      · rw [if_neg (by rw [e]; decide), show f_X10_total F Z (sI σ 1 3 (i32 (sk B n p : Int))) (5 + g) 0 = _ from b1, obs]
        dsimp only
        rw [if_pos rfl]
        exact resT_0 t1 rfl b4
      · have hd := pk_dg b4.2.2.1
        rw [if_neg (by rw [e]; decide), show f_X10_total F Z (sI σ 1 3 (i32 (sk B n p : Int))) (5 + g) 0 = _ from b1, obs]
        dsimp only
        rw [if_neg n10, p_nextP hF b4, obs]
        dsimp only
        rw [p_isCmp (by omega), isCm_dg hd, obs, b01f, if_pos rfl, p_nextP hF b4, obs]
        dsimp only
        rw [if_neg (show ¬ i32 (pk B n (tT B n g 6 (sk B n p)).2.1 : Int) = (63 : Int32) by rw [show (63 : Int32) = i32 63 from rfl, i32_eq (by omega)]; omega)]
        exact resT_P t1 rfl b4
