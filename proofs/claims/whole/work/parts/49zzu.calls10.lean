/-! calls: runs -/
def upL (A : HA) (o : Option LT) : HA := (A.1, A.2.1, A.2.2.1, A.2.2.2.1, A.2.2.2.2.1, A.2.2.2.2.2.1, A.2.2.2.2.2.2.1, o)
def mkL (x : Nat) (T : TK) (y : Int) (fx : Bool) (m0 : Int64) : LT := (x, fsI T y, ggI T y fx m0, G_I T y fx m0, (rnS T y fx m0 (G_I T y fx m0)).2.1, nsI T y fx m0, (fun x' q => sdI T y (rnS T y fx m0 x').1 x' (rnS T y fx m0 x').2.1 (q : Int)), (rnS T y fx m0 (G_I T y fx m0)).1)
theorem JM_K {A : HA} {τ υ : hSt} {o : Option LT} (h : JM A τ) (f : fr WKp τ υ) (hl : JLm (upL A o) υ) : JM (upL A o) υ := by
  obtain ⟨a, ⟨b1, b2⟩, ⟨c1, c2⟩, ⟨d1, d2⟩, ⟨e1, e2⟩, ⟨g1, g2⟩, ⟨i1, i2⟩, j, -⟩ := h
  refine ⟨tpM_W a f (by decide) (by decide), ⟨by rw [f.1 200 15 (by decide)]; exact b1, fun s hs => sgM_W (b2 s hs) f (by decide) (by decide) (by decide) (by decide) (by decide)⟩, ⟨by rw [f.1 200 25 (by decide)]; exact c1, fun k hk => kpM_W (c2 k hk) f (by decide) (by decide)⟩, ⟨by rw [f.1 200 26 (by decide)]; exact d1, fun k hk => kpM_W (d2 k hk) f (by decide) (by decide)⟩, ⟨by rw [f.1 200 36 (by decide)]; exact e1, fun x hx => ?_⟩, ⟨by rw [f.1 200 58 (by decide)]; exact g1, fun i hi => ?_⟩, ⟨by rw [f.1 200 20 (by decide)]; exact i1, fun j hj => ?_⟩, f.2.2.2 j, hl⟩
  · rw [fr_I f 214 rfl (by decide), fr_I f 215 rfl (by decide), fr_I f 216 rfl (by decide), fr_I f 217 rfl (by decide)]
    exact e2 x hx
  · rw [fr_I f 222 rfl (by decide), fr_I f 223 rfl (by decide)]
    exact g2 i hi
  · rw [fr_I f 209 rfl (by decide)]
    exact i2 j hj
/-- a run, on both sides, is the latest then -/
theorem J_run {A : HA} {Z : hZ} {σ τ σ' υ υ' : hSt} {x : Nat} {y : Int} {fx : Bool} {m0 : Int64} (h : J A Z σ τ) (hx : x < nK_ A) (f : fr (WX 14) σ σ') (c : crG Z (tfA A) 14 (8000 + x) (1000 + (fK A x).1) (4000 + (fK A x).2.2.1) y fx m0 (G_I (tkA A x) y fx m0) (nsI (tkA A x) y fx m0) (ggI (tkA A x) y fx m0) σ') (k : fr WF_ τ υ) (k' : fr WKp υ υ') (kp : kpT x (tkA A x) y fx m0 υ') : J (upL A (some (mkL x (tkA A x) y fx m0))) Z σ' υ' := by
  have hT := tkA_ok h.1 hx
  unfold crG at c
  rw [tf_e] at c
  obtain ⟨c1, c2, c3, c4, c5, c6, c7, c8, c9, c10, c11⟩ := c
  obtain ⟨s1, s2, s3, s4, s5, s6⟩ := h.2.2.1
  refine ⟨h.1, h.2.1, ⟨tpH_W s1 f (by decide) (by decide), JP_W s2 f (by decide) (by decide), z13_s c1, c2, caS_W (Or.inr rfl) s5 f (by decide) (by decide), ?_⟩, JM_K (JM_W h.2.2.2.1 k) k' ?_, ?_⟩
  · refine ⟨⟨c6, c7, c8, c9, c3, c10, fun q hq => c4 q hq⟩, fun x' hx' q hq => ?_⟩
    have := c11 x' hx' q (by show q ≤ ((cnL x' (fS A (fK A x).1) : Nat) : Int).toNat; rw [Int.toNat_natCast]; exact hq)
    show σ'.2.1 (24 + x') q = _
    rw [show 24 + x' = 24 + 6 * (14 - 14) + x' by omega]
    exact this
  · obtain ⟨k1, k2, k3, k4, k5, k6, k7, k8, k9⟩ := kp
    refine ⟨⟨k1, k2, k5, k3, k4, k6, k7, fun q hq => k9 q hq⟩, fun x' hx' q hq => ?_⟩
    exact k8 x' hx' q (by show q ≤ ((cnL x' (fS A (fK A x).1) : Nat) : Int).toNat; rw [Int.toNat_natCast]; exact hq)
  · have rg := rn_rg (y := y) (fx := fx) (m0 := m0) hT (G_I (tkA A x) y fx m0)
    have hg := g_rg (T := tkA A x) (y := y) (fx := fx) (m0 := m0)
    have hN := hT.1
    have hP := hT.2.2.1
    refine ⟨hx, by show G_I (tkA A x) y fx m0 ≤ 6; omega, ns_rg (T := tkA A x) (y := y) (fx := fx) (m0 := m0), fun q _ => ?_⟩
    have := rg.1 q
    exact ⟨this.1, by show (rnS (tkA A x) y fx m0 (G_I (tkA A x) y fx m0)).1 q ≤ 1000000007; omega⟩
theorem q_run {A : HA} {Z : hZ} {σ τ : hSt} {F : Nat} (hF : 50000 ≤ F) (h : J A Z σ τ) (x1 : Int32) (x2 : Int64) (x4 : Int32) : ∃ v A' σ' τ', f_X11_run F Z σ x1 x2 x4 = some (v, σ') ∧ f_X12_run F Z τ x1 x2 x4 = some (v, τ') ∧ J A' Z σ' τ' := by
  obtain ⟨z1, hz1, rfl⟩ := ofx x1
  obtain ⟨z4, hz4, rfl⟩ := ofx x4
  obtain ⟨l1, l2⟩ := h.2.1.2.2.2.1
  have hn := h.1.2.2.2.2.2.2.1
  have t0 := J_0 h 0
  have m5a := h.2.2.2.1.2.2.2.2.1
  unfold f_X11_run f_X12_run
  rw [p_asked m5a.1 (by omega) hz1 hz4, obs]
  dsimp only
  rcases ixc z1 (nK_ A) with ⟨x, hx, rfl⟩ | c
  · have hT := tkA_ok h.1 hx
    have hz := tkZ_of h.1 h.2.1 hx
    have hM := tkM_of h.1 t0.2.2.2.1 hx
    have hta := hz.2.2.2.2.2.2.1
    rw [p_talkAt l1 (by omega) hx hta, obs, oc_1, if_pos hta, p_own hz4, obs, decide_eq_true (show 0 ≤ (x : Int) ∧ (x : Int) < (nK_ A : Int) by omega), Bool.true_and]
    by_cases cy : 0 ≤ z4 ∧ z4 ≤ 1000000
    · have hT' : okT (tfA A (8000 + x)) := by rw [tf_e]; exact hT
      obtain ⟨σ1, a1, a2, a3⟩ := p_goByDraws (F := F) (r0 := 14) (y := z4) (m0 := x2) (by omega) (Or.inl rfl) hz hT' cy h.2.2.1.2.2.1 h.2.2.1.2.2.2.1
      rw [tf_e] at a1 a3
      obtain ⟨υ1, b1, b2, b3⟩ := p_mgoes (F := F) (Z := Z) (fx := false) (m := x2) (by omega) hT cy hM
      obtain ⟨υ2, c1, c2, c3⟩ := p_mkeep (F := F) (Z := Z) (b := bvI (tkA A x) z4 false x2) (by omega) hT b3
      have b1' : f_X12_goes F Z (sI τ 200 0 0) (i32 (x : Int)) 0 x2 (i32 z4) = some (b01 (bvI (tkA A x) z4 false x2), υ1) := b1
      rw [decide_eq_true cy, b01t, if_neg n10, if_neg n10, a1, obs, b1', obs]
      dsimp only
      rw [c1, obs]
      refine ⟨b01 (bvI (tkA A x) z4 false x2), _, σ1, υ2, ?_, rfl, J_run t0 hx a2 a3 (fr_mono b2 (by decide)) c2 c3⟩
      cases bvI (tkA A x) z4 false x2 <;> rfl
    · rw [decide_eq_false cy, b01f, if_pos rfl, if_pos rfl]
      exact ⟨_, A, _, _, rfl, rfl, t0⟩
  · rw [p_talkNo l1 (by omega) hz1 c, obs, decide_eq_false c, Bool.false_and, b01f, if_pos rfl]
    exact ⟨_, A, _, _, rfl, rfl, t0⟩
theorem q_fixed {A : HA} {Z : hZ} {σ τ : hSt} {F : Nat} (hF : 50000 ≤ F) (h : J A Z σ τ) (x1 x2 : Int32) : ∃ v A' σ' τ', f_X11_fixed F Z σ x1 x2 = some (v, σ') ∧ f_X12_fixed F Z τ x1 x2 = some (v, τ') ∧ J A' Z σ' τ' := by
  obtain ⟨z1, hz1, rfl⟩ := ofx x1
  obtain ⟨z4, hz4, rfl⟩ := ofx x2
  obtain ⟨l1, l2⟩ := h.2.1.2.2.2.1
  have hn := h.1.2.2.2.2.2.2.1
  have t0 := J_0 h 0
  have m5a := h.2.2.2.1.2.2.2.2.1
  unfold f_X11_fixed f_X12_fixed
  rw [p_asked m5a.1 (by omega) hz1 hz4, obs]
  dsimp only
  rcases ixc z1 (nK_ A) with ⟨x, hx, rfl⟩ | c
  · have hT := tkA_ok h.1 hx
    have hz := tkZ_of h.1 h.2.1 hx
    have hM := tkM_of h.1 t0.2.2.2.1 hx
    have hta := hz.2.2.2.2.2.2.1
    rw [p_talkAt l1 (by omega) hx hta, obs, oc_1, if_pos hta, p_own hz4, obs, decide_eq_true (show 0 ≤ (x : Int) ∧ (x : Int) < (nK_ A : Int) by omega), Bool.true_and]
    by_cases cy : 0 ≤ z4 ∧ z4 ≤ 1000000
    · have hT' : okT (tfA A (8000 + x)) := by rw [tf_e]; exact hT
      obtain ⟨σ1, a1, a2, a3⟩ := p_goFixed (F := F) (r0 := 14) (y := z4) (by omega) (Or.inl rfl) hz hT' cy h.2.2.1.2.2.1 h.2.2.1.2.2.2.1
      rw [tf_e] at a1 a3
      obtain ⟨υ1, b1, b2, b3⟩ := p_mgoes (F := F) (Z := Z) (fx := true) (m := 0) (by omega) hT cy hM
      obtain ⟨υ2, c1, c2, c3⟩ := p_mkeep (F := F) (Z := Z) (b := bvI (tkA A x) z4 true (m0I (tkA A x) z4 true 0)) (by omega) hT b3
      have b1' : f_X12_goes F Z (sI τ 200 0 0) (i32 (x : Int)) 1 0 (i32 z4) = some (b01 (bvI (tkA A x) z4 true (m0I (tkA A x) z4 true 0)), υ1) := b1
      rw [decide_eq_true cy, b01t, if_neg n10, if_neg n10, a1, obs, b1', obs]
      dsimp only
      rw [c1, obs]
      refine ⟨b01 (bvI (tkA A x) z4 true (m0I (tkA A x) z4 true 0)), _, σ1, υ2, ?_, rfl, J_run t0 hx a2 a3 (fr_mono b2 (by decide)) c2 c3⟩
      show (if b01 (bvI (tkA A x) z4 true (m0I (tkA A x) z4 true 0)) = (0 : Int32) then some ((0 : Int32), σ1) else some ((1 : Int32), σ1)) = _
      cases bvI (tkA A x) z4 true (m0I (tkA A x) z4 true 0) <;> rfl
    · rw [decide_eq_false cy, b01f, if_pos rfl, if_pos rfl]
      exact ⟨_, A, _, _, rfl, rfl, t0⟩
  · rw [p_talkNo l1 (by omega) hz1 c, obs, decide_eq_false c, Bool.false_and, b01f, if_pos rfl]
    exact ⟨_, A, _, _, rfl, rfl, t0⟩
theorem q_triesL {A : HA} {Z : hZ} {F x many : Nat} (hF : 50000 ≤ F) (hx : x < nK_ A) (hm : many ≤ 200) : ∀ (k z M : Nat) (σ τ : hSt), J A Z σ τ → z + k = many → k < M → ∃ v σ' τ', f_X11_tries_L27 F Z (8000 + x) (i32 (many : Int)) M σ (i32 (z : Int)) = some (v, σ') ∧ f_X12_tries_L29 F Z (i32 (x : Int)) (i32 (many : Int)) M τ (i32 (z : Int)) = some (v, τ') ∧ J A Z σ' τ' := by
  intro k
  induction k with
  | zero =>
    intro z M σ τ h hz1 hM
    obtain ⟨M, rfl⟩ : ∃ q, M = q + 1 := ⟨M - 1, by omega⟩
    obtain rfl : z = many := by omega
    refine ⟨-1, σ, τ, ?_, ?_, h⟩
    · rw [f_X11_tries_L27, if_pos (Int32.le_refl _)]
    · rw [f_X12_tries_L29, if_pos (Int32.le_refl _)]
  | succ k ih =>
    intro z M σ τ h hz1 hM
    obtain ⟨M, rfl⟩ : ∃ q, M = q + 1 := ⟨M - 1, by omega⟩
    have hT := tkA_ok h.1 hx
    have hz := tkZ_of h.1 h.2.1 hx
    have hM' := tkM_of h.1 h.2.2.2.1 hx
    have hT' : okT (tfA A (8000 + x)) := by rw [tf_e]; exact hT
    obtain ⟨σ1, a1, a2, a3⟩ := p_goFixed (F := F) (r0 := 15) (y := (z : Int)) (by omega) (Or.inr rfl) hz hT' (by omega) h.2.2.1.2.2.1 h.2.2.1.2.2.2.2.1
    rw [tf_e] at a1
    obtain ⟨υ1, b1, b2, b3⟩ := p_mgoes (F := F) (Z := Z) (y := (z : Int)) (fx := true) (m := 0) (by omega) hT (by omega) hM'
    have b1' : f_X12_goes F Z τ (i32 (x : Int)) 1 0 (i32 (z : Int)) = some (b01 (bvI (tkA A x) (z : Int) true (mixR 1 (i64 (fsI (tkA A x) (z : Int))))), υ1) := b1
    have hJ : J A Z σ1 υ1 := ⟨h.1, h.2.1, JS_W h.2.2.1 h.1 h.2.2.2.2 (fr_mono a2 (by decide)) (z13_s a3.1) a3.2.1, JM_W h.2.2.2.1 (fr_mono b2 (by decide)), h.2.2.2.2⟩
    rw [f_X11_tries_L27, f_X12_tries_L29, if_neg (mt (leI (by omega)).mp (by omega)), if_neg (mt (leI (by omega)).mp (by omega)), a1, obs, b1', obs, ip1]
    dsimp only
    cases bvI (tkA A x) (z : Int) true (mixR 1 (i64 (fsI (tkA A x) (z : Int)))) with
    | false =>
      rw [b01f, if_pos rfl, if_pos rfl]
      exact ih (z + 1) M σ1 υ1 hJ (by omega) (by omega)
    | true =>
      rw [b01t, if_neg n10, if_neg n10]
      exact ⟨_, _, _, rfl, rfl, hJ⟩
theorem q_tries {A : HA} {Z : hZ} {σ τ : hSt} {F : Nat} (hF : 50000 ≤ F) (h : J A Z σ τ) (x1 x2 : Int32) : ∃ v σ' τ', f_X11_tries F Z σ x1 x2 = some (v, σ') ∧ f_X12_tries F Z τ x1 x2 = some (v, τ') ∧ J A Z σ' τ' := by
  obtain ⟨z1, hz1, rfl⟩ := ofx x1
  obtain ⟨z2, hz2, rfl⟩ := ofx x2
  obtain ⟨l1, l2⟩ := h.2.1.2.2.2.1
  have hn := h.1.2.2.2.2.2.2.1
  have t0 := J_0 h 0
  have m5b := t0.2.2.2.1.2.2.2.2.1
  unfold f_X11_tries f_X12_tries
  rw [p_misK m5b.1 (by omega) hz1, obs, i32_l hz2, show f_X12_isIn (i64 z2) 1 200 = _ from p_isIn (a := 1) (b := 200) (by omega) (by omega) (by omega), obs]
  rcases ixc z1 (nK_ A) with ⟨x, hx, rfl⟩ | c
  · have hta := (l2 x hx).1
    rw [p_talkAt l1 (by omega) hx hta, obs, oc_1, if_pos hta, decide_eq_true (show 0 ≤ (x : Int) ∧ (x : Int) < (nK_ A : Int) by omega), b01t, if_neg n10]
    by_cases d : 1 ≤ z2 ∧ z2 ≤ 200
    · obtain ⟨m, rfl⟩ : ∃ m : Nat, z2 = (m : Int) := ⟨z2.toNat, by omega⟩
      rw [decide_eq_true d, b01t, if_neg n10, if_neg (show ¬ i32 (m : Int) < (1 : Int32) from mt (ltI (b := 1) (by omega)).mp (by omega)), if_pos (show i32 (m : Int) ≤ (200 : Int32) from (leI (b := 200) (by omega)).mpr (by omega))]
      exact q_triesL hF hx (by omega) m 0 F σ _ t0 (by omega) (by omega)
    · rw [decide_eq_false d, b01f, if_pos rfl]
      by_cases e : z2 < 1
      · rw [if_pos (show i32 z2 < (1 : Int32) from (ltI (b := 1) (by omega)).mpr e)]
        exact ⟨_, _, _, rfl, rfl, t0⟩
      · rw [if_neg (show ¬ i32 z2 < (1 : Int32) from mt (ltI (b := 1) (by omega)).mp e), if_neg (show ¬ i32 z2 ≤ (200 : Int32) from mt (leI (b := 200) (by omega)).mp (by omega))]
        exact ⟨_, _, _, rfl, rfl, t0⟩
  · rw [p_talkNo l1 (by omega) hz1 c, obs, decide_eq_false c, b01f, if_pos rfl]
    exact ⟨_, _, _, rfl, rfl, t0⟩
theorem q_latest {A : HA} {Z : hZ} {σ τ : hSt} (h : J A Z σ τ) (x1 : Int32) : ∃ v τ', f_X11_latest Z σ x1 = some v ∧ f_X12_latest Z τ x1 = some (v, τ') ∧ J A Z σ τ' := by
  have t0 := J_0 h 0
  obtain ⟨l1, l2⟩ := h.2.1.2.2.2.1
  have hc := h.2.2.1.2.2.2.2.2
  have hm := h.2.2.2.1.2.2.2.2.2.2.2.2
  have ho := h.2.2.2.2
  unfold JLc at hc
  unfold JLm at hm
  unfold JLo at ho
  unfold f_X11_latest f_X12_latest
  cases e : aL A with
  | none =>
    rw [e] at hc hm
    dsimp only at hc hm
    rw [hc.1, hm, if_pos rfl]
    exact ⟨-1, _, rfl, rfl, t0⟩
  | some L =>
    rw [e] at hc hm ho
    dsimp only at hc hm ho
    obtain ⟨⟨a1, a2, a3, a4, a5, a6, a7⟩, -⟩ := hc
    obtain ⟨⟨b1, b2, b3, b4, b5, b6, b7, b8⟩, -⟩ := hm
    rw [a1, oc_1, if_pos (l2 L.1 ho.1).1, b1, if_neg n10, a2, a3, a4, a5, b3, b4, b5, b6]
    by_cases c0 : x1 = 0
    · rw [if_pos c0, if_pos c0]
      exact ⟨_, _, rfl, rfl, t0⟩
    · rw [if_neg c0, if_neg c0]
      by_cases c1 : x1 = 1
      · rw [if_pos c1, if_pos c1]
        exact ⟨_, _, rfl, rfl, t0⟩
      · rw [if_neg c1, if_neg c1]
        by_cases c2 : x1 = 2
        · rw [if_pos c2, if_pos c2]
          exact ⟨_, _, rfl, rfl, t0⟩
        · rw [if_neg c2, if_neg c2]
          by_cases c3 : x1 = 3
          · rw [if_pos c3, if_pos c3]
            exact ⟨_, _, rfl, rfl, t0⟩
          · rw [if_neg c3, if_neg c3]
            exact ⟨_, _, rfl, rfl, t0⟩
