/-! calls: TALKS -/
theorem tf_e (A : HA) (x : Nat) : tfA A (8000 + x) = tkA A x := by unfold tfA; rw [Nat.add_sub_cancel_left]
theorem tkM_of {A : HA} {τ : hSt} {x : Nat} (hA : okA A) (h : JM A τ) (hx : x < nK_ A) : tkM x (fK A x).1 (fK A x).2.2.1 (fK A x).2.2.2 (fL A (fK A x).2.2.1).2 (fG A (fK A x).2.2.2).2 (fL A (fK A x).2.2.1).1 (fG A (fK A x).2.2.2).1 (tkA A x) τ := by
  obtain ⟨b1, b2, b3, b4, b5, b6⟩ := hA.2.2.2.2.2.2.2.1 x hx
  have n1 := hA.2.2.2.2.2.2.1
  have n2 := hA.2.2.2.2.1
  have n3 := hA.1
  have c1 := hA.2.1 _ b1
  have c2 := hA.2.2.2.1 _ b2
  have c3 := hA.2.2.2.2.2.1 _ b3
  have m1 := h.2.1.2 _ b1
  have m2 := h.2.2.1.2 _ b2
  have m3 := h.2.2.2.1.2 _ b3
  obtain ⟨t1, t2, t3, t4⟩ := h.2.2.2.2.1.2 x hx
  have c4 := (nmB_of c1.2).1
  refine ⟨by omega, t1, t2, t3, t4, ⟨m2, c2.2.2, by omega, ⟨by show (0 : Int) ≤ (nmL _ : Int); omega, by show (nmL _ : Int) ≤ 6; omega⟩, ⟨by show (0 : Int) ≤ (fK A x).2.1; omega, b4.2⟩, m1.2.2.2.2.1, fun j hj => ⟨m1.2.2.2.2.2.1 j hj, by show (0 : Int) ≤ (cnL j _ : Int); omega, ?_⟩⟩, rfl, by omega, m3, c3.2.2, rfl, mSg_of m1⟩
  have := cn_100 hj c1.2
  show (cnL j _ : Int) ≤ 200
  omega
theorem sitB_tk {Z : hZ} {σ : hSt} {r s tl tg : Nat} {T : TK} (hT : okT T) (hz : tkZ Z r s tl tg T) (h : z13 σ) : sitB Z σ s tl (kN T : Int) (kS T) (kA T) := by
  obtain ⟨a1, a2, a3, a4, a5, a6, a7, a8, a9, a10, a11, a12, a13, a14, a15⟩ := hz
  obtain ⟨b1, b2, b3, b4, b5, b6, b7, b8, b9, b10, b11⟩ := hT
  exact ⟨a2, a4, a10, ⟨by omega, by omega⟩, a12, fun j hj => ⟨a13 j hj, (b6 j hj).1, by have := (b6 j hj).2.1; omega⟩, a14, b9.2, b9.1, h⟩
theorem J_A {W V : List Nat} {A : HA} {Z : hZ} {σ τ σ' τ' : hSt} (h : J A Z σ τ) (f : fr W σ σ') (k : fr V τ τ') (hz : z13 σ') (hs : ∀ x ∈ W, x ∈ WC_) (n2 : 11507 ∉ W) (n3 : 23 ∉ W) (hm : ∀ x ∈ V, x ∈ WF_) : J A Z σ' τ' :=
  ⟨h.1, h.2.1, JS_W h.2.2.1 h.1 h.2.2.2.2 (fr_mono f hs) hz (caS_W (Or.inr rfl) h.2.2.1.2.2.2.2.1 f n2 n3), JM_W h.2.2.2.1 (fr_mono k hm), h.2.2.2.2⟩
def WAB : List Nat := [8, 13, 11202, 11203, 11204, 11205, 11206]
theorem q_best {A : HA} {Z : hZ} {σ τ : hSt} {F : Nat} (hF : 50000 ≤ F) (h : J A Z σ τ) (x1 x2 : Int32) : ∃ v σ' τ', f_X11_best F Z σ x1 x2 = some (v, σ') ∧ f_X12_best F Z τ x1 x2 = some (v, τ') ∧ J A Z σ' τ' := by
  obtain ⟨z1, hz1, rfl⟩ := ofx x1
  obtain ⟨z2, hz2, rfl⟩ := ofx x2
  obtain ⟨l1, l2⟩ := h.2.1.2.2.2.1
  have hn := h.1.2.2.2.2.2.2.1
  have t0 := J_0 h 0
  have m2' := t0.2.2.2.1.2.2.2.2.1
  unfold f_X11_best f_X12_best
  rw [p_misK m2'.1 (by omega) hz1, obs, i32_l hz2, show (0 : Int64) = i64 0 from rfl, show (1 : Int64) = i64 1 from rfl, p_isIn (by omega) (by omega) (by omega), obs]
  rcases ixc z1 (nK_ A) with ⟨x, hx, rfl⟩ | c
  · have hT := tkA_ok h.1 hx
    have hz := tkZ_of h.1 h.2.1 hx
    have hM := tkM_of h.1 t0.2.2.2.1 hx
    rw [tf_e] at hz
    have hN := hT.1
    have hP := hT.2.2.1
    have hxx := ix_ok (show x < 12 by omega) (show x ≤ 100000 by omega)
    have m5 := h.2.2.2.1.2.2.2.2.1.2 x hx
    obtain ⟨σ1, a1, a2, a3⟩ := p_sit (P := kP (tkA A x)) (sitB_tk hT hz h.2.2.1.2.2.1) (by omega)
    obtain ⟨σ2, b1, b2, b3⟩ := p_tellsBest (F := F) (by omega) (by omega) a3
    obtain ⟨υ, u1, u2, u3⟩ := p_mbestOf (F := F) (Z := Z) (i32 z2) (by omega) (by omega) hM.2.2.2.2.2.1
    rw [← hM.2.2.2.2.2.2.1] at u3
    have hJ : J A Z σ2 υ := J_A t0 (fr_tr (fr_mono a2 (by decide)) (fr_mono b1 (by decide)) : fr WAB σ σ2) u1 (z13_s b2) (by decide) (by decide) (by decide) (by decide)
    have hJ2 : J A Z σ2 (sI τ 200 0 0) := J_A t0 (fr_tr (fr_mono a2 (by decide)) (fr_mono b1 (by decide)) : fr WAB σ σ2) (fr_rf [] _) (z13_s b2) (by decide) (by decide) (by decide) (by decide)
    rw [p_talkAt l1 (by omega) hx hz.2.2.2.2.2.2.1, obs, oc_1, if_pos hz.2.2.2.2.2.2.1, decide_eq_true (show 0 ≤ (x : Int) ∧ (x : Int) < (nK_ A : Int) by omega), b01t, if_neg n10, hz.1, oc_1, if_pos hz.2.1, hz.2.2.1, oc_1, if_pos hz.2.2.2.1, hz.2.2.2.2.2.2.2.1, a1, obs, i32_cn (by omega), if_neg hxx, if_neg hxx, if_neg hxx, m5.1, m5.2.1, m5.2.2.1]
    have u3' : f_X12_bestOf F Z (sI τ 200 0 0) (i32 ((fK A x).1 : Int)) (i32 ((fK A x).2.2.1 : Int)) (i32 (fK A x).2.1) (i32 z2) = _ := u3
    rw [u3', obs]
    dsimp only
    by_cases e : pdI (kN (tkA A x)) (kP (tkA A x)) (kS (tkA A x)) (kA (tkA A x)) (kN (tkA A x)) 0 1 = 0
    · rw [if_pos e] at b3
      rw [b3, obs, if_pos rfl, if_pos e]
      by_cases d : 0 ≤ z2 ∧ z2 ≤ 1
      · rw [decide_eq_true d, b01t, if_neg n10]
        exact ⟨_, _, _, rfl, rfl, hJ⟩
      · rw [decide_eq_false d, b01f, if_pos rfl]
        exact ⟨_, _, _, rfl, rfl, hJ2⟩
    · rw [if_neg e] at b3
      rw [b3.1, obs, if_neg n10, if_neg e]
      unfold f_X0_fraction
      dsimp only
      rw [b3.2.1, b3.2.2]
      by_cases d0 : z2 = 0
      · rw [if_pos (show i32 z2 = (0 : Int32) by rw [d0]; rfl), obs, decide_eq_true (by omega), b01t, if_neg n10, if_pos (show i32 z2 = (0 : Int32) by rw [d0]; rfl)]
        exact ⟨_, _, _, rfl, rfl, hJ⟩
      · rw [if_neg (show ¬ i32 z2 = (0 : Int32) from mt (eqI (b := 0) (by omega)).mp d0), if_neg (show ¬ i32 z2 = (0 : Int32) from mt (eqI (b := 0) (by omega)).mp d0)]
        by_cases d1 : z2 = 1
        · rw [if_pos (show i32 z2 = (1 : Int32) by rw [d1]; rfl), obs, decide_eq_true (by omega), b01t, if_neg n10]
          exact ⟨_, _, _, rfl, rfl, hJ⟩
        · rw [if_neg (show ¬ i32 z2 = (1 : Int32) from mt (eqI (b := 1) (by omega)).mp d1), obs, decide_eq_false (by omega), b01f, if_pos rfl]
          exact ⟨_, _, _, rfl, rfl, hJ2⟩
  · rw [p_talkNo l1 (by omega) hz1 c, obs, decide_eq_false c, b01f, if_pos rfl]
    exact ⟨_, _, _, rfl, rfl, t0⟩
theorem q_bound {A : HA} {Z : hZ} {σ τ : hSt} {F : Nat} (hF : 50000 ≤ F) (h : J A Z σ τ) (x1 x2 : Int32) : ∃ v σ' τ', f_X11_bound F Z σ x1 x2 = some (v, σ') ∧ f_X12_bound F Z τ x1 x2 = some (v, τ') ∧ J A Z σ' τ' := by
  obtain ⟨z1, hz1, rfl⟩ := ofx x1
  obtain ⟨z2, hz2, rfl⟩ := ofx x2
  obtain ⟨l1, l2⟩ := h.2.1.2.2.2.1
  have hn := h.1.2.2.2.2.2.2.1
  have t0 := J_0 h 0
  have m2' := t0.2.2.2.1.2.2.2.2.1
  unfold f_X11_bound f_X12_bound
  rw [p_misK m2'.1 (by omega) hz1, obs, i32_l hz2, p_isIn (a := 0) (b := 1) (by omega) (by omega) (by omega) |> fun e => show f_X12_isIn (i64 z2) 0 1 = _ from e, obs]
  rcases ixc z1 (nK_ A) with ⟨x, hx, rfl⟩ | c
  · have hT := tkA_ok h.1 hx
    have hz := tkZ_of h.1 h.2.1 hx
    have hM := tkM_of h.1 t0.2.2.2.1 hx
    rw [tf_e] at hz
    have hN := hT.1
    have hP := hT.2.2.1
    have hxx := ix_ok (show x < 12 by omega) (show x ≤ 100000 by omega)
    have m5 := h.2.2.2.1.2.2.2.2.1.2 x hx
    obtain ⟨σ1, a1, a2, a3⟩ := p_sit (P := kP (tkA A x)) (sitB_tk hT hz h.2.2.1.2.2.1) (by omega)
    obtain ⟨σ2, b1, b2, b3⟩ := p_tellsBound (F := F) (by omega) (by omega) a3
    obtain ⟨υ, u1, u2, u3⟩ := p_mbound (F := F) (Z := Z) (i32 z2) (by omega) (by omega) hM.2.2.2.2.2.1
    rw [← hM.2.2.2.2.2.2.1] at u3
    have hJ : J A Z σ2 υ := J_A t0 (fr_tr (fr_mono a2 (by decide)) (fr_mono b1 (by decide)) : fr WAB σ σ2) u1 (z13_s b2) (by decide) (by decide) (by decide) (by decide)
    have hJ2 : J A Z σ2 (sI τ 200 0 0) := J_A t0 (fr_tr (fr_mono a2 (by decide)) (fr_mono b1 (by decide)) : fr WAB σ σ2) (fr_rf [] _) (z13_s b2) (by decide) (by decide) (by decide) (by decide)
    rw [p_talkAt l1 (by omega) hx hz.2.2.2.2.2.2.1, obs, oc_1, if_pos hz.2.2.2.2.2.2.1, decide_eq_true (show 0 ≤ (x : Int) ∧ (x : Int) < (nK_ A : Int) by omega), b01t, if_neg n10, hz.1, oc_1, if_pos hz.2.1, hz.2.2.1, oc_1, if_pos hz.2.2.2.1, hz.2.2.2.2.2.2.2.1, a1, obs, i32_cn (by omega), if_neg hxx, if_neg hxx, if_neg hxx, m5.1, m5.2.1, m5.2.2.1]
    have u3' := u3
    dsimp only
    by_cases e : pdI (kN (tkA A x)) (kP (tkA A x)) (kS (tkA A x)) (kA (tkA A x)) (kN (tkA A x)) 0 1 = 0
    · rw [if_pos e] at b3 u3'
      rw [b3, obs, if_pos rfl]
      by_cases d : 0 ≤ z2 ∧ z2 ≤ 1
      · rw [decide_eq_true d, b01t, if_neg n10]
        exact ⟨_, _, _, rfl, u3', hJ⟩
      · rw [decide_eq_false d, b01f, if_pos rfl]
        exact ⟨_, _, _, rfl, rfl, hJ2⟩
    · rw [if_neg e] at b3 u3'
      rw [b3.1, obs, if_neg n10]
      unfold f_X0_fraction
      dsimp only
      rw [b3.2.1, b3.2.2]
      by_cases d0 : z2 = 0
      · have d0' : i32 z2 = (0 : Int32) := by rw [d0]; rfl
        rw [if_pos d0'] at u3'
        rw [if_pos d0', obs, decide_eq_true (by omega), b01t, if_neg n10]
        exact ⟨_, _, _, rfl, u3', hJ⟩
      · have d0' : ¬ i32 z2 = (0 : Int32) := mt (eqI (b := 0) (by omega)).mp d0
        rw [if_neg d0'] at u3'
        rw [if_neg d0']
        by_cases d1 : z2 = 1
        · rw [if_pos (show i32 z2 = (1 : Int32) by rw [d1]; rfl), obs, decide_eq_true (by omega), b01t, if_neg n10]
          exact ⟨_, _, _, rfl, u3', hJ⟩
        · rw [if_neg (show ¬ i32 z2 = (1 : Int32) from mt (eqI (b := 1) (by omega)).mp d1), obs, decide_eq_false (by omega), b01f, if_pos rfl]
          exact ⟨_, _, _, rfl, rfl, hJ2⟩
  · rw [p_talkNo l1 (by omega) hz1 c, obs, decide_eq_false c, b01f, if_pos rfl]
    exact ⟨_, _, _, rfl, rfl, t0⟩
theorem q_roots {A : HA} {Z : hZ} {σ τ : hSt} {F : Nat} (hF : 50000 ≤ F) (h : J A Z σ τ) (x1 x2 : Int32) : ∃ v σ' τ', f_X11_roots F Z σ x1 x2 = some (v, σ') ∧ f_X12_roots F Z τ x1 x2 = some (v, τ') ∧ J A Z σ' τ' := by
  obtain ⟨z1, hz1, rfl⟩ := ofx x1
  obtain ⟨z2, hz2, rfl⟩ := ofx x2
  obtain ⟨l1, l2⟩ := h.2.1.2.2.2.1
  have hn := h.1.2.2.2.2.2.2.1
  have t0 := J_0 h 0
  have m2' := t0.2.2.2.1.2.2.2.2.1
  unfold f_X11_roots f_X12_roots
  rw [p_misK m2'.1 (by omega) hz1, obs]
  rcases ixc z1 (nK_ A) with ⟨x, hx, rfl⟩ | c
  · have hT := tkA_ok h.1 hx
    have hz := tkZ_of h.1 h.2.1 hx
    have hM := tkM_of h.1 t0.2.2.2.1 hx
    rw [tf_e] at hz
    have hN := hT.1
    have hP := hT.2.2.1
    have hxx := ix_ok (show x < 12 by omega) (show x ≤ 100000 by omega)
    have m5 := h.2.2.2.1.2.2.2.2.1.2 x hx
    have hs := hM.2.2.2.2.2.1.2.2.1
    have h204 : τ.1 204 (fK A x).1 = i32 (kN (tkA A x) : Int) := hM.2.2.2.2.2.1.2.2.2.2.2.1
    rw [p_talkAt l1 (by omega) hx hz.2.2.2.2.2.2.1, obs, oc_1, if_pos hz.2.2.2.2.2.2.1, decide_eq_true (show 0 ≤ (x : Int) ∧ (x : Int) < (nK_ A : Int) by omega), b01t, if_neg n10, hz.1, oc_1, if_pos hz.2.1, i32_cn (show x ≤ 2147483647 by omega), if_neg hxx, if_neg hxx, if_neg hxx, if_neg hxx, m5.1, i32_cn (show (fK A x).1 ≤ 2147483647 by omega), if_neg (ix_ok (show (fK A x).1 < 21 by omega) (by omega)), h204, hz.2.2.2.2.2.2.2.2.2.1, i32_l hz2]
    rw [show i32 (kN (tkA A x) : Int) - (1 : Int32) = i32 ((kN (tkA A x) : Int) - 1) by rw [show (1 : Int32) = i32 1 from rfl, i32_sub], i32_l (by omega), show f_X12_isIn (i64 z2) 0 (i64 ((kN (tkA A x) : Int) - 1)) = _ from p_isIn (a := 0) (by omega) (by omega) (by omega), obs]
    rcases ixc z2 (kN (tkA A x)) with ⟨i, hi, rfl⟩ | d
    · obtain ⟨σ1, a1, a2, a3⟩ := p_sit (P := kP (tkA A x)) (sitB_tk hT hz h.2.2.1.2.2.1) (by omega)
      obtain ⟨σ2, b1, b2, b3⟩ := p_tellsBest (F := F) (by omega) (by omega) a3
      obtain ⟨σ3, c1, c2, c3⟩ := p_roots (F := F) (i := i) (by omega) (by omega) (by omega) b2
      have ev := hM.2.2.2.2.2.2.1
      obtain ⟨υ, u1, u2, u3⟩ := p_mprodL (F := F) (Z := Z) (nn := kN (tkA A x)) (by omega) (by omega) (kN (tkA A x)) 0 F (sI τ 200 0 0) 1 (by omega) (by omega) (by omega) (by omega) hM.2.2.2.2.2.1
      obtain ⟨υ2, w1, w2, w3⟩ := p_mroots (F := F) (Z := Z) (i := i) (by omega) (by omega) (by omega) u2
      rw [← ev] at u3 w1
      have u3' : f_X12_product F Z (sI τ 200 0 0) (i32 ((fK A x).1 : Int)) (i32 ((fK A x).2.2.1 : Int)) (i32 (fK A x).2.1) = _ := u3
      have hM2 := tkM_fr hM (fr_mono u1 (by decide))
      rw [decide_eq_true (by omega), b01t, if_neg n10, if_neg (i0 (by omega)), if_pos ((ltI (by omega)).mpr (by omega)), oc_1, if_pos hz.2.1, hz.2.2.1, oc_1, if_pos hz.2.2.2.1, hz.2.2.2.2.2.2.2.1, a1, obs, m5.2.1, m5.2.2.1, u3', obs]
      dsimp only
      by_cases e : pdI (kN (tkA A x)) (kP (tkA A x)) (kS (tkA A x)) (kA (tkA A x)) (kN (tkA A x)) 0 1 = 0
      · rw [if_pos e] at b3
        rw [b3, obs, if_pos rfl, e, if_pos (show i64 0 = (0 : Int64) from rfl)]
        exact ⟨_, _, _, rfl, rfl, J_A t0 (fr_tr (fr_mono a2 (by decide)) (fr_mono b1 (by decide)) : fr WAB σ σ2) u1 (z13_s b2) (by decide) (by decide) (by decide) (by decide)⟩
      · rw [if_neg e] at b3
        have hpd : ¬ i64 (pdI (kN (tkA A x)) (kP (tkA A x)) (kS (tkA A x)) (kA (tkA A x)) (kN (tkA A x)) 0 1) = (0 : Int64) := by
          have hr := bs_rg (nn := kN (tkA A x)) (P := kP (tkA A x)) (sp := kS (tkA A x)) (cs := kA (tkA A x)) hN (by omega) (fun j hj => (hT.2.2.2.2.2.1 j hj).1) e
          exact mt (eqJ (b := 0) (by omega)).mp e
        rw [b3.1, obs, if_neg n10, c1, obs, if_neg hpd, hM2.2.1, hM2.2.2.1, hM2.2.2.2.1, w1, obs, if_neg hxx, if_neg hxx, if_neg hxx]
        exact ⟨_, _, _, rfl, rfl, J_A t0 (fr_tr (fr_mono a2 (by decide)) (fr_tr (fr_mono b1 (by decide)) (fr_mono c2 (by decide))) : fr WAB σ σ3) (fr_tr u1 w2) (z13_s c3) (by decide) (by decide) (by decide) (by decide)⟩
    · rw [decide_eq_false (by omega), b01f, if_pos rfl]
      by_cases e : z2 < 0
      · rw [if_pos (show i32 z2 < (0 : Int32) from (ltI (b := 0) (by omega)).mpr e)]
        exact ⟨_, _, _, rfl, rfl, t0⟩
      · rw [if_neg (show ¬ i32 z2 < (0 : Int32) from mt (ltI (b := 0) (by omega)).mp e), if_neg (mt (ltI (by omega)).mp (by omega))]
        exact ⟨_, _, _, rfl, rfl, t0⟩
  · rw [p_talkNo l1 (by omega) hz1 c, obs, decide_eq_false c, b01f, if_pos rfl]
    exact ⟨_, _, _, rfl, rfl, t0⟩
