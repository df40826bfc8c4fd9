/-! the world of both; references that aren't of things told get a role of their own -/
set_option maxRecDepth 100000 in
theorem hfix_n {G : hG} {g : Nat → Nat} {Z : hZ} {σ : hSt} {rr : Nat → Nat → Option Nat} (hg : ∀ r, r < 900 → g r = G.2.1 r) (hr : ∀ q ∈ rfP, (rr q.1 q.2).map g = (σ.2.2 q.1 q.2).map G.2.1) (hl : ∀ x, 38 ≤ x ∧ x ≤ 42 → (Z.2.2.2 x 1).map g = (Z.2.2.2 x 1).map G.2.1) : hfix (wG G g) Z (σ.1, σ.2.1, rr) = hfix G Z σ := by
  have r1 := hr (12, 2) (by decide)
  have r2 := hr (12, 3) (by decide)
  have r3 := hr (14, 7) (by decide)
  have r4 := hr (14, 8) (by decide)
  have r5 := hr (15, 7) (by decide)
  have r6 := hr (15, 8) (by decide)
  dsimp only at r1 r2 r3 r4 r5 r6
  have l1 := hl 38 (by decide)
  have l2 := hl 39 (by decide)
  have l3 := hl 40 (by decide)
  have l4 := hl 41 (by decide)
  have l5 := hl 42 (by decide)
  have e1 := e6_g hg (a := 24) (by decide)
  have e2 := e6_g hg (a := 30) (by decide)
  unfold hfix wG
  simp (disch := decide) only [r1, r2, r3, r4, r5, r6, l1, l2, l3, l4, l5, e1, e2, hg]
set_option maxRecDepth 100000 in
theorem mfix_n {G : hG} {g : Nat → Nat} {τ : hSt} {rr : Nat → Nat → Option Nat} (hg : ∀ r, r < 900 → g r = G.2.1 r) (hr : (rr 200 2).map g = (τ.2.2 200 2).map G.2.1) (h1 : rr 200 28 = τ.2.2 200 28) (h2 : rr 200 29 = τ.2.2 200 29) : mfix (wG G g) (τ.1, τ.2.1, rr) = mfix G τ := by
  unfold mfix wG
  simp (disch := decide) only [hr, h1, h2, hg]
/-- the model's one reference is of its own rows, or none of ours -/
def RM (τ : hSt) : Prop := ∀ r, τ.2.2 200 2 = some r → r < 1000
def LW (G : hG) (Z : hZ) (O : va_W) (σ τ : hSt) : va_W := hW G Z (mfix G τ ++ O) σ
theorem LW_m (G : hG) (Z : hZ) (O : va_W) (σ τ : hSt) : (LW G Z O σ τ).Perm (mW G Z (hW G Z O σ) τ) := by
  unfold LW mW hW
  have h1 : ∀ (a b d : va_W), (a ++ (b ++ d)).Perm (b ++ (a ++ d)) := fun a b d => by
    rw [← List.append_assoc, ← List.append_assoc]
    exact List.perm_append_comm.append_right d
  exact ((h1 (hdyn G Z) (mfix G τ) O).append_left _).trans (h1 _ _ _)
def jk (o : Option Nat) (G : hG) : Nat := match o with
  | none => 0
  | some r => G.2.1 r
def gJ (G : hG) (σ τ : hSt) : Nat → Nat := fun r => if r = 900 then jk (σ.2.2 12 2) G else if r = 901 then jk (σ.2.2 12 3) G else if r = 902 then jk (σ.2.2 15 8) G else if r = 903 then jk (τ.2.2 200 2) G else G.2.1 r
def nJ (σ : hSt) : hSt := (σ.1, σ.2.1, fun r j => if r = 12 ∧ j = 2 then (σ.2.2 12 2).map (fun _ => 900) else if r = 12 ∧ j = 3 then (σ.2.2 12 3).map (fun _ => 901) else if r = 15 ∧ j = 8 then (σ.2.2 15 8).map (fun _ => 902) else σ.2.2 r j)
def mJ (τ : hSt) : hSt := (τ.1, τ.2.1, fun r j => if r = 200 ∧ j = 2 then (τ.2.2 200 2).map (fun _ => 903) else τ.2.2 r j)
theorem gJ_o {G : hG} {σ τ : hSt} {r : Nat} (h : r < 900 ∨ 1000 ≤ r) : gJ G σ τ r = G.2.1 r := by
  unfold gJ
  rw [if_neg (by omega), if_neg (by omega), if_neg (by omega), if_neg (by omega)]
theorem jk_m {o : Option Nat} {G : hG} {g : Nat → Nat} {k : Nat} (h : g k = jk o G) : (o.map (fun _ => k)).map g = o.map G.2.1 := by
  cases o with
  | none => rfl
  | some r => exact congrArg some h
theorem nJ_o {σ : hSt} {r j : Nat} (h : ¬ (r = 12 ∧ j = 2) ∧ ¬ (r = 12 ∧ j = 3) ∧ ¬ (r = 15 ∧ j = 8)) : (nJ σ).2.2 r j = σ.2.2 r j := by
  show (if r = 12 ∧ j = 2 then _ else if r = 12 ∧ j = 3 then _ else if r = 15 ∧ j = 8 then _ else σ.2.2 r j) = _
  rw [if_neg h.1, if_neg h.2.1, if_neg h.2.2]
/-- what the first course and the second hold is of talks told -/
theorem ref_ta {A : HA} {G : hG} {Z : hZ} {σ τ : hSt} (h : J A Z σ τ) (hX : JX A G Z) : ∀ q ∈ [(14, 7), (14, 8), (15, 7)], ∀ r, σ.2.2 q.1 q.2 = some r → told A r ∧ 1000 ≤ r ∧ r < 10000 := by
  have c11 := h.1.1
  have c12 := h.1.2.2.1
  have c13 := h.1.2.2.2.2.1
  have c14 := h.1.2.2.2.2.2.2.1
  have c15 := h.1.2.2.2.2.2.2.2.2.1
  have key : ∀ r, isTa Z r = true → told A r ∧ 1000 ≤ r ∧ r < 10000 := fun r hr => by
    have a := ta_iff.mp hr
    exact ⟨hX.1 r a.1, by omega, by omega⟩
  intro q hq r hr
  simp only [List.mem_cons, List.not_mem_nil, or_false] at hq
  rcases hq with rfl | rfl | rfl
  · exact key r (h.2.2.1.2.2.2.1 r hr).1
  · have g := h.2.2.1.2.2.2.2.2
    have ho := h.2.2.2.2
    unfold JLc at g
    unfold JLo at ho
    cases e : aL A with
    | none =>
      rw [e] at g
      have hr : σ.2.2 14 8 = some r := hr
      rw [g.1] at hr
      cases hr
    | some L =>
      rw [e] at g ho
      have hr : σ.2.2 14 8 = some r := hr
      rw [g.1.1] at hr
      cases hr
      have := ho.1
      exact ⟨Or.inr (Or.inr (Or.inr (Or.inl ⟨L.1, ho.1, rfl⟩))), by omega, by omega⟩
  · exact key r (h.2.2.1.2.2.2.2.1 r hr).1
theorem nJ_J {A : HA} {Z : hZ} {σ τ : hSt} (h : J A Z σ τ) : J A Z (nJ σ) (mJ τ) := by
  obtain ⟨h1, h2, ⟨a, b, c, d, e, g⟩, h4, h5⟩ := h
  refine ⟨h1, h2, ⟨a, b, c, ?_, ?_, ?_⟩, h4, h5⟩
  · intro r1 hr
    rw [nJ_o (by decide)] at hr
    exact d r1 hr
  · intro r1 hr
    rw [nJ_o (by decide)] at hr
    exact e r1 hr
  · unfold JLc at g ⊢
    cases ea : aL A with
    | none =>
      rw [ea] at g
      dsimp only at g ⊢
      exact ⟨by rw [nJ_o (by decide)]; exact g.1, g.2⟩
    | some L =>
      rw [ea] at g
      dsimp only at g ⊢
      obtain ⟨⟨g1, g2⟩, g3⟩ := g
      exact ⟨⟨by rw [nJ_o (by decide)]; exact g1, g2⟩, g3⟩
theorem nJ_RF {A : HA} {G : hG} {Z : hZ} {σ τ : hSt} (h : J A Z σ τ) (hX : JX A G Z) : RF A (nJ σ) ∧ RM (mJ τ) := by
  refine ⟨fun q hq r hr => ?_, fun r hr => ?_⟩
  · simp only [rfP, List.mem_cons, List.not_mem_nil, or_false] at hq
    rcases hq with rfl | rfl | rfl | rfl | rfl | rfl
    · have hr : (σ.2.2 12 2).map (fun _ => 900) = some r := hr
      cases e : σ.2.2 12 2 with
      | none => rw [e] at hr; cases hr
      | some x => rw [e] at hr; cases hr; exact Or.inl (show 900 < 1000 by decide)
    · have hr : (σ.2.2 12 3).map (fun _ => 901) = some r := hr
      cases e : σ.2.2 12 3 with
      | none => rw [e] at hr; cases hr
      | some x => rw [e] at hr; cases hr; exact Or.inl (show 901 < 1000 by decide)
    · have hr : (nJ σ).2.2 14 7 = some r := hr
      rw [nJ_o (by decide)] at hr
      have := ref_ta h hX (14, 7) (by decide) r hr
      exact Or.inr ⟨this.1, this.2.2⟩
    · have hr : (nJ σ).2.2 14 8 = some r := hr
      rw [nJ_o (by decide)] at hr
      have := ref_ta h hX (14, 8) (by decide) r hr
      exact Or.inr ⟨this.1, this.2.2⟩
    · have hr : (nJ σ).2.2 15 7 = some r := hr
      rw [nJ_o (by decide)] at hr
      have := ref_ta h hX (15, 7) (by decide) r hr
      exact Or.inr ⟨this.1, this.2.2⟩
    · have hr : (σ.2.2 15 8).map (fun _ => 902) = some r := hr
      cases e : σ.2.2 15 8 with
      | none => rw [e] at hr; cases hr
      | some x => rw [e] at hr; cases hr; exact Or.inl (show 902 < 1000 by decide)
  · have hr : (τ.2.2 200 2).map (fun _ => 903) = some r := hr
    cases e : τ.2.2 200 2 with
    | none => rw [e] at hr; cases hr
    | some x => rw [e] at hr; cases hr; exact (show 903 < 1000 by decide)
theorem nJ_X {A : HA} {G : hG} {Z : hZ} {σ τ : hSt} (hX : JX A G Z) : JX A (wG G (gJ G σ τ)) Z := by
  obtain ⟨x1, x2, x3, x4, x5, x6, x7⟩ := hX
  have k : ∀ lr er b c, liX G Z lr er b c → 1000 ≤ er → liX (wG G (gJ G σ τ)) Z lr er b c := fun lr er b c hl he => liX_e hl ⟨fun q => q, rfl, rfl, rfl⟩ ⟨fun q => q, rfl, rfl, rfl⟩ (fun q => q) (gJ_o (Or.inr he))
  exact ⟨x1, x2, k _ _ _ _ x3 (by decide), k _ _ _ _ x4 (by decide), k _ _ _ _ x5 (by decide), k _ _ _ _ x6 (by decide), k _ _ _ _ x7 (by decide)⟩
/-- the same world by other names -/
theorem nJ_W {A : HA} {G : hG} {Z : hZ} {O : va_W} {σ τ : hSt} (h : J A Z σ τ) (hX : JX A G Z) : LW (wG G (gJ G σ τ)) Z O (nJ σ) (mJ τ) = LW G Z O σ τ := by
  have hg : ∀ r, r < 900 → gJ G σ τ r = G.2.1 r := fun r hr => gJ_o (Or.inl hr)
  have c11 := h.1.1
  have c12 := h.1.2.2.1
  have c13 := h.1.2.2.2.2.1
  have c14 := h.1.2.2.2.2.2.2.1
  have c15 := h.1.2.2.2.2.2.2.2.2.1
  have hta := ref_ta h hX
  have hmap : ∀ (o : Option Nat), (∀ r, o = some r → 1000 ≤ r) → o.map (gJ G σ τ) = o.map G.2.1 := fun o ho => by
    cases o with
    | none => rfl
    | some r => exact congrArg some (gJ_o (Or.inr (ho r rfl)))
  have f1 : hfix (wG G (gJ G σ τ)) Z (nJ σ) = hfix G Z σ := by
    refine hfix_n hg (fun q hq => ?_) (fun x hx => ?_)
    · simp only [rfP, List.mem_cons, List.not_mem_nil, or_false] at hq
      rcases hq with rfl | rfl | rfl | rfl | rfl | rfl
      · exact jk_m (o := σ.2.2 12 2) (k := 900) rfl
      · exact jk_m (o := σ.2.2 12 3) (k := 901) rfl
      · exact hmap (σ.2.2 14 7) (fun r hr => (hta (14, 7) (by decide) r hr).2.1)
      · exact hmap (σ.2.2 14 8) (fun r hr => (hta (14, 8) (by decide) r hr).2.1)
      · exact hmap (σ.2.2 15 7) (fun r hr => (hta (15, 7) (by decide) r hr).2.1)
      · exact jk_m (o := σ.2.2 15 8) (k := 902) rfl
    · refine hmap _ (fun r hr => ?_)
      rcases li_c hx with rfl | rfl | rfl | rfl | rfl
      · rw [hX.2.2.1.2.1] at hr; cases hr; decide
      · rw [hX.2.2.2.1.2.1] at hr; cases hr; decide
      · rw [hX.2.2.2.2.1.2.1] at hr; cases hr; decide
      · rw [hX.2.2.2.2.2.1.2.1] at hr; cases hr; decide
      · rw [hX.2.2.2.2.2.2.2.1] at hr; cases hr; decide
  have f2 : mfix (wG G (gJ G σ τ)) (mJ τ) = mfix G τ := mfix_n hg (jk_m (o := τ.2.2 200 2) (k := 903) rfl) rfl rfl
  have f3 : hdyn (wG G (gJ G σ τ)) Z = hdyn G Z := by
    unfold hdyn
    refine List.map_congr_left (fun r hr => ?_)
    have ht := hX.1 r hr
    have hr1 : 1000 ≤ r ∧ r / 1000 ≤ 10 := by
      rcases ht with ⟨s, hs, h2⟩ | ⟨k, hk, h2⟩ | ⟨k, hk, h2⟩ | ⟨x, hx, h2⟩ | ⟨i, hi, h2⟩ | h2
      all_goals omega
    have e1 : (wG G (gJ G σ τ)).2.1 r = G.2.1 r := gJ_o (Or.inr hr1.1)
    rw [e1, hd_e (g := gJ G σ τ) rfl rfl rfl (fun _ => ⟨gJ_o (Or.inr (by omega)), gJ_o (Or.inr (by omega))⟩) (fun _ => gJ_o (Or.inr (by omega))) (fun h8 => ?_) (fun h10 j => ?_) (by omega)]
    · obtain ⟨x, hx, rfl⟩ : ∃ x, x < nK_ A ∧ r = 8000 + x := by
        rcases ht with ⟨s, hs, h2⟩ | ⟨k, hk, h2⟩ | ⟨k, hk, h2⟩ | ⟨x, hx, h2⟩ | ⟨i, hi, h2⟩ | h2
        · omega
        · omega
        · omega
        · exact ⟨x, hx, h2⟩
        all_goals omega
      obtain ⟨-, t0, t2, t3, -⟩ := h.2.1.2.2.2.1.2 x hx
      refine ⟨hmap _ (fun q hq => ?_), hmap _ (fun q hq => ?_), hmap _ (fun q hq => ?_)⟩
      · rw [t0] at hq; cases hq; omega
      · rw [t2] at hq; cases hq; omega
      · rw [t3] at hq; cases hq; omega
    · obtain ⟨q, hq, rfl⟩ : ∃ q ∈ liL A, r = q.2.1 := by
        have h2 : 10000 ≤ r ∧ r ≤ 10004 := by
          rcases ht with ⟨s, hs, h2⟩ | ⟨k, hk, h2⟩ | ⟨k, hk, h2⟩ | ⟨x, hx, h2⟩ | ⟨i, hi, h2⟩ | h2
          all_goals omega
        have h3 : r = 10000 ∨ r = 10001 ∨ r = 10002 ∨ r = 10003 ∨ r = 10004 := by omega
        rcases h3 with rfl | rfl | rfl | rfl | rfl
        · exact ⟨(38, 10000, 1000, nS_ A), by simp [liL], rfl⟩
        · exact ⟨(39, 10001, 4000, nL_ A), by simp [liL], rfl⟩
        · exact ⟨(40, 10002, 5000, nG_ A), by simp [liL], rfl⟩
        · exact ⟨(41, 10003, 8000, nK_ A), by simp [liL], rfl⟩
        · exact ⟨(42, 10004, 9000, nN_ A), by simp [liL], rfl⟩
      have hl := hX.li q hq
      have hb : 1000 ≤ q.2.2.1 := by
        simp only [liL, List.mem_cons, List.not_mem_nil, or_false] at hq
        rcases hq with rfl | rfl | rfl | rfl | rfl <;> dsimp only <;> decide
      refine hmap _ (fun y hy => ?_)
      rcases hl.2.2 with ⟨-, h2, -⟩ | ⟨-, -, -, -, h5⟩
      · exact absurd hr h2
      · rw [h5 j] at hy
        by_cases c : j < q.2.2.2
        · rw [if_pos c] at hy; cases hy; omega
        · rw [if_neg c] at hy; cases hy
  unfold LW hW
  rw [f1, f2, f3]
