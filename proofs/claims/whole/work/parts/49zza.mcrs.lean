/-! TALKS of the model -/
def tkM (x s kl kg nl ng : Nat) (Bl Bg : Nat → Nat) (T : TK) (τ : hSt) : Prop := x < 12 ∧ τ.1 214 x = i32 (s : Int) ∧ τ.1 215 x = i32 (kP T) ∧ τ.1 216 x = i32 (kl : Int) ∧ τ.1 217 x = i32 (kg : Int) ∧ sitM Bl nl kl s (kN T) (kP T) (kS T) τ ∧ kA T = tZc Bl nl 0 ∧ kg < 12 ∧ kpM Bg ng (12 + kg) τ ∧ txF Bg ng 1 = none ∧ kG T = tZc Bg ng 1 ∧ mSg τ s (kC T) (kL T)
def WT_ : List Nat := [207, 208, 210, 213, 218, 219, 30002, 30004, 30005, 30006, 30007, 30008, 30009, 30027, 30028, 30029, 30030, 30031, 30041, 30042, 30043, 30044, 30045]
theorem tkM_fr {x s kl kg nl ng : Nat} {Bl Bg : Nat → Nat} {T : TK} {τ υ : hSt} (h : tkM x s kl kg nl ng Bl Bg T τ) (f : fr WT_ τ υ) : tkM x s kl kg nl ng Bl Bg T υ := by
  obtain ⟨h1, h2, h3, h4, h5, ⟨⟨k1, k2, k3, k4⟩, b2, b3, b4, b5, b6, b7⟩, h7, h8, ⟨g1, g2, g3, g4⟩, h10, h11, h12⟩ := h
  refine ⟨h1, ?_, ?_, ?_, ?_, ⟨⟨k1, k2, ?_, fun j hj => ?_⟩, b2, b3, b4, b5, ?_, fun j hj => ?_⟩, h7, h8, ⟨g1, g2, ?_, fun j hj => ?_⟩, h10, h11, mSg_fr f (by decide) (by decide) h12⟩
  · rw [fr_I f 214 rfl (by decide)]; exact h2
  · rw [fr_I f 215 rfl (by decide)]; exact h3
  · rw [fr_I f 216 rfl (by decide)]; exact h4
  · rw [fr_I f 217 rfl (by decide)]; exact h5
  · rw [fr_I f 212 rfl (by decide)]; exact k3
  · rw [fr_I f 211 rfl (by decide)]; exact k4 j hj
  · rw [fr_I f 204 rfl (by decide)]; exact b6
  · rw [fr_I f 205 rfl (by decide)]; exact b7 j hj
  · rw [fr_I f 212 rfl (by decide)]; exact g3
  · rw [fr_I f 211 rfl (by decide)]; exact g4 j hj
theorem ix3 {c : Nat} (hc : c ≤ 127) (h : 0 ≤ ixS 3 c) : (c = 116 ∧ (ixS 4 c).toNat = 0) ∨ (c = 99 ∧ (ixS 4 c).toNat = 1) ∨ (c = 119 ∧ (ixS 4 c).toNat = 2) ∨ (c = 108 ∧ (ixS 4 c).toNat = 3) ∨ (c = 105 ∧ (ixS 4 c).toNat = 4) ∨ (c = 106 ∧ (ixS 4 c).toNat = 5) ∨ (c = 110 ∧ (ixS 4 c).toNat = 6) ∨ (c = 112 ∧ (ixS 4 c).toNat = 7) ∨ (c = 121 ∧ (ixS 4 c).toNat = 8) := by
  have : ∀ c : Fin 128, 0 ≤ ixS 3 c.val → (c.val = 116 ∧ (ixS 4 c.val).toNat = 0) ∨ (c.val = 99 ∧ (ixS 4 c.val).toNat = 1) ∨ (c.val = 119 ∧ (ixS 4 c.val).toNat = 2) ∨ (c.val = 108 ∧ (ixS 4 c.val).toNat = 3) ∨ (c.val = 105 ∧ (ixS 4 c.val).toNat = 4) ∨ (c.val = 106 ∧ (ixS 4 c.val).toNat = 5) ∨ (c.val = 110 ∧ (ixS 4 c.val).toNat = 6) ∨ (c.val = 112 ∧ (ixS 4 c.val).toNat = 7) ∨ (c.val = 121 ∧ (ixS 4 c.val).toNat = 8) := by decide +kernel
  exact this ⟨c, by omega⟩ h
theorem ltM_g {τ : hSt} {t c w l i j n p y : Int} (b : (-2000000000 ≤ t ∧ t ≤ 2000000000) ∧ (-2000000000 ≤ c ∧ c ≤ 2000000000) ∧ (-2000000000 ≤ w ∧ w ≤ 2000000000) ∧ (-2000000000 ≤ l ∧ l ≤ 2000000000) ∧ (-2000000000 ≤ i ∧ i ≤ 2000000000) ∧ (-2000000000 ≤ j ∧ j ≤ 2000000000) ∧ (-2000000000 ≤ n ∧ n ≤ 2000000000) ∧ (-2000000000 ≤ p ∧ p ≤ 2000000000) ∧ (-2000000000 ≤ y ∧ y ≤ 2000000000)) (h0 : τ.2.1 213 116 = i64 t) (h1 : τ.2.1 213 99 = i64 c) (h2 : τ.2.1 213 119 = i64 w) (h3 : τ.2.1 213 108 = i64 l) (h4 : τ.2.1 213 105 = i64 i) (h5 : τ.2.1 213 106 = i64 j) (h6 : τ.2.1 213 110 = i64 n) (h7 : τ.2.1 213 112 = i64 p) (h8 : τ.2.1 213 121 = i64 y) : ltM 1 (gL t c w l i j n p y) τ := by
  intro ch hc hi
  rcases ix3 hc hi with ⟨rfl, q⟩ | ⟨rfl, q⟩ | ⟨rfl, q⟩ | ⟨rfl, q⟩ | ⟨rfl, q⟩ | ⟨rfl, q⟩ | ⟨rfl, q⟩ | ⟨rfl, q⟩ | ⟨rfl, q⟩ <;> rw [q]
  · exact ⟨h0, bd_i b.1⟩
  · exact ⟨h1, bd_i b.2.1⟩
  · exact ⟨h2, bd_i b.2.2.1⟩
  · exact ⟨h3, bd_i b.2.2.2.1⟩
  · exact ⟨h4, bd_i b.2.2.2.2.1⟩
  · exact ⟨h5, bd_i b.2.2.2.2.2.1⟩
  · exact ⟨h6, bd_i b.2.2.2.2.2.2.1⟩
  · exact ⟨h7, bd_i b.2.2.2.2.2.2.2.1⟩
  · exact ⟨h8, bd_i b.2.2.2.2.2.2.2.2⟩
theorem ch_c : ((116 : Int32).toNatClampNeg = 116 ∧ (99 : Int32).toNatClampNeg = 99 ∧ (119 : Int32).toNatClampNeg = 119 ∧ (108 : Int32).toNatClampNeg = 108 ∧ (105 : Int32).toNatClampNeg = 105 ∧ (106 : Int32).toNatClampNeg = 106 ∧ (110 : Int32).toNatClampNeg = 110 ∧ (112 : Int32).toNatClampNeg = 112 ∧ (121 : Int32).toNatClampNeg = 121) := by decide
theorem ch_d : (¬ ((116 : Int32) < 0 ∨ 128 ≤ 116) ∧ ¬ ((99 : Int32) < 0 ∨ 128 ≤ 99) ∧ ¬ ((119 : Int32) < 0 ∨ 128 ≤ 119) ∧ ¬ ((108 : Int32) < 0 ∨ 128 ≤ 108) ∧ ¬ ((105 : Int32) < 0 ∨ 128 ≤ 105) ∧ ¬ ((106 : Int32) < 0 ∨ 128 ≤ 106) ∧ ¬ ((110 : Int32) < 0 ∨ 128 ≤ 110) ∧ ¬ ((112 : Int32) < 0 ∨ 128 ≤ 112) ∧ ¬ ((121 : Int32) < 0 ∨ 128 ≤ 121)) := by decide
theorem ix_ok {r x : Nat} (h : x < r) (hx : x ≤ 100000) : ¬ (i32 (x : Int) < (0 : Int32) ∨ r ≤ x) := by
  intro z
  rcases z with z | z
  · exact i0 hx z
  · omega
/-- what a kept GIANT says for its letters -/
theorem p_mgiant {x s kl kg nl ng F : Nat} {Bl Bg : Nat → Nat} {T : TK} {Z : hZ} {τ : hSt} {lab : Int} {L : Nat → Int64} (hF : 300 ≤ F) (hlab : 0 ≤ lab ∧ lab ≤ 255) (hP : 0 < kP T ∧ kP T ≤ 1000000007) (h : tkM x s kl kg nl ng Bl Bg T τ) (hl : ltM 1 L τ) : ∃ v υ, f_X12_worthOf F Z τ ((12 : Int32) + i32 (kg : Int)) 1 (i32 lab) = some (v, υ) ∧ f_X12_rest v (i64 (kP T)) = some (i64 ((lwS L lab (kG T)).toInt % kP T)) ∧ fr WG τ υ := by
  obtain ⟨h1, h2, h3, h4, h5, h6, h7, h8, h9, h10, h11, h12⟩ := h
  obtain ⟨υ, e1, e2⟩ := p_mworthOf (Z := Z) (k := 12 + kg) (g := 1) (lab := lab) hF (by omega) hlab h9 hl h10
  refine ⟨lwS L lab (tZc Bg ng 1), υ, ?_, ?_, e2⟩
  · rw [show (12 : Int32) + i32 (kg : Int) = i32 ((12 + kg : Nat) : Int) by rw [show (12 : Int32) = i32 12 from rfl, i32_add]; rfl, show (1 : Int32) = i32 ((1 : Nat) : Int) from rfl, e1]
  · rw [pr_mrest _ (by omega), h11]
theorem p_mcount {s n nm F : Nat} {c : Nat → Int} {Z : hZ} {τ : hSt} (hF : 300 ≤ F) (hw : wf c n) (hc : nmB c n nm) (hs : mSg τ s c n) (hn : τ.1 204 s = i32 (nm : Int)) : ∃ υ, f_X12_countOf F Z τ (i32 (s : Int)) = some (i32 (sumF 1000000007 c n nm 0 (fun _ => 0)), υ) ∧ fr [207, 208] τ υ := by
  have hc1 := hc.1
  obtain ⟨υ, e1, e2, e3⟩ := pg_msum (Z := Z) (F := F) hF hw hc (p := 1000000007) (by omega) nm 0 8 τ (fun _ => 0) (by omega) (by omega) hs hn (fun q hq => absurd hq (Nat.not_lt_zero q)) (fun _ _ => ⟨Int.le_refl _, by show (0 : Int) < 1000000007; decide⟩)
  refine ⟨υ, ?_, e2⟩
  unfold f_X12_countOf f_X12_sumFrom
  rw [show (G_Ms F Z 8) τ (i32 (s : Int)) 0 1000000007 = _ from e1, obs]
  dsimp only
  rw [i64_i]
theorem p_mfirst {x s kl kg nl ng F : Nat} {Bl Bg : Nat → Nat} {T : TK} {Z : hZ} {τ : hSt} {y : Int} (hF : 300 ≤ F) (hT : okT T) (hy : 0 ≤ y ∧ y ≤ 1000000) (h : tkM x s kl kg nl ng Bl Bg T τ) : ∃ υ, f_X12_firstClaim F Z τ (i32 (x : Int)) (i32 y) = some (i64 (fsI T y), υ) ∧ fr (207 :: 208 :: 213 :: WG) τ υ := by
  have hN := hT.1
  have hP := hT.2.2.1
  have hW := hT.2.2.2.2.2.2.1
  have hW2 := hT.2.2.2.2.2.2.2.1
  have h0 := h
  obtain ⟨h1, h2, h3, h4, h5, h6, h7, h8, h9, h10, h11, h12⟩ := h
  obtain ⟨l0, l1, l2, l3, l4, l5, l6, l7, l8⟩ := ch_c
  obtain ⟨d0, d1, d2, d3, d4, d5, d6, d7, d8⟩ := ch_d
  have hs := h6.2.2.1
  obtain ⟨τ1, a1, a2, a3⟩ := p_noLetters (F := F) (Z := Z) (τ := τ) hF
  obtain ⟨τ2, b1, b2⟩ := p_mcount (Z := Z) (F := F) (s := s) (τ := τ1) hF hT.2.2.2.1 hT.2.2.2.2.1 (mSg_fr a2 (by decide) (by decide) h12) (by rw [fr_I a2 204 rfl (by decide)]; exact h6.2.2.2.2.2.1)
  obtain ⟨τ3, hτ3⟩ : ∃ τ3, τ3 = sJ (sJ (sJ (sJ (sJ (sJ τ2 213 116 (i64 (kW T % kP T))) 213 99 (i64 (kW T % kP T))) 213 119 (i64 (kW T % kP T))) 213 110 (i64 (kN T : Int))) 213 112 (i64 (kP T))) 213 121 (i64 y) := ⟨_, rfl⟩
  have f3 : fr [207, 208, 213] τ τ3 := by
    rw [hτ3]
    refine fr_tr (fr_mono a2 (by decide)) (fr_tr (fr_mono b2 (by decide)) ?_)
    have hm9 := mod_rg (kW T) (show 0 < kP T by omega)
    exact fr_tr (fr_tr (fr_tr (fr_tr (fr_tr (fr_sJ _ _ (by decide) (fun _ => bd_i (by omega))) (fr_sJ _ _ (by decide) (fun _ => bd_i (by omega)))) (fr_sJ _ _ (by decide) (fun _ => bd_i (by omega)))) (fr_sJ _ _ (by decide) (fun _ => bd_i (by omega)))) (fr_sJ _ _ (by decide) (fun _ => bd_i (by omega)))) (fr_sJ _ _ (by decide) (fun _ => bd_i (by omega)))
  have z0 : ∀ q, q ≠ 116 → q ≠ 99 → q ≠ 119 → q ≠ 110 → q ≠ 112 → q ≠ 121 → q < 128 → τ3.2.1 213 q = 0 := fun q q0 q1 q2 q3 q4 q5 q6 => by
    rw [hτ3, sJ_j _ _ (by omega), sJ_j _ _ (by omega), sJ_j _ _ (by omega), sJ_j _ _ (by omega), sJ_j _ _ (by omega), sJ_j _ _ (by omega), fr_J b2 213 rfl (by decide)]
    exact a3 q q6
  have hw := mod_rg (kW T) (show 0 < kP T by omega)
  have hl : ltM 1 (gL (kW T % kP T) (kW T % kP T) (kW T % kP T) 0 0 0 (kN T) (kP T) y) τ3 := by
    refine ltM_g ⟨by omega, by omega, by omega, by omega, by omega, by omega, by omega, by omega, by omega⟩ ?_ ?_ ?_ (z0 108 (by omega) (by omega) (by omega) (by omega) (by omega) (by omega) (by omega)) (z0 105 (by omega) (by omega) (by omega) (by omega) (by omega) (by omega) (by omega)) (z0 106 (by omega) (by omega) (by omega) (by omega) (by omega) (by omega) (by omega)) ?_ ?_ ?_
    · rw [hτ3, sJ_j _ _ (by omega), sJ_j _ _ (by omega), sJ_j _ _ (by omega), sJ_j _ _ (by omega), sJ_j _ _ (by omega), sJ_t _ _ ⟨rfl, rfl⟩]
    · rw [hτ3, sJ_j _ _ (by omega), sJ_j _ _ (by omega), sJ_j _ _ (by omega), sJ_j _ _ (by omega), sJ_t _ _ ⟨rfl, rfl⟩]
    · rw [hτ3, sJ_j _ _ (by omega), sJ_j _ _ (by omega), sJ_j _ _ (by omega), sJ_t _ _ ⟨rfl, rfl⟩]
    · rw [hτ3, sJ_j _ _ (by omega), sJ_j _ _ (by omega), sJ_t _ _ ⟨rfl, rfl⟩]
    · rw [hτ3, sJ_j _ _ (by omega), sJ_t _ _ ⟨rfl, rfl⟩]
    · rw [hτ3, sJ_t _ _ ⟨rfl, rfl⟩]
  obtain ⟨v, υ, c1, c3, c2⟩ := p_mgiant (Z := Z) (F := F) (lab := 115) hF (by omega) (by omega) (tkM_fr h0 (fr_mono f3 (by decide))) hl
  refine ⟨υ, ?_, fr_tr (fr_mono f3 (by decide)) (fr_mono c2 (by decide))⟩
  have hx := ix_ok h1 (by omega)
  have b204 : τ2.1 204 s = i32 (kN T : Int) := by rw [fr_I b2 204 rfl (by decide), fr_I a2 204 rfl (by decide)]; exact h6.2.2.2.2.2.1
  have b217 : τ2.1 217 x = i32 (kg : Int) := by rw [fr_I b2 217 rfl (by decide), fr_I a2 217 rfl (by decide)]; exact h5
  unfold f_X12_firstClaim
  rw [i32_cn (by omega), if_neg hx, if_neg hx, a1, obs]
  dsimp only
  rw [h2, b1, obs, h3, if_neg (show ¬ i32 (kP T) = (0 : Int32) by rw [show (0 : Int32) = i32 0 from rfl, i32_eq (by omega)]; omega), ← hW2]
  dsimp only
  rw [l0, l1, l2, l6, l7, l8, if_neg d0, if_neg d0, if_neg d1, if_neg d0, if_neg d2, i32_cn (by omega), if_neg (ix_ok (show s < 21 by omega) (by omega)), if_neg d6, if_neg d7, if_neg d8, if_neg hx, i32_rem (by omega), i32_l (by omega), b204, b217, i32_l (by omega), i32_l (by omega), i32_l (by omega), sJ_t _ _ ⟨rfl, rfl⟩, sJ_j _ _ (show 116 < 99 ∨ 99 < 116 by omega), sJ_t _ _ ⟨rfl, rfl⟩, ← hτ3, show (115 : Int32) = i32 115 from rfl, c1, obs]
  dsimp only
  rw [c3, obs]
  rfl
