/-! rows of DRAWS, model -/
theorem p_mbel {x s kl kg nl ng F : Nat} {Bl Bg : Nat → Nat} {T : TK} {y : Int} {Z : hZ} (hF : 3000 ≤ F) (hT : okT T) (hy : 0 ≤ y ∧ y ≤ 1000000) : ∀ (k i d : Nat) (τ : hSt) (ds : Nat → Int) (cl : Int), i + k = kN T → k < d → (∀ j, j < kN T → dsI T j ≤ 2000) → tkM x s kl kg nl ng Bl Bg T τ → 0 ≤ cl ∧ cl < kP T → (∀ x, 0 ≤ ds x ∧ ds x < kP T) → (∀ q, q < i → τ.2.1 218 q = i64 (ds q)) → ∃ υ, (G_Mb F Z d) τ (i32 (x : Int)) (i32 y) (i32 (i : Int)) (i64 cl) = some (i32 (bfI T y k i ds cl), υ) ∧ fr WT_ τ υ ∧ (∀ q, q < i → υ.2.1 218 q = τ.2.1 218 q) ∧ (∀ p, p < 201 * i → υ.2.1 219 p = τ.2.1 219 p) := by
  have hF1 : 300 ≤ F := by omega
  have hN := hT.1
  have hP := hT.2.2.1
  intro k
  induction k with
  | zero =>
    intro i d τ ds cl hik hd hD h hcr hds h4
    obtain ⟨d, rfl⟩ : ∃ q, d = q + 1 := ⟨d - 1, by omega⟩
    obtain rfl : i = kN T := by omega
    have hx := ix_ok (x := x) h.1 (by have := h.1; omega)
    have hx2 : x ≤ 2147483647 := by have := h.1; omega
    have h6 := h.2.2.2.2.2.1
    have hs20 := h6.2.2.1
    obtain ⟨τ1, a1, a2⟩ := p_mends (Z := Z) hF1 hT hcr hds h h4
    refine ⟨τ1, ?_, fr_mono a2 (by decide), fun q hq => ?_, fun p hp => ?_⟩
    · rw [G_Mb, b_X12_believed, i32_cn hx2, if_neg hx, h.2.1, i32_cn (show s ≤ 2147483647 by omega), if_neg (ix_ok (show s < 21 by omega) (by omega)), h6.2.2.2.2.2.1, if_pos rfl, a1, obs, bfI]
      dsimp only
      cases enI T ds cl with
      | false => rw [b01f, if_pos rfl]; rfl
      | true => rw [b01t, if_neg n10]; rfl
    · rw [fr_J a2 218 rfl (by decide)]
    · rw [fr_J a2 219 rfl (by decide)]
  | succ k ih =>
    intro i d τ ds cl hik hd hD h hcr hds h4
    obtain ⟨d, rfl⟩ : ∃ q, d = q + 1 := ⟨d - 1, by omega⟩
    have hi : i < kN T := by omega
    have hx := ix_ok (x := x) h.1 (by have := h.1; omega)
    have hx2 : x ≤ 2147483647 := by have := h.1; omega
    have h6 := h.2.2.2.2.2.1
    have hs20 := h6.2.2.1
    obtain ⟨τ1, a1, a2, a3, a4⟩ := p_mspeaks (Z := Z) hF1 hT hi hy hcr hds h h4
    have a2' : fr WT_ τ τ1 := fr_mono a2 WP_T
    have h1 := tkM_fr h a2'
    obtain ⟨τ2, b1, b2, b3⟩ := p_masks (Z := Z) (F := F) (i := i) hF1 (by omega) h1.2.2.2.2.2.1
    rw [← h1.2.2.2.2.2.2.1] at b1
    have b2' : fr WT_ τ1 τ2 := fr_mono b2 (by decide)
    have h2 := tkM_fr h1 b2'
    have s2 : ∀ q : Nat, q ≤ (kS T i).toNat → τ2.2.1 219 (201 * i + q) = i64 (sdI T y ds i cl (q : Int)) := fun q hq => by rw [fr_J b2 219 rfl (by decide)]; exact a3 q hq
    have hsu := p_msumsUp (Z := Z) (y := y) (ds := ds) hT hi hcr h2 s2
    have e0 : (G_Mb F Z (d + 1)) τ (i32 (x : Int)) (i32 y) (i32 (i : Int)) (i64 cl) = if b01 (agI T y ds i cl) = 0 then some (0, τ2) else (f_X12_draws F Z τ2 (i32 (kl : Int)) (i32 (s : Int)) (i32 (kP T)) (i32 (i : Int))).bind fun q11 => f_X12_believed_L106 F Z (G_Mb F Z d) (i32 (x : Int)) (i32 y) (i32 (i : Int)) q11.1 F q11.2 0 0 := by
      rw [G_Mb, b_X12_believed, i32_cn hx2, if_neg hx, h.2.1, i32_cn (show s ≤ 2147483647 by omega), if_neg (ix_ok (show s < 21 by omega) (by omega)), h6.2.2.2.2.2.1, if_neg (show ¬ i32 (i : Int) = i32 (kN T : Int) by rw [i32_eq (by omega)]; omega), a1, obs, if_neg hx, if_neg hx]
      dsimp only
      rw [h1.2.2.2.1, h1.2.2.1, b1, obs]
      dsimp only
      unfold agI
      cases asI (kN T) (kP T) (kS T) (kA T) 99 i with
      | false =>
        rw [b01f, if_pos rfl, if_neg hx, if_neg hx, h2.2.2.2.1, h2.2.2.1]
        rfl
      | true =>
        rw [b01t, if_neg n10, hsu, obs]
        cases decide ((sdI T y ds i cl 0 + sdI T y ds i cl (if kS T i < 1 then kS T i else 1)) % kP T = cl) with
        | true =>
          rw [b01t, if_neg n10, if_neg hx, if_neg hx, h2.2.2.2.1, h2.2.2.1]
          rfl
        | false => rfl
    rw [e0, bfI]
    cases hag : agI T y ds i cl with
    | false =>
      rw [b01f, if_pos rfl, if_neg (show ¬ false = true by decide)]
      refine ⟨τ2, rfl, fr_tr a2' b2', fun q hq => ?_, fun p hp => ?_⟩
      · rw [fr_J b2 218 rfl (by decide), fr_J a2 218 rfl (by decide)]
      · rw [fr_J b2 219 rfl (by decide), a4 p (by omega)]
    | true =>
      rw [b01t, if_neg n10, if_pos rfl]
      obtain ⟨τ3, c1, c2, c3⟩ := p_mdraws (Z := Z) (F := F) (i := i) hF1 (by omega) (by omega) h2.2.2.2.2.2.1
      rw [← h2.2.2.2.2.2.2.1] at c1
      have c2' : fr WT_ τ2 τ3 := fr_mono c2 (by decide)
      have h3 := tkM_fr h2 c2'
      have hdr := ds_rg (i := i) hT
      have hDi := hD i (by omega)
      have loop : ∀ (m z M : Nat) (υ : hSt), z + m = (dsI T i).toNat → m < M → tkM x s kl kg nl ng Bl Bg T υ → (∀ q, q < i → υ.2.1 218 q = i64 (ds q)) → (∀ q : Nat, q ≤ (kS T i).toNat → υ.2.1 219 (201 * i + q) = i64 (sdI T y ds i cl (q : Int))) → ∃ υ', f_X12_believed_L106 F Z (G_Mb F Z d) (i32 (x : Int)) (i32 y) (i32 (i : Int)) (i32 (dsI T i)) M υ (i32 (sB (fun d => bfI T y k (i + 1) (uI ds i (d : Int)) (nxI T y ds i cl (d : Int))) z)) (i32 (z : Int)) = some (i32 (sB (fun d => bfI T y k (i + 1) (uI ds i (d : Int)) (nxI T y ds i cl (d : Int))) (dsI T i).toNat), υ') ∧ fr WT_ υ υ' ∧ (∀ q, q < i → υ'.2.1 218 q = υ.2.1 218 q) ∧ (∀ p, p < 201 * i → υ'.2.1 219 p = υ.2.1 219 p) := by
        intro m
        induction m with
        | zero =>
          intro z M υ hz1 hM g1 g2 g3
          obtain ⟨M, rfl⟩ : ∃ q, M = q + 1 := ⟨M - 1, by omega⟩
          obtain rfl : z = (dsI T i).toNat := by omega
          refine ⟨υ, ?_, fr_rf _ _, fun _ _ => rfl, fun _ _ => rfl⟩
          rw [f_X12_believed_L106, if_pos (show i32 (dsI T i) ≤ i32 ((dsI T i).toNat : Int) by rw [i32_le (by omega)]; omega)]
        | succ m ihm =>
          intro z M υ hz1 hM g1 g2 g3
          obtain ⟨M, rfl⟩ : ∃ q, M = q + 1 := ⟨M - 1, by omega⟩
          have f0 : fr WT_ υ (sJ υ 218 i (i64 (z : Int))) := fr_sJ _ _ (by rw [cd_a rfl]; decide)
          obtain ⟨υ1, w1, w2⟩ := p_mnext (F := F) (Z := Z) (y := y) (cl := cl) (d := (z : Int)) (ds := ds) hF1 hT hi (by omega) (tkM_fr g1 f0) (fun q hq => by rw [sJ_r _ _ (by omega)]; exact g3 q hq) (sJ_t _ _ ⟨rfl, rfl⟩)
          have w2' : fr WT_ υ υ1 := fr_tr f0 (fr_mono w2 (by decide))
          have k1 := tkM_fr g1 w2'
          have e218 : ∀ q, q ≠ i → υ1.2.1 218 q = υ.2.1 218 q := fun q hq => by rw [fr_J w2 218 rfl (by decide), sJ_j _ _ (by omega)]
          have e219 : ∀ q, υ1.2.1 219 q = υ.2.1 219 q := fun q => by rw [fr_J w2 219 rfl (by decide), sJ_r _ _ (by omega)]
          obtain ⟨υ2, v1, v2, v3, v4⟩ := ih (i + 1) d υ1 (uI ds i (z : Int)) (nxI T y ds i cl (z : Int)) (by omega) (by omega) hD k1 (nx_rg hT) (fun x => by
            by_cases e : x = i
            · rw [uI_t _ _ e]; omega
            · rw [uI_f _ _ (by omega)]; exact hds x) (fun q hq => by
            by_cases e : q = i
            · rw [uI_t _ _ e, e, fr_J w2 218 rfl (by decide), sJ_t _ _ ⟨rfl, rfl⟩]
            · rw [uI_f _ _ (by omega), e218 q e]; exact g2 q (by omega))
          obtain ⟨υ3, t1, t2, t3, t4⟩ := ihm (z + 1) M υ2 (by omega) (by omega) (tkM_fr k1 v2) (fun q hq => by rw [v3 q (by omega), e218 q (by omega)]; exact g2 q hq) (fun q hq => by
            have hS := hT.2.2.2.2.2.1 i (by omega)
            rw [v4 _ (by omega), e219]; exact g3 q hq)
          refine ⟨υ3, ?_, fr_tr w2' (fr_tr v2 t2), fun q hq => by rw [t3 q hq, v3 q (by omega), e218 q (by omega)], fun p hp => by rw [t4 p hp, v4 p (by omega), e219]⟩
          rw [f_X12_believed_L106, if_neg (show ¬ i32 (dsI T i) ≤ i32 (z : Int) by rw [i32_le (by omega)]; omega), i32_cn (show i ≤ 2147483647 by omega), if_neg (ix_ok (show i < 6 by omega) (by omega)), i32_l (by omega), w1, obs]
          dsimp only
          rw [ip1, v1, obs]
          dsimp only
          rw [i32_add, ip1]
          exact t1
      obtain ⟨υ', t1, t2, t3, t4⟩ := loop (dsI T i).toNat 0 F τ3 (by omega) (by omega) h3 (fun q hq => by
        rw [fr_J c2 218 rfl (by decide), fr_J b2 218 rfl (by decide), fr_J a2 218 rfl (by decide)]; exact h4 q hq) (fun q hq => by
        rw [fr_J c2 219 rfl (by decide)]; exact s2 q hq)
      rw [c1, obs]
      refine ⟨υ', t1, fr_tr a2' (fr_tr b2' (fr_tr c2' t2)), fun q hq => ?_, fun p hp => ?_⟩
      · rw [t3 q hq, fr_J c2 218 rfl (by decide), fr_J b2 218 rfl (by decide), fr_J a2 218 rfl (by decide)]
      · rw [t4 p hp, fr_J c2 219 rfl (by decide), fr_J b2 219 rfl (by decide), a4 p (by omega)]
