/-! whole TALKS of the model -/
def mrG (x s kl kg nl ng : Nat) (Bl Bg : Nat → Nat) (T : TK) (y : Int) (fx : Bool) (m0 : Int64) (i n : Nat) (g : Int) (τ : hSt) : Prop := tkM x s kl kg nl ng Bl Bg T τ ∧ τ.2.1 200 44 = i64 (rnS T y fx m0 i).2.1 ∧ (∀ q, q < i → τ.2.1 218 q = i64 ((rnS T y fx m0 i).1 q)) ∧ (∀ x', x' < n → ∀ q : Nat, q ≤ (kS T x').toNat → τ.2.1 219 (201 * x' + q) = i64 (sdI T y (rnS T y fx m0 x').1 x' (rnS T y fx m0 x').2.1 (q : Int))) ∧ τ.1 200 42 = i32 (i : Int) ∧ τ.2.1 200 43 = i64 (fsI T y) ∧ τ.1 200 41 = i32 g
def WN : List Nat := 207 :: 208 :: 210 :: 213 :: 30045 :: WG
theorem WN_T : ∀ x ∈ WN, x ∈ WT_ := by decide
theorem mrG_W {x s kl kg nl ng i n : Nat} {Bl Bg : Nat → Nat} {T : TK} {y g : Int} {fx : Bool} {m0 : Int64} {τ υ : hSt} (h : mrG x s kl kg nl ng Bl Bg T y fx m0 i n g τ) (f : fr WN τ υ) : mrG x s kl kg nl ng Bl Bg T y fx m0 i n g υ := by
  obtain ⟨h1, h2, h3, h4, h5, h6, h7⟩ := h
  refine ⟨tkM_fr h1 (fr_mono f WN_T), ?_, fun q hq => ?_, fun x' hx q hq => ?_, ?_, ?_, ?_⟩
  · rw [f.2.1 200 44 (by decide)]; exact h2
  · rw [fr_J f 218 rfl (by decide)]; exact h3 q hq
  · rw [fr_J f 219 rfl (by decide)]; exact h4 x' hx q hq
  · rw [f.1 200 42 (by decide)]; exact h5
  · rw [f.2.1 200 43 (by decide)]; exact h6
  · rw [f.1 200 41 (by decide)]; exact h7
theorem p_mix {Z : hZ} {τ : hSt} {x : Int64} : f_X12_mix Z τ x = some ((), sJ τ 200 45 (mixR (τ.2.1 200 45) x)) := rfl
theorem mg_say {x s kl kg nl ng i F : Nat} {Bl Bg : Nat → Nat} {T : TK} {y g : Int} {fx : Bool} {m0 : Int64} {τ : hSt} {Z : hZ} (hF : 300 ≤ F) (hT : okT T) (hi : i < kN T) (hy : 0 ≤ y ∧ y ≤ 1000000) (h : mrG x s kl kg nl ng Bl Bg T y fx m0 i i g τ) : ∃ υ, f_X12_speaks F Z τ (i32 (x : Int)) (i32 (i : Int)) (τ.2.1 200 44) (i32 y) = some ((), υ) ∧ fr WT_ τ υ ∧ mrG x s kl kg nl ng Bl Bg T y fx m0 i (i + 1) g υ ∧ υ.2.1 200 45 = τ.2.1 200 45 := by
  have hN := hT.1
  obtain ⟨h1, h2, h3, h4, h5, h6, h7⟩ := h
  have rg := rn_rg (y := y) (fx := fx) (m0 := m0) hT i
  obtain ⟨υ, a1, a2, a3, a4⟩ := p_mspeaks (Z := Z) hF hT hi hy rg.2.2 rg.1 h1 h3
  refine ⟨υ, by rw [h2]; exact a1, fr_mono a2 WP_T, ⟨tkM_fr h1 (fr_mono a2 WP_T), ?_, fun q hq => ?_, fun x' hx q hq => ?_, ?_, ?_, ?_⟩, ?_⟩
  · rw [a2.2.1 200 44 (by decide)]; exact h2
  · rw [fr_J a2 218 rfl (by decide)]; exact h3 q hq
  · by_cases e : x' = i
    · subst e; exact a3 q hq
    · have hS := hT.2.2.2.2.2.1 x' (by omega)
      rw [a4 _ (by omega)]; exact h4 x' (by omega) q hq
  · rw [a2.1 200 42 (by decide)]; exact h5
  · rw [a2.2.1 200 43 (by decide)]; exact h6
  · rw [a2.1 200 41 (by decide)]; exact h7
  · rw [a2.2.1 200 45 (by decide)]
theorem p_mtail {x s kl kg nl ng i F : Nat} {Bl Bg : Nat → Nat} {T : TK} {y g : Int} {fx : Bool} {m0 : Int64} {τ : hSt} {Z : hZ} {L : hSt → Option (Int32 × hSt)} (hF : 300 ≤ F) (hT : okT T) (hi : i < kN T) (h : mrG x s kl kg nl ng Bl Bg T y fx m0 i (i + 1) g τ) (hm : τ.2.1 200 45 = miR T y fx i (rnS T y fx m0 i)) : ∃ υ, ((f_X12_draws F Z τ (τ.1 216 x) (i32 (s : Int)) (τ.1 215 x) (i32 (i : Int))).bind fun q27 => if (q27.1 : Int32).toInt64 = (0 : Int64) then none else if i32 (i : Int) < (0 : Int32) ∨ 6 ≤ i then none else (f_X12_nextClaim F Z (sI (sJ q27.2 218 i ((((τ.2.1 200 45)).toUInt64 >>> ((33 : Int32).toInt64.toUInt64 &&& Int64.toUInt64 63)).toInt64 - (((τ.2.1 200 45)).toUInt64 >>> ((33 : Int32).toInt64.toUInt64 &&& Int64.toUInt64 63)).toInt64 / (q27.1 : Int32).toInt64 * (q27.1 : Int32).toInt64)) 200 42 ((q27.2.1 200 42) + (1 : Int32))) (i32 (x : Int)) (i32 (i : Int))).bind fun q30 => L (sJ q30.2 200 44 q30.1)) = L υ ∧ fr WT_ τ υ ∧ mrG x s kl kg nl ng Bl Bg T y fx m0 (i + 1) (i + 1) g υ ∧ υ.2.1 200 45 = τ.2.1 200 45 := by
  have hN := hT.1
  have hP := hT.2.2.1
  obtain ⟨h1, h2, h3, h4, h5, h6, h7⟩ := h
  have k6 := h1.2.2.2.2.2.1
  obtain ⟨τ1, a1, a2, a3⟩ := p_mdraws (Z := Z) (F := F) (i := i) hF (by omega) (by omega) k6
  rw [← h1.2.2.2.2.2.2.1] at a1
  have a2' : fr WN τ τ1 := fr_mono a2 (by decide)
  have hd := ds_rg (i := i) hT
  have hdv : dcI (kN T) (kP T) (kS T) (kA T) i = dsI T i := rfl
  have hq := mod_rg (shI (miR T y fx i (rnS T y fx m0 i))) (show 0 < dsI T i by omega)
  obtain ⟨τ2, hτ2⟩ : ∃ τ2, τ2 = sI (sJ τ1 218 i (i64 (shI (miR T y fx i (rnS T y fx m0 i)) % dsI T i))) 200 42 (i32 ((i + 1 : Nat) : Int)) := ⟨_, rfl⟩
  have f2 : fr WT_ τ τ2 := by
    rw [hτ2]
    exact fr_tr (fr_mono a2' WN_T) (fr_tr (fr_sJ _ _ (by rw [cd_a rfl]; decide)) (fr_sI _ _ (by decide)))
  have e219 : ∀ q, τ2.2.1 219 q = τ.2.1 219 q := fun q => by rw [hτ2, sI_2, sJ_r _ _ (by omega), fr_J a2' 219 rfl (by decide)]
  have e218 : ∀ q, q ≠ i → τ2.2.1 218 q = τ.2.1 218 q := fun q hq => by rw [hτ2, sI_2, sJ_j _ _ (by omega), fr_J a2' 218 rfl (by decide)]
  have e218i : τ2.2.1 218 i = i64 (shI (miR T y fx i (rnS T y fx m0 i)) % dsI T i) := by rw [hτ2, sI_2, sJ_t _ _ ⟨rfl, rfl⟩]
  obtain ⟨τ3, b1, b2⟩ := p_mnext (F := F) (Z := Z) (y := y) (cl := (rnS T y fx m0 i).2.1) (ds := (rnS T y fx m0 i).1) hF hT hi (by omega) (tkM_fr h1 f2) (fun q hq => by rw [e219]; exact h4 i (by omega) q hq) e218i
  have f3 : fr WT_ τ τ3 := fr_tr f2 (fr_mono b2 (by decide))
  refine ⟨sJ τ3 200 44 (i64 (nxI T y (rnS T y fx m0 i).1 i (rnS T y fx m0 i).2.1 (shI (miR T y fx i (rnS T y fx m0 i)) % dsI T i))), ?_, fr_tr f3 (fr_sJ _ _ (by decide)), ⟨tkM_fr h1 (fr_tr f3 (fr_sJ _ _ (by decide))), ?_, fun q hq => ?_, fun x' hx q hq => ?_, ?_, ?_, ?_⟩, ?_⟩
  · rw [h1.2.2.2.1, h1.2.2.1, a1, obs]
    dsimp only
    rw [hdv, i32_l (by omega), if_neg (show ¬ i64 (dsI T i) = (0 : Int64) by rw [show (0 : Int64) = i64 0 from rfl, i64_eq (by omega)]; omega), if_neg (ix_ok (show i < 6 by omega) (by omega)), dr_v (by omega), hm, a2'.1 200 42 (by decide), h5, ip1, ← hτ2, b1, obs]
  · rw [sJ_t _ _ ⟨rfl, rfl⟩]; rfl
  · rw [sJ_r _ _ (by omega), fr_J b2 218 rfl (by decide), rnS]
    dsimp only
    by_cases e : q = i
    · rw [uI_t _ _ e, e]; exact e218i
    · rw [uI_f _ _ (by omega), e218 q e]; exact h3 q (by omega)
  · rw [sJ_r _ _ (by omega), fr_J b2 219 rfl (by decide), e219]; exact h4 x' hx q hq
  · rw [sJ_1, b2.1 200 42 (by decide), hτ2, sI_t _ _ ⟨rfl, rfl⟩]
  · rw [sJ_j _ _ (by omega), b2.2.1 200 43 (by decide), hτ2, sI_2, sJ_r _ _ (by omega), a2'.2.1 200 43 (by decide)]; exact h6
  · rw [sJ_1, b2.1 200 41 (by decide), hτ2, sI_j _ _ (by omega), sJ_1, a2'.1 200 41 (by decide)]; exact h7
  · rw [sJ_j _ _ (by omega), b2.2.1 200 45 (by decide), hτ2, sI_2, sJ_r _ _ (by omega), a2.2.1 200 45 (by decide)]
theorem p_mgo93 {x s kl kg nl ng i : Nat} {Bl Bg : Nat → Nat} {T : TK} {y : Int} {m0 : Int64} {y5 : Int32} {Z : hZ} {K : hSt → Option (Int32 × hSt)} (hT : okT T) (hi : i < kN T) : ∀ (k j M : Nat) (τ : hSt), j + k = (kS T i).toNat + 1 → k < M → mrG x s kl kg nl ng Bl Bg T y true m0 i (i + 1) (-1) τ → ∃ υ, fr [30045] τ υ ∧ mrG x s kl kg nl ng Bl Bg T y true m0 i (i + 1) (-1) υ ∧ υ.2.1 200 45 = foldM (fun j => sdI T y (rnS T y true m0 i).1 i (rnS T y true m0 i).2.1 j) k j (τ.2.1 200 45) ∧ f_X12_goes_L93 Z (i32 (x : Int)) 1 y5 (i32 (s : Int)) (i32 (i : Int)) K M τ (i32 (j : Int)) = K υ := by
  have hN := hT.1
  have hS := hT.2.2.2.2.2.1 i (by omega)
  intro k
  induction k with
  | zero =>
    intro j M τ hj hM h
    obtain ⟨M, rfl⟩ : ∃ q, M = q + 1 := ⟨M - 1, by omega⟩
    have h6 := h.1.2.2.2.2.2.1
    have hs20 := h6.2.2.1
    have hq : (6 : Int32) * i32 (s : Int) + i32 (i : Int) = i32 ((6 * s + i : Nat) : Int) := by rw [show (6 : Int32) = i32 6 from rfl, i32_mul, i32_add]; rfl
    refine ⟨τ, fr_rf _ _, h, (foldM_0 _ _ _).symm, ?_⟩
    rw [f_X12_goes_L93, hq, i32_cn (by omega), if_neg (ix_ok (show 6 * s + i < 126 by omega) (by omega)), (h6.2.2.2.2.2.2 i (by omega)).1, if_pos (show i32 (kS T i) < i32 (j : Int) by rw [i32_lt (by omega)]; omega)]
  | succ k ih =>
    intro j M τ hj hM h
    obtain ⟨M, rfl⟩ : ∃ q, M = q + 1 := ⟨M - 1, by omega⟩
    have h6 := h.1.2.2.2.2.2.1
    have hs20 := h6.2.2.1
    have hq : (6 : Int32) * i32 (s : Int) + i32 (i : Int) = i32 ((6 * s + i : Nat) : Int) := by rw [show (6 : Int32) = i32 6 from rfl, i32_mul, i32_add]; rfl
    have hq2 : (201 : Int32) * i32 (i : Int) + i32 (j : Int) = i32 ((201 * i + j : Nat) : Int) := by rw [show (201 : Int32) = i32 201 from rfl, i32_mul, i32_add]; rfl
    have hv := h.2.2.2.1 i (by omega) j (by omega)
    have f1 : fr [30045] τ (sJ τ 200 45 (mixI (τ.2.1 200 45) (sdI T y (rnS T y true m0 i).1 i (rnS T y true m0 i).2.1 (j : Int)))) := fr_sJ _ _ (by decide)
    obtain ⟨υ, e1, e2, e3, e4⟩ := ih (j + 1) M (sJ τ 200 45 (mixI (τ.2.1 200 45) (sdI T y (rnS T y true m0 i).1 i (rnS T y true m0 i).2.1 (j : Int)))) (by omega) (by omega) (mrG_W h (fr_mono f1 (by decide)))
    refine ⟨υ, fr_tr f1 e1, e2, ?_, ?_⟩
    · rw [e3, sJ_t _ _ ⟨rfl, rfl⟩, foldM_s]
    · rw [f_X12_goes_L93, hq, i32_cn (show 6 * s + i ≤ 2147483647 by omega), if_neg (ix_ok (show 6 * s + i < 126 by omega) (by omega)), (h6.2.2.2.2.2.2 i (by omega)).1, if_neg (show ¬ i32 (kS T i) < i32 (j : Int) by rw [i32_lt (by omega)]; omega), if_neg n10, hq2, i32_cn (show 201 * i + j ≤ 2147483647 by omega), if_neg (ix_ok (show 201 * i + j < 1206 by omega) (by omega)), hv, p_mix, obs, ip1]
      exact e4
