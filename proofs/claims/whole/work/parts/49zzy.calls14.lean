/-! TALKS and NETS told anew, model -/
theorem JLm_K {A : HA} {τ : hSt} {t : Nat × Int × Nat × Nat} (h : JLm A τ) (ho : JLo A) : JLm (upK A t) τ := by
  unfold JLm at h ⊢
  unfold JLo at ho
  have ea : aL (upK A t) = aL A := rfl
  rw [ea]
  cases e : aL A with
  | none => rw [e] at h; exact h
  | some L =>
    rw [e] at h ho
    dsimp only at h ho ⊢
    refine ⟨h.1, fun x hx q hq => h.2 x hx q ?_⟩
    have h1 := ho.1
    have es : fK (upK A t) L.1 = fK A L.1 := by
      show (if L.1 = nK_ A then t else fK A L.1) = _
      rw [if_neg (by omega)]
    rw [es] at hq
    exact hq
/-- what a TALK must be of -/
def okK (A : HA) (z1 z2 z3 z4 : Int) : Prop := (0 ≤ z1 ∧ z1 < nS_ A) ∧ (3 ≤ z2 ∧ z2 ≤ 1000000007 ∧ nPr z2.toNat) ∧ (0 ≤ z3 ∧ z3 < nL_ A) ∧ (0 ≤ z4 ∧ z4 < nG_ A) ∧ ∀ j, j < nmL (fS A z1.toNat) → (cnL j (fS A z1.toNat) : Int) < z2
theorem p_mtalkL {τ : hSt} {s nm : Nat} {y3 y4 : Int32} {p : Int} {C : List Int} {K : Option (Int32 × hSt)} (hs : s ≤ 20) (hn : nm ≤ 6) (hp : 3 ≤ p ∧ p ≤ 1000000007) (h4 : τ.1 204 s = i32 (nm : Int)) (h5 : ∀ j, j < 6 → τ.1 205 (6 * s + j) = i32 (cnL j C : Int)) (h6 : ∀ j, j < 6 → cnL j C ≤ 100) : ∀ (k o M : Nat), o + k = nm → k < M → ((∀ j, o ≤ j → j < nm → (cnL j C : Int) < p) → f_X12_talk_L67 τ (i32 (s : Int)) (i32 p) y3 y4 K M (i32 (o : Int)) = K) ∧ (¬ (∀ j, o ≤ j → j < nm → (cnL j C : Int) < p) → f_X12_talk_L67 τ (i32 (s : Int)) (i32 p) y3 y4 K M (i32 (o : Int)) = some (-1, τ)) := by
  intro k
  induction k with
  | zero =>
    intro o M ho hM
    obtain ⟨M, rfl⟩ : ∃ q, M = q + 1 := ⟨M - 1, by omega⟩
    obtain rfl : o = nm := by omega
    refine ⟨fun _ => ?_, fun c => absurd (fun j h1 h2 => by omega) c⟩
    rw [f_X12_talk_L67, i32_cn (by omega), if_neg (ix_ok (show s < 21 by omega) (by omega)), h4, if_pos (Int32.le_refl _)]
  | succ k ih =>
    intro o M ho hM
    obtain ⟨M, rfl⟩ : ∃ q, M = q + 1 := ⟨M - 1, by omega⟩
    obtain ⟨i1, i2⟩ := ih (o + 1) M (by omega) (by omega)
    have hq2 : (6 : Int32) * i32 (s : Int) + i32 (o : Int) = i32 ((6 * s + o : Nat) : Int) := by rw [show (6 : Int32) = i32 6 from rfl, i32_mul, i32_add]; rfl
    have e0 : f_X12_talk_L67 τ (i32 (s : Int)) (i32 p) y3 y4 K (M + 1) (i32 (o : Int)) = if i32 (cnL o C : Int) < i32 p then f_X12_talk_L67 τ (i32 (s : Int)) (i32 p) y3 y4 K M (i32 ((o + 1 : Nat) : Int)) else some (-1, τ) := by
      rw [f_X12_talk_L67, i32_cn (by omega), if_neg (ix_ok (show s < 21 by omega) (by omega)), h4, if_neg (mt (leI (by omega)).mp (by omega)), hq2, i32_cn (by omega), if_neg (ix_ok (show 6 * s + o < 126 by omega) (by omega)), h5 o (by omega), ip1]
    have ho6 := h6 o (by omega)
    rw [e0]
    refine ⟨fun c => ?_, fun c => ?_⟩
    · rw [if_pos ((ltI (by omega)).mpr (c o (Nat.le_refl _) (by omega)))]
      exact i1 (fun j h1 h2 => c j (by omega) h2)
    · by_cases d : (cnL o C : Int) < p
      · rw [if_pos ((ltI (by omega)).mpr d)]
        refine i2 (fun q => c (fun j h1 h2 => ?_))
        by_cases e : j = o
        · rw [e]; exact d
        · exact q j (by omega) h2
      · rw [if_neg (mt (ltI (by omega)).mp d)]
theorem q_mtalk {A : HA} {Z : hZ} {σ τ : hSt} {F : Nat} (hF : 50000 ≤ F) (h : J A Z σ τ) {z1 z2 z3 z4 : Int} (hz1 : -2147483648 ≤ z1 ∧ z1 ≤ 2147483647) (hz2 : -2147483648 ≤ z2 ∧ z2 ≤ 2147483647) (hz3 : -2147483648 ≤ z3 ∧ z3 ≤ 2147483647) (hz4 : -2147483648 ≤ z4 ∧ z4 ≤ 2147483647) : ((nK_ A = 12 ∨ ¬ okK A z1 z2 z3 z4) → ∃ τ', f_X12_talk F Z τ (i32 z1) (i32 z2) (i32 z3) (i32 z4) = some (-1, τ') ∧ JM A τ') ∧ ((¬ nK_ A = 12 ∧ okK A z1 z2 z3 z4) → ∃ τ', f_X12_talk F Z τ (i32 z1) (i32 z2) (i32 z3) (i32 z4) = some (i32 (nK_ A : Int), τ') ∧ JM (upK A (z1.toNat, z2, z3.toNat, z4.toNat)) τ') := by
  have hK := h.1.2.2.2.2.2.2.1
  have hS := h.1.1
  have hL := h.1.2.2.1
  have hG := h.1.2.2.2.2.1
  have t0 := J_0 h 0
  have m5 := h.2.2.2.1.2.2.2.2.1.1
  have m2' := t0.2.2.2.1.2.1
  have m3 := h.2.2.2.1.2.2.1.1
  have m4 := h.2.2.2.1.2.2.2.1.1
  have e0 : f_X12_talk F Z τ (i32 z1) (i32 z2) (i32 z3) (i32 z4) = (if i32 (nK_ A : Int) = (12 : Int32) then some ((-1 : Int32), (sI τ 200 0 0)) else if decide (0 ≤ z1 ∧ z1 < (nS_ A : Int)) = true then (if prM z2 = (0 : Int32) then some ((-1 : Int32), (sI τ 200 0 0)) else if decide (0 ≤ z3 ∧ z3 ≤ (nL_ A : Int) - 1) = true then (if decide (0 ≤ z4 ∧ z4 ≤ (nG_ A : Int) - 1) = true then f_X12_talk_L67 (sI τ 200 0 0) (i32 z1) (i32 z2) (i32 z3) (i32 z4) (if i32 (nK_ A : Int) < 0 ∨ 12 ≤ (i32 (nK_ A : Int)).toNatClampNeg then none else if i32 (nK_ A : Int) < 0 ∨ 12 ≤ (i32 (nK_ A : Int)).toNatClampNeg then none else if i32 (nK_ A : Int) < 0 ∨ 12 ≤ (i32 (nK_ A : Int)).toNatClampNeg then none else if i32 (nK_ A : Int) < 0 ∨ 12 ≤ (i32 (nK_ A : Int)).toNatClampNeg then none else some (((i32 (nK_ A : Int) + (1 : Int32)) - (1 : Int32)), (sI (sI (sI (sI (sI (sI τ 200 0 0) 214 ((i32 (nK_ A : Int)).toNatClampNeg) (i32 z1)) 215 ((i32 (nK_ A : Int)).toNatClampNeg) (i32 z2)) 216 ((i32 (nK_ A : Int)).toNatClampNeg) (i32 z3)) 217 ((i32 (nK_ A : Int)).toNatClampNeg) (i32 z4)) 200 36 (i32 (nK_ A : Int) + (1 : Int32))))) F 0 else some ((-1 : Int32), (sI τ 200 0 0))) else some ((-1 : Int32), (sI τ 200 0 0))) else some ((-1 : Int32), (sI τ 200 0 0))) := by
    unfold f_X12_talk
    rw [m5, p_misS m2'.1 (by omega) hz1, obs, p_isRing (by omega) hz2, obs, m3, m4, i32_l hz3, i32_l hz4, show i32 (nL_ A : Int) - (1 : Int32) = i32 ((nL_ A : Int) - 1) by rw [show (1 : Int32) = i32 1 from rfl, i32_sub], show i32 (nG_ A : Int) - (1 : Int32) = i32 ((nG_ A : Int) - 1) by rw [show (1 : Int32) = i32 1 from rfl, i32_sub], i32_l (by omega), i32_l (by omega), show f_X12_isIn (i64 z3) 0 (i64 ((nL_ A : Int) - 1)) = _ from p_isIn (a := 0) (by omega) (by omega) (by omega), show f_X12_isIn (i64 z4) 0 (i64 ((nG_ A : Int) - 1)) = _ from p_isIn (a := 0) (by omega) (by omega) (by omega), obs, obs]
    by_cases c0 : i32 (nK_ A : Int) = (12 : Int32)
    · rw [if_pos c0, if_pos c0]
    · rw [if_neg c0, if_neg c0]
      cases decide (0 ≤ z1 ∧ z1 < (nS_ A : Int)) with
      | false => rfl
      | true =>
        rw [b01t, if_neg n10, if_pos rfl]
        by_cases c1 : prM z2 = (0 : Int32)
        · rw [if_pos c1, if_pos c1]
        · rw [if_neg c1, if_neg c1]
          cases decide (0 ≤ z3 ∧ z3 ≤ (nL_ A : Int) - 1) with
          | false => rfl
          | true =>
            rw [b01t, if_neg n10, if_pos rfl]
            cases decide (0 ≤ z4 ∧ z4 ≤ (nG_ A : Int) - 1) with
            | false => rfl
            | true => rw [b01t, if_neg n10, if_pos rfl]
  rw [e0]
  by_cases c0 : nK_ A = 12
  · rw [if_pos (show i32 (nK_ A : Int) = (12 : Int32) by rw [c0]; rfl)]
    exact ⟨fun _ => ⟨_, rfl, t0.2.2.2.1⟩, fun q => absurd c0 q.1⟩
  · rw [if_neg (show ¬ i32 (nK_ A : Int) = (12 : Int32) from mt (eqI (b := 12) (by omega)).mp (by omega))]
    by_cases c1 : 0 ≤ z1 ∧ z1 < (nS_ A : Int)
    · rw [if_pos (decide_eq_true c1)]
      rcases prM_c z2 with e | ⟨e, hp, hpr⟩
      · rw [if_pos e]
        refine ⟨fun _ => ⟨_, rfl, t0.2.2.2.1⟩, fun q => absurd e ?_⟩
        obtain ⟨-, -, ⟨q1, q2, q3⟩, -⟩ := q
        unfold prM
        rw [if_pos ⟨q1, q2⟩, pri_t q3]
        exact n10
      · rw [if_neg (show ¬ prM z2 = 0 by rw [e]; exact n10)]
        by_cases c3 : 0 ≤ z3 ∧ z3 ≤ (nL_ A : Int) - 1
        · rw [if_pos (decide_eq_true c3)]
          by_cases c4 : 0 ≤ z4 ∧ z4 ≤ (nG_ A : Int) - 1
          · rw [if_pos (decide_eq_true c4)]
            obtain ⟨s, rfl⟩ : ∃ s : Nat, z1 = (s : Int) := ⟨z1.toNat, by omega⟩
            have hs : s < nS_ A := by omega
            have hC := h.1.2.1 s hs
            have hm' := m2'.2 s hs
            have hnm := (nmB_of hC.2).1
            have hx := ix_ok (show nK_ A < 12 by omega) (show nK_ A ≤ 100000 by omega)
            obtain ⟨k1, k2⟩ := p_mtalkL (τ := sI τ 200 0 0) (s := s) (y3 := i32 z3) (y4 := i32 z4) (p := z2) (C := fS A s) (K := (if i32 (nK_ A : Int) < 0 ∨ 12 ≤ (i32 (nK_ A : Int)).toNatClampNeg then none else if i32 (nK_ A : Int) < 0 ∨ 12 ≤ (i32 (nK_ A : Int)).toNatClampNeg then none else if i32 (nK_ A : Int) < 0 ∨ 12 ≤ (i32 (nK_ A : Int)).toNatClampNeg then none else if i32 (nK_ A : Int) < 0 ∨ 12 ≤ (i32 (nK_ A : Int)).toNatClampNeg then none else some (((i32 (nK_ A : Int) + (1 : Int32)) - (1 : Int32)), (sI (sI (sI (sI (sI (sI τ 200 0 0) 214 ((i32 (nK_ A : Int)).toNatClampNeg) (i32 (s : Int))) 215 ((i32 (nK_ A : Int)).toNatClampNeg) (i32 z2)) 216 ((i32 (nK_ A : Int)).toNatClampNeg) (i32 z3)) 217 ((i32 (nK_ A : Int)).toNatClampNeg) (i32 z4)) 200 36 (i32 (nK_ A : Int) + (1 : Int32)))))) (by omega) hnm (by omega) hm'.2.2.2.2.1 hm'.2.2.2.2.2.1 (fun j hj => cn_100 hj hC.2) (nmL (fS A s)) 0 F (by omega) (by omega)
            have k1' := fun q => Eq.trans (show f_X12_talk_L67 (sI τ 200 0 0) (i32 (s : Int)) (i32 z2) (i32 z3) (i32 z4) _ F 0 = _ from rfl) (k1 q)
            have k2' := fun q => Eq.trans (show f_X12_talk_L67 (sI τ 200 0 0) (i32 (s : Int)) (i32 z2) (i32 z3) (i32 z4) _ F 0 = _ from rfl) (k2 q)
            constructor
            · rintro (q | q)
              · exact absurd q c0
              · refine ⟨_, k2' (fun g => q ⟨c1, ⟨hp.1, hp.2, hpr⟩, ⟨c3.1, by omega⟩, ⟨c4.1, by omega⟩, fun j hj => ?_⟩), t0.2.2.2.1⟩
                have hj' : j < nmL (fS A s) := hj
                exact g j (Nat.zero_le _) hj'
            · rintro ⟨-, q⟩
              have ev : i32 ((nK_ A + 1 : Nat) : Int) - (1 : Int32) = i32 (nK_ A : Int) := by rw [show (1 : Int32) = i32 1 from rfl, i32_sub]; congr 1; omega
              refine ⟨sI (sI (sI (sI (sI (sI τ 200 0 0) 214 (nK_ A) (i32 (s : Int))) 215 (nK_ A) (i32 z2)) 216 (nK_ A) (i32 z3)) 217 (nK_ A) (i32 z4)) 200 36 (i32 ((nK_ A + 1 : Nat) : Int)), Eq.trans (k1' (fun j _ hj => q.2.2.2.2 j hj)) ?_, ?_⟩
              · rw [i32_cn (by omega), if_neg hx, if_neg hx, if_neg hx, if_neg hx, ip1, ev]
              · obtain ⟨a, ⟨e1, e2⟩, ⟨d1, d2⟩, ⟨g1, g2⟩, ⟨b1, b2⟩, ⟨i1, i2⟩, ⟨j1, j2⟩, j, k⟩ := t0.2.2.2.1
                have f : fr [214, 215, 216, 217, 30036] (sI τ 200 0 0) (sI (sI (sI (sI (sI (sI τ 200 0 0) 214 (nK_ A) (i32 (s : Int))) 215 (nK_ A) (i32 z2)) 216 (nK_ A) (i32 z3)) 217 (nK_ A) (i32 z4)) 200 36 (i32 ((nK_ A + 1 : Nat) : Int))) := fr_tr (fr_tr (fr_tr (fr_tr (fr_sI _ _ (by rw [cd_a rfl]; decide)) (fr_sI _ _ (by rw [cd_a rfl]; decide))) (fr_sI _ _ (by rw [cd_a rfl]; decide))) (fr_sI _ _ (by rw [cd_a rfl]; decide))) (fr_sI _ _ (by decide))
                refine ⟨tpM_W a f (by decide) (by decide), ⟨by rw [f.1 200 15 (by decide)]; exact e1, fun s hs => sgM_W (e2 s hs) f (by decide) (by decide) (by decide) (by decide) (by decide)⟩, ⟨by rw [f.1 200 25 (by decide)]; exact d1, fun k hk => kpM_W (d2 k hk) f (by decide) (by decide)⟩, ⟨by rw [f.1 200 26 (by decide)]; exact g1, fun k hk => kpM_W (g2 k hk) f (by decide) (by decide)⟩, ⟨sI_t _ _ ⟨rfl, rfl⟩, fun x hx => ?_⟩, ⟨by rw [f.1 200 58 (by decide)]; exact i1, fun i hi => ?_⟩, ⟨by rw [f.1 200 20 (by decide)]; exact j1, fun j hj => ?_⟩, f.2.2.2 j, JLm_K (JLm_X k f (by decide) (by decide) (by decide) (by decide) (by decide) (by decide) (by decide) (by decide) (by decide)) h.2.2.2.2⟩
                · have hx' : x < nK_ A + 1 := hx
                  have ef : fK (upK A ((s : Int).toNat, z2, z3.toNat, z4.toNat)) x = if x = nK_ A then ((s : Int).toNat, z2, z3.toNat, z4.toNat) else fK A x := rfl
                  rw [ef]
                  by_cases g : x = nK_ A
                  · rw [if_pos g]
                    refine ⟨?_, ?_, ?_, ?_⟩
                    · rw [sI_r _ _ (by omega), sI_r _ _ (by omega), sI_r _ _ (by omega), sI_r _ _ (by omega), sI_t _ _ ⟨rfl, g⟩]; show i32 (s : Int) = i32 (((s : Int).toNat : Nat) : Int); rw [Int.toNat_natCast]
                    · rw [sI_r _ _ (by omega), sI_r _ _ (by omega), sI_r _ _ (by omega), sI_t _ _ ⟨rfl, g⟩]
                    · rw [sI_r _ _ (by omega), sI_r _ _ (by omega), sI_t _ _ ⟨rfl, g⟩]; show i32 z3 = i32 ((z3.toNat : Nat) : Int); congr 1; omega
                    · rw [sI_r _ _ (by omega), sI_t _ _ ⟨rfl, g⟩]; show i32 z4 = i32 ((z4.toNat : Nat) : Int); congr 1; omega
                  · rw [if_neg g]
                    obtain ⟨w1, w2, w3, w4⟩ := b2 x (by omega)
                    refine ⟨?_, ?_, ?_, ?_⟩
                    · rw [sI_r _ _ (by omega), sI_r _ _ (by omega), sI_r _ _ (by omega), sI_r _ _ (by omega), sI_j _ _ (by omega)]; exact w1
                    · rw [sI_r _ _ (by omega), sI_r _ _ (by omega), sI_r _ _ (by omega), sI_j _ _ (by omega), sI_r _ _ (by omega)]; exact w2
                    · rw [sI_r _ _ (by omega), sI_r _ _ (by omega), sI_j _ _ (by omega), sI_r _ _ (by omega), sI_r _ _ (by omega)]; exact w3
                    · rw [sI_r _ _ (by omega), sI_j _ _ (by omega), sI_r _ _ (by omega), sI_r _ _ (by omega), sI_r _ _ (by omega)]; exact w4
                · rw [fr_I f 222 rfl (by decide), fr_I f 223 rfl (by decide)]
                  exact i2 i hi
                · rw [fr_I f 209 rfl (by decide)]
                  exact j2 j hj
          · rw [if_neg (show ¬ decide (0 ≤ z4 ∧ z4 ≤ (nG_ A : Int) - 1) = true by rw [decide_eq_false c4]; decide)]
            exact ⟨fun _ => ⟨_, rfl, t0.2.2.2.1⟩, fun q => absurd ⟨q.2.2.2.2.1.1, by have := q.2.2.2.2.1.2; omega⟩ c4⟩
        · rw [if_neg (show ¬ decide (0 ≤ z3 ∧ z3 ≤ (nL_ A : Int) - 1) = true by rw [decide_eq_false c3]; decide)]
          exact ⟨fun _ => ⟨_, rfl, t0.2.2.2.1⟩, fun q => absurd ⟨q.2.2.2.1.1, by have := q.2.2.2.1.2; omega⟩ c3⟩
    · rw [if_neg (show ¬ decide (0 ≤ z1 ∧ z1 < (nS_ A : Int)) = true by rw [decide_eq_false c1]; decide)]
      exact ⟨fun _ => ⟨_, rfl, t0.2.2.2.1⟩, fun q => absurd q.2.1 c1⟩
def okN (z1 z2 : Int) : Prop := (2 ≤ z1 ∧ z1 ≤ 6) ∧ 0 ≤ z2 ∧ z2 < ((2 ^ (z1 * (z1 - 1) / 2).toNat : Nat) : Int)
theorem nt_pw : ∀ n : Nat, n < 7 → 2 ≤ n → (1 : Int32) <<< (((i32 (n : Int) * (i32 (n : Int) - 1)) / 2) &&& 31) = i32 ((2 ^ ((n : Int) * ((n : Int) - 1) / 2).toNat : Nat) : Int) ∧ 2 ^ ((n : Int) * ((n : Int) - 1) / 2).toNat ≤ 32768 := by decide
theorem q_mnet {A : HA} {Z : hZ} {σ τ : hSt} (h : J A Z σ τ) {z1 z2 : Int} (hz1 : -2147483648 ≤ z1 ∧ z1 ≤ 2147483647) (hz2 : -2147483648 ≤ z2 ∧ z2 ≤ 2147483647) : ((nN_ A = 12 ∨ ¬ okN z1 z2) → ∃ τ', f_X12_net Z τ (i32 z1) (i32 z2) = some (-1, τ') ∧ JM A τ') ∧ ((¬ nN_ A = 12 ∧ okN z1 z2) → ∃ τ', f_X12_net Z τ (i32 z1) (i32 z2) = some (i32 (nN_ A : Int), τ') ∧ JM (upN A (z1.toNat, z2.toNat)) τ') := by
  have hN := h.1.2.2.2.2.2.2.2.2.1
  have t0 := J_0 h 0
  have m6 := h.2.2.2.1.2.2.2.2.2.1.1
  unfold f_X12_net
  rw [m6, i32_l hz1, show f_X12_isIn (i64 z1) 2 6 = _ from p_isIn (a := 2) (b := 6) (by omega) (by omega) (by omega), obs]
  by_cases c0 : nN_ A = 12
  · rw [if_pos (show i32 (nN_ A : Int) = (12 : Int32) by rw [c0]; rfl)]
    exact ⟨fun _ => ⟨_, rfl, t0.2.2.2.1⟩, fun q => absurd c0 q.1⟩
  · rw [if_neg (show ¬ i32 (nN_ A : Int) = (12 : Int32) from mt (eqI (b := 12) (by omega)).mp (by omega))]
    by_cases c1 : 2 ≤ z1 ∧ z1 ≤ 6
    · obtain ⟨n, rfl⟩ : ∃ n : Nat, z1 = (n : Int) := ⟨z1.toNat, by omega⟩
      obtain ⟨p1, p2⟩ := nt_pw n (by omega) (by omega)
      rw [decide_eq_true c1, b01t, if_neg n10, p1]
      by_cases c2 : 0 ≤ z2 ∧ z2 < ((2 ^ ((n : Int) * ((n : Int) - 1) / 2).toNat : Nat) : Int)
      · have hx := ix_ok (show nN_ A < 12 by omega) (show nN_ A ≤ 100000 by omega)
        have ev : i32 ((nN_ A + 1 : Nat) : Int) - (1 : Int32) = i32 (nN_ A : Int) := by rw [show (1 : Int32) = i32 1 from rfl, i32_sub]; congr 1; omega
        rw [if_neg (show ¬ i32 z2 < (0 : Int32) from mt (ltI (b := 0) (by omega)).mp (by omega)), if_pos ((ltI (by omega)).mpr c2.2), i32_cn (by omega), if_neg hx, if_neg hx, ip1, ev]
        refine ⟨fun q => absurd ⟨c1, c2⟩ (q.resolve_left c0), fun _ => ⟨_, rfl, ?_⟩⟩
        obtain ⟨a, ⟨e1, e2⟩, ⟨d1, d2⟩, ⟨g1, g2⟩, ⟨b1, b2⟩, ⟨i1, i2⟩, ⟨j1, j2⟩, j, k⟩ := t0.2.2.2.1
        have f : fr [222, 223, 30058] (sI τ 200 0 0) (sI (sI (sI (sI τ 200 0 0) 222 (nN_ A) (i32 (n : Int))) 223 (nN_ A) (i32 z2)) 200 58 (i32 ((nN_ A + 1 : Nat) : Int))) := fr_tr (fr_tr (fr_sI _ _ (by rw [cd_a rfl]; decide)) (fr_sI _ _ (by rw [cd_a rfl]; decide))) (fr_sI _ _ (by decide))
        refine ⟨tpM_W a f (by decide) (by decide), ⟨by rw [f.1 200 15 (by decide)]; exact e1, fun s hs => sgM_W (e2 s hs) f (by decide) (by decide) (by decide) (by decide) (by decide)⟩, ⟨by rw [f.1 200 25 (by decide)]; exact d1, fun k hk => kpM_W (d2 k hk) f (by decide) (by decide)⟩, ⟨by rw [f.1 200 26 (by decide)]; exact g1, fun k hk => kpM_W (g2 k hk) f (by decide) (by decide)⟩, ⟨by rw [f.1 200 36 (by decide)]; exact b1, fun x hx => ?_⟩, ⟨sI_t _ _ ⟨rfl, rfl⟩, fun i hi => ?_⟩, ⟨by rw [f.1 200 20 (by decide)]; exact j1, fun j hj => ?_⟩, f.2.2.2 j, JLm_X k f (by decide) (by decide) (by decide) (by decide) (by decide) (by decide) (by decide) (by decide) (by decide)⟩
        · rw [fr_I f 214 rfl (by decide), fr_I f 215 rfl (by decide), fr_I f 216 rfl (by decide), fr_I f 217 rfl (by decide)]
          exact b2 x hx
        · have hi' : i < nN_ A + 1 := hi
          have ef : fN (upN A ((n : Int).toNat, z2.toNat)) i = if i = nN_ A then ((n : Int).toNat, z2.toNat) else fN A i := rfl
          rw [ef]
          by_cases g : i = nN_ A
          · rw [if_pos g]
            refine ⟨?_, ?_⟩
            · rw [sI_r _ _ (by omega), sI_r _ _ (by omega), sI_t _ _ ⟨rfl, g⟩]; show i32 (n : Int) = i32 (((n : Int).toNat : Nat) : Int); rw [Int.toNat_natCast]
            · rw [sI_r _ _ (by omega), sI_t _ _ ⟨rfl, g⟩]; show i32 z2 = i32 ((z2.toNat : Nat) : Int); congr 1; omega
          · rw [if_neg g]
            obtain ⟨w1, w2⟩ := i2 i (by omega)
            refine ⟨?_, ?_⟩
            · rw [sI_r _ _ (by omega), sI_r _ _ (by omega), sI_j _ _ (by omega)]; exact w1
            · rw [sI_r _ _ (by omega), sI_j _ _ (by omega), sI_r _ _ (by omega)]; exact w2
        · rw [fr_I f 209 rfl (by decide)]
          exact j2 j hj
      · have hpos : (0 : Int) ≤ ((2 ^ ((n : Int) * ((n : Int) - 1) / 2).toNat : Nat) : Int) := Int.natCast_nonneg _
        refine ⟨fun _ => ?_, fun q => absurd q.2.2 c2⟩
        by_cases d : z2 < 0
        · rw [if_pos (show i32 z2 < (0 : Int32) from (ltI (b := 0) (by omega)).mpr d)]
          exact ⟨_, rfl, t0.2.2.2.1⟩
        · rw [if_neg (show ¬ i32 z2 < (0 : Int32) from mt (ltI (b := 0) (by omega)).mp d), if_neg (mt (ltI (by omega)).mp (by omega))]
          exact ⟨_, rfl, t0.2.2.2.1⟩
    · rw [decide_eq_false c1, b01f, if_pos rfl]
      exact ⟨fun _ => ⟨_, rfl, t0.2.2.2.1⟩, fun q => absurd q.2.1 c1⟩
