/-! reading a SAYING leaves those told before it -/
theorem ib {α β : Type} {o : Option α} {k : α → Option β} {x : β} (h : o.bind k = some x) : ∃ q, o = some q ∧ k q = some x := by
  cases o with
  | none => cases h
  | some q => exact ⟨q, rfl, h⟩
def pS (R : Nat) (τ0 τ : hSt) : Prop := τ.1 200 16 = i32 (R : Int) ∧ (∃ k : Nat, k ≤ 4200 ∧ τ.1 203 R = i32 (k : Int)) ∧ (∀ i, i < 200 * R → τ.1 202 i = τ0.1 202 i) ∧ (∀ s, s < R → τ.1 203 s = τ0.1 203 s ∧ τ.1 204 s = τ0.1 204 s ∧ τ.1 206 s = τ0.1 206 s) ∧ (∀ i, i < 6 * R → τ.1 205 i = τ0.1 205 i)
theorem pS_w {R j : Nat} {τ0 τ : hSt} {v : Int32} (h : pS R τ0 τ) (hj : j ≠ 16) : pS R τ0 (sI τ 200 j v) := by
  obtain ⟨a, ⟨k, b1, b2⟩, c, d, e⟩ := h
  refine ⟨by rw [sI_j _ _ (by omega)]; exact a, ⟨k, b1, by rw [sI_r _ _ (by omega)]; exact b2⟩, fun i hi => by rw [sI_r _ _ (by omega)]; exact c i hi, fun s hs => ?_, fun i hi => by rw [sI_r _ _ (by omega)]; exact e i hi⟩
  rw [sI_r _ _ (show 203 < 200 ∨ 200 < 203 by omega), sI_r _ _ (show 204 < 200 ∨ 200 < 204 by omega), sI_r _ _ (show 206 < 200 ∨ 200 < 206 by omega)]
  exact d s hs
theorem pS_r {R r j : Nat} {τ0 τ : hSt} {v : Option Nat} (h : pS R τ0 τ) : pS R τ0 (sR τ r j v) := h
theorem ps_lookL {R : Nat} {τ0 : hSt} {K : hSt → Option (Int32 × hSt)} (hK : ∀ σ v υ, K σ = some (v, υ) → υ = σ) : ∀ n τ v υ, f_X12_look_L0 K n τ = some (v, υ) → pS R τ0 τ → pS R τ0 υ := by
  intro n
  induction n with
  | zero => intro τ v υ h; cases h
  | succ n ih =>
    intro τ v υ h hp
    rw [f_X12_look_L0] at h
    split at h
    · rw [hK _ _ _ h]; exact hp
    · cases ho : τ.2.2 200 2 with
      | none => rw [ho] at h; cases h
      | some r =>
        rw [ho, oc_1] at h
        split at h
        · split at h
          · cases h
          · split at h
            · exact ih _ _ _ h (pS_w hp (by omega))
            · rw [hK _ _ _ h]; exact hp
        · cases h
theorem ps_look {R F : Nat} {Z : hZ} {τ0 τ υ : hSt} {v : Int32} (h : f_X12_look F Z τ = some (v, υ)) (hp : pS R τ0 τ) : pS R τ0 υ := by
  unfold f_X12_look at h
  refine ps_lookL ?_ _ _ _ _ h hp
  intro σ v υ h
  split at h
  · cases h; rfl
  · cases ho : σ.2.2 200 2 with
    | none => rw [ho] at h; cases h
    | some r =>
      rw [ho, oc_1] at h
      split at h
      · split at h
        · cases h
        · cases h; rfl
      · cases h
theorem ps_fails {R : Nat} {Z : hZ} {τ0 τ υ : hSt} {v : Int32} (h : f_X12_fails Z τ = some (v, υ)) (hp : pS R τ0 τ) : pS R τ0 υ := by
  unfold f_X12_fails at h
  split at h
  · cases h; exact pS_w hp (by omega)
  · cases h; exact hp
theorem ps_goesIn {R : Nat} {Z : hZ} {τ0 τ υ : hSt} {v : Int32} (h : f_X12_goesIn Z τ = some (v, υ)) (hp : pS R τ0 τ) : pS R τ0 υ := by
  unfold f_X12_goesIn at h
  split at h
  · obtain ⟨q, h1, h2⟩ := ib h
    split at h2
    · cases h2; exact ps_fails h1 hp
    · cases h2
  · cases h; exact pS_w (pS_w hp (by omega)) (by omega)
theorem ps_takes {R F : Nat} {Z : hZ} {τ0 τ υ : hSt} {v x : Int32} (h : f_X12_takes F Z τ x = some (v, υ)) (hp : pS R τ0 τ) : pS R τ0 υ := by
  unfold f_X12_takes at h
  split at h
  · obtain ⟨q, h1, h2⟩ := ib h
    have hq := ps_look h1 hp
    split at h2
    · cases h2; exact pS_w hq (by omega)
    · obtain ⟨q2, h3, h4⟩ := ib h2
      split at h4
      · cases h4; exact ps_fails h3 hq
      · cases h4
  · obtain ⟨q, h1, h2⟩ := ib h
    split at h2
    · cases h2; exact ps_fails h1 hp
    · cases h2
theorem ps_sign {R : Nat} {Z : hZ} {τ0 τ υ : hSt} {u : Unit} {x : Int} (hR : R < 21) (hx : 0 ≤ x ∧ x ≤ 8) (h : f_X12_sign Z τ (i32 x) = some (u, υ)) (hp : pS R τ0 τ) : pS R τ0 υ := by
  obtain ⟨a, ⟨k, b1, b2⟩, c, d, e⟩ := hp
  have hq : (200 : Int32) * i32 (R : Int) + i32 (k : Int) = i32 ((200 * R + k : Nat) : Int) := by rw [show (200 : Int32) = i32 200 from rfl, i32_mul, i32_add]; rfl
  have hq2 : (6 : Int32) * i32 (R : Int) + i32 x = i32 ((6 * R + x.toNat : Nat) : Int) := by rw [show (6 : Int32) = i32 6 from rfl, i32_mul, i32_add]; congr 1; omega
  unfold f_X12_sign at h
  rw [a, i32_cn (show R ≤ 2147483647 by omega), if_neg (ix_ok hR (by omega)), b2, hq, i32_cn (show 200 * R + k ≤ 2147483647 by omega)] at h
  split at h
  · cases h
  · rename_i hlt
    have hlt2 : 200 * R + k < 4200 := Nat.lt_of_not_le (fun z => hlt (Or.inr z))
    simp only [if_neg (ix_ok hR (show R ≤ 100000 by omega)), hq2, i32_cn (show 6 * R + x.toNat ≤ 2147483647 by omega)] at h
    split at h
    · split at h
      · cases h
      · cases h
        refine ⟨?_, ⟨k + 1, by omega, ?_⟩, fun i hi => ?_, fun s hs => ?_, fun i hi => ?_⟩
        · rw [sI_r _ _ (by omega), sI_r _ _ (by omega), sI_r _ _ (by omega), sI_r _ _ (by omega)]; exact a
        · rw [sI_r _ _ (by omega), sI_r _ _ (by omega), sI_t _ _ ⟨rfl, rfl⟩, ip1]
        · rw [sI_r _ _ (by omega), sI_r _ _ (by omega), sI_r _ _ (by omega), sI_j _ _ (by omega)]; exact c i hi
        · refine ⟨?_, ?_, ?_⟩
          · rw [sI_r _ _ (by omega), sI_r _ _ (by omega), sI_j _ _ (by omega), sI_r _ _ (by omega)]; exact (d s hs).1
          · rw [sI_j _ _ (by omega), sI_r _ _ (by omega), sI_r _ _ (by omega), sI_r _ _ (by omega)]; exact (d s hs).2.1
          · rw [sI_r _ _ (by omega), sI_r _ _ (by omega), sI_r _ _ (by omega), sI_r _ _ (by omega)]; exact (d s hs).2.2
        · rw [sI_r _ _ (by omega), sI_j _ _ (by omega), sI_r _ _ (by omega), sI_r _ _ (by omega)]; exact e i hi
    · cases h
      refine ⟨?_, ⟨k + 1, by omega, ?_⟩, fun i hi => ?_, fun s hs => ?_, fun i hi => ?_⟩
      · rw [sI_r _ _ (by omega), sI_r _ _ (by omega), sI_r _ _ (by omega)]; exact a
      · rw [sI_r _ _ (by omega), sI_t _ _ ⟨rfl, rfl⟩, ip1]
      · rw [sI_r _ _ (by omega), sI_r _ _ (by omega), sI_j _ _ (by omega)]; exact c i hi
      · refine ⟨?_, ?_, ?_⟩
        · rw [sI_r _ _ (by omega), sI_j _ _ (by omega), sI_r _ _ (by omega)]; exact (d s hs).1
        · rw [sI_r _ _ (by omega), sI_r _ _ (by omega), sI_r _ _ (by omega)]; exact (d s hs).2.1
        · rw [sI_j _ _ (by omega), sI_r _ _ (by omega), sI_r _ _ (by omega)]; exact (d s hs).2.2
      · rw [sI_r _ _ (by omega), sI_r _ _ (by omega), sI_r _ _ (by omega)]; exact e i hi
def psF (R : Nat) (τ0 : hSt) (f : hSt → Option (Unit × hSt)) : Prop := ∀ τ u υ, f τ = some (u, υ) → pS R τ0 τ → pS R τ0 υ
theorem ps_orsL {R F : Nat} {Z : hZ} {τ0 : hSt} {g : hSt → Option (Unit × hSt)} (hR : R < 21) (hg : psF R τ0 g) : ∀ n, psF R τ0 (f_X12_ors_L4 F Z g n) := by
  intro n
  induction n with
  | zero => intro τ u υ h; cases h
  | succ n ih =>
    intro τ u υ h hp
    rw [f_X12_ors_L4] at h
    split at h
    · obtain ⟨q, h1, h2⟩ := ib h
      have hq := ps_look h1 hp
      split at h2
      · obtain ⟨q2, h3, h4⟩ := ib h2
        have hq2 := hg _ _ _ h3 (pS_w hq (by omega))
        split at h4
        · obtain ⟨q3, h5, h6⟩ := ib h4
          exact ih _ _ _ h6 (ps_sign (x := 8) hR (by omega) h5 hq2)
        · exact ih _ _ _ h4 hq2
      · cases h2; exact hq
    · cases h; exact hp
theorem ps_andsL {R F : Nat} {Z : hZ} {τ0 : hSt} {g : hSt → Option (Unit × hSt)} (hR : R < 21) (hg : psF R τ0 g) : ∀ n, psF R τ0 (f_X12_ands_L4 F Z g n) := by
  intro n
  induction n with
  | zero => intro τ u υ h; cases h
  | succ n ih =>
    intro τ u υ h hp
    rw [f_X12_ands_L4] at h
    split at h
    · obtain ⟨q, h1, h2⟩ := ib h
      have hq := ps_look h1 hp
      split at h2
      · obtain ⟨q2, h3, h4⟩ := ib h2
        have hq2 := hg _ _ _ h3 (pS_w hq (by omega))
        split at h4
        · obtain ⟨q3, h5, h6⟩ := ib h4
          exact ih _ _ _ h6 (ps_sign (x := 7) hR (by omega) h5 hq2)
        · exact ih _ _ _ h4 hq2
      · cases h2; exact hq
    · cases h; exact hp
theorem ps_unit {R F : Nat} {Z : hZ} {τ0 : hSt} {g1 g2 : hSt → Option (Unit × hSt)} (hR : R < 21) (h1 : psF R τ0 g1) (h2 : psF R τ0 g2) : psF R τ0 (b_X12_saidUnit F Z g1 g2) := by
  intro τ u υ h hp
  unfold b_X12_saidUnit at h
  obtain ⟨q, k1, k2⟩ := ib h
  have hq := ps_look k1 hp
  have hin : ∀ {o : Option (Unit × hSt)}, o = ((f_X12_goesIn Z q.2).bind fun q4 => (if q4.1 = (0 : Int32) then some ((), q4.2) else (if q.1 = (33 : Int32) then (g2 q4.2).bind fun q10 => (if (q10.2.1 200 7) = (-1 : Int32) then (f_X12_sign Z q10.2 (6 : Int32)).bind fun q12 => some ((), (sI q12.2 200 8 ((q12.2.1 200 8) - (1 : Int32)))) else some ((), (sI q10.2 200 8 ((q10.2.1 200 8) - (1 : Int32))))) else (g1 q4.2).bind fun q7 => (f_X12_takes F Z q7.2 (41 : Int32)).bind fun q8 => (if q8.1 = (0 : Int32) then some ((), q8.2) else some ((), (sI q8.2 200 8 ((q8.2.1 200 8) - (1 : Int32)))))))) → o = some (u, υ) → pS R τ0 υ := by
    intro o e1 e2
    rw [e1] at e2
    obtain ⟨q4, m1, m2⟩ := ib e2
    have p4 := ps_goesIn m1 hq
    split at m2
    · cases m2; exact p4
    · split at m2
      · obtain ⟨q5, m3, m4⟩ := ib m2
        have p5 := h2 _ _ _ m3 p4
        split at m4
        · obtain ⟨q6, m5, m6⟩ := ib m4
          cases m6
          exact pS_w (ps_sign (x := 6) hR (by omega) m5 p5) (by omega)
        · cases m4; exact pS_w p5 (by omega)
      · obtain ⟨q5, m3, m4⟩ := ib m2
        have p5 := h1 _ _ _ m3 p4
        obtain ⟨q6, m5, m6⟩ := ib m4
        have p6 := ps_takes m5 p5
        split at m6
        · cases m6; exact p6
        · cases m6; exact pS_w p6 (by omega)
  have hfl : ((f_X12_fails Z q.2).bind fun q23 => some ((), q23.2)) = some (u, υ) → pS R τ0 υ := by
    intro e
    obtain ⟨q4, m1, m2⟩ := ib e
    cases m2
    exact ps_fails m1 hq
  by_cases c1 : q.1 < (97 : Int32)
  · rw [if_pos c1] at k2
    by_cases c2 : q.1 = (33 : Int32)
    · rw [if_pos c2] at k2; exact hin rfl k2
    · rw [if_neg c2] at k2
      by_cases c3 : q.1 = (40 : Int32)
      · rw [if_pos c3] at k2; exact hin rfl k2
      · rw [if_neg c3] at k2; exact hfl k2
  · rw [if_neg c1] at k2
    by_cases c4 : (102 : Int32) < q.1
    · rw [if_pos c4] at k2
      by_cases c2 : q.1 = (33 : Int32)
      · rw [if_pos c2] at k2; exact hin rfl k2
      · rw [if_neg c2] at k2
        by_cases c3 : q.1 = (40 : Int32)
        · rw [if_pos c3] at k2; exact hin rfl k2
        · rw [if_neg c3] at k2; exact hfl k2
    · rw [if_neg c4] at k2
      obtain ⟨q4, m1, m2⟩ := ib k2
      cases m2
      have e1 := i32_of q.1
      have r1 := Int32.le_toInt q.1
      have r2 := Int32.toInt_lt q.1
      have c1' : 97 ≤ q.1.toInt := by
        rw [e1, show (97 : Int32) = i32 97 from rfl, i32_lt (by omega)] at c1; omega
      have c4' : q.1.toInt ≤ 102 := by
        rw [e1, show (102 : Int32) = i32 102 from rfl, i32_lt (by omega)] at c4; omega
      have e2 : q.1 - (97 : Int32) = i32 (q.1.toInt - 97) := by
        conv => lhs; rw [e1]
        rw [show (97 : Int32) = i32 97 from rfl, i32_sub]
      rw [e2] at m1
      exact ps_sign hR (by omega) m1 (pS_w hq (by omega))
theorem ps_Mo {R F : Nat} {Z : hZ} {τ0 : hSt} (hR : R < 21) : ∀ d, psF R τ0 (G_Mo F Z d).1 ∧ psF R τ0 (G_Mo F Z d).2.1 ∧ psF R τ0 (G_Mo F Z d).2.2 := by
  intro d
  induction d with
  | zero =>
    have h0 : psF R τ0 (fun _ => none) := fun τ u υ h => by cases h
    exact ⟨h0, h0, h0⟩
  | succ d ih =>
    refine ⟨fun τ u υ h hp => ?_, fun τ u υ h hp => ?_, ps_unit hR ih.1 ih.2.2⟩
    · have h' : b_X12_ors F Z (G_Mo F Z d).2.1 τ = some (u, υ) := h
      unfold b_X12_ors at h'
      obtain ⟨q, h1, h2⟩ := ib h'
      exact ps_orsL hR ih.2.1 _ _ _ _ h2 (ih.2.1 _ _ _ h1 hp)
    · have h' : b_X12_ands F Z (G_Mo F Z d).2.2 τ = some (u, υ) := h
      unfold b_X12_ands at h'
      obtain ⟨q, h1, h2⟩ := ib h'
      exact ps_andsL hR ih.2.2 _ _ _ _ h2 (ih.2.2 _ _ _ h1 hp)
theorem ps_read40 {R : Nat} {τ0 : hSt} {K : hSt → Option (Int32 × hSt)} (hR : R < 21) (hK : ∀ σ v υ, K σ = some (v, υ) → pS R τ0 σ → pS R τ0 υ) : ∀ (k z n : Nat) τ v υ, z + k = 6 → f_X12_readSaying_L40 K n τ (i32 (z : Int)) = some (v, υ) → pS R τ0 τ → pS R τ0 υ := by
  intro k
  induction k with
  | zero =>
    intro z n τ v υ hz h hp
    cases n with
    | zero => cases h
    | succ n =>
      obtain rfl : z = 6 := by omega
      rw [f_X12_readSaying_L40, if_pos (show (6 : Int32) ≤ i32 ((6 : Nat) : Int) by decide)] at h
      exact hK _ _ _ h hp
  | succ k ih =>
    intro z n τ v υ hz h hp
    cases n with
    | zero => cases h
    | succ n =>
      have hq2 : (6 : Int32) * i32 (R : Int) + i32 (z : Int) = i32 ((6 * R + z : Nat) : Int) := by rw [show (6 : Int32) = i32 6 from rfl, i32_mul, i32_add]; rfl
      rw [f_X12_readSaying_L40, hp.1, hq2, i32_cn (show 6 * R + z ≤ 2147483647 by omega), if_neg (show ¬ (6 : Int32) ≤ i32 (z : Int) by rw [show (6 : Int32) = i32 6 from rfl, i32_le (by omega)]; omega), if_neg (ix_ok (show 6 * R + z < 126 by omega) (by omega)), ip1] at h
      refine ih (z + 1) n _ _ _ (by omega) h ?_
      obtain ⟨a, ⟨k, b1, b2⟩, c, d, e⟩ := hp
      refine ⟨by rw [sI_r _ _ (by omega)]; exact a, ⟨k, b1, by rw [sI_r _ _ (by omega)]; exact b2⟩, fun i hi => by rw [sI_r _ _ (by omega)]; exact c i hi, fun s hs => ?_, fun i hi => by rw [sI_j _ _ (by omega)]; exact e i hi⟩
      rw [sI_r _ _ (show 203 < 205 ∨ 205 < 203 by omega), sI_r _ _ (show 204 < 205 ∨ 205 < 204 by omega), sI_r _ _ (show 206 < 205 ∨ 205 < 206 by omega)]
      exact d s hs
theorem ps_read {R F : Nat} {Z : hZ} {τ υ : hSt} {v : Int32} (hR : R < 21) (h15 : τ.1 200 15 = i32 (R : Int)) (h : f_X12_readSaying F Z τ = some (v, υ)) : pS R τ υ := by
  unfold f_X12_readSaying at h
  rw [h15, i32_cn (show R ≤ 2147483647 by omega), if_neg (ix_ok hR (by omega)), if_neg (ix_ok hR (by omega)), if_neg (ix_ok hR (by omega))] at h
  refine ps_read40 (R := R) (τ0 := τ) hR ?_ 6 0 F _ _ _ (by omega) h ?_
  · intro σ v υ h hp
    obtain ⟨q, h1, h2⟩ := ib h
    have hq : pS R τ q.2 := by
      cases h1
      exact pS_w (pS_w (pS_w (pS_w (pS_w (pS_w hp (by omega)) (by omega)) (by omega)) (by omega)) (by omega)) (by omega)
    obtain ⟨q2, h3, h4⟩ := ib h2
    have hq2 : pS R τ q2.2 := (ps_Mo hR 40).1 _ _ _ h3 hq
    split at h4
    · obtain ⟨q3, h5, h6⟩ := ib h4
      have hq3 := ps_look h5 hq2
      split at h6
      · split at h6
        · cases h6; exact hq3
        · cases h6; exact hq3
      · obtain ⟨q4, h7, h8⟩ := ib h6
        have hq4 := ps_fails h7 hq3
        split at h8
        · cases h8; exact hq4
        · cases h8; exact hq4
    · cases h4; exact hq2
  · refine ⟨?_, ⟨0, by omega, ?_⟩, fun i hi => ?_, fun s hs => ⟨?_, ?_, ?_⟩, fun i hi => ?_⟩
    · rw [sI_r _ _ (by omega), sI_r _ _ (by omega), sI_r _ _ (by omega), sI_t _ _ ⟨rfl, rfl⟩]
    · rw [sI_r _ _ (by omega), sI_r _ _ (by omega), sI_t _ _ ⟨rfl, rfl⟩]; rfl
    · rw [sI_r _ _ (by omega), sI_r _ _ (by omega), sI_r _ _ (by omega), sI_r _ _ (by omega)]
    · rw [sI_r _ _ (by omega), sI_r _ _ (by omega), sI_j _ _ (by omega), sI_r _ _ (by omega)]
    · rw [sI_r _ _ (by omega), sI_j _ _ (by omega), sI_r _ _ (by omega), sI_r _ _ (by omega)]
    · rw [sI_j _ _ (by omega), sI_r _ _ (by omega), sI_r _ _ (by omega), sI_r _ _ (by omega)]
    · rw [sI_r _ _ (by omega), sI_r _ _ (by omega), sI_r _ _ (by omega), sI_r _ _ (by omega)]
