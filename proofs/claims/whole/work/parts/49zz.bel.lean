/-! whole TALKS, class: what comes of them; rows of DRAWS -/
theorem p_goByDraws {F : Nat} {Z : hZ} {σ : hSt} {r0 r1 s tl tg : Nat} {Tf : Nat → TK} {y : Int} {m0 : Int64} (hF : 1000 ≤ F) (hr : r0 = 14 ∨ r0 = 15) (hz : tkZ Z r1 s tl tg (Tf r1)) (hT : okT (Tf r1)) (hy : 0 ≤ y ∧ y ≤ 1000000) (h13 : ∀ j, j < 10 → j ≠ 4 → j ≠ 6 → j ≠ 7 → j ≠ 9 → σ.2.1 13 j = 0) (hc : caS Z Tf r0 σ) : ∃ σ', f_X1_goByDraws F Z σ r0 r1 m0 (i32 y) = some (b01 (bvI (Tf r1) y false m0), σ') ∧ fr (WX r0) σ σ' ∧ crG Z Tf r0 r1 s tl y false m0 (G_I (Tf r1) y false m0) (nsI (Tf r1) y false m0) (ggI (Tf r1) y false m0) σ' := by
  have hN := hT.1
  obtain ⟨σ1, a1, a2, a3, a4, a5, a6, a7, a8, a9, a10⟩ := p_open (y := y) hF hr hz hT hy h13
  have h0 : crG Z Tf r0 r1 s tl y false m0 0 0 (-1) (sJ σ1 r0 14 m0) := go_mix hr (by omega) ⟨a3, caS_W hr hc a2 (by simp (disch := omega) only [cd_n, cd_p, WO, List.mem_cons, List.mem_singleton, List.not_mem_nil, or_false, false_or, or_true, true_or, not_or, not_false_eq_true, not_true_eq_false, and_true, true_and, and_self] <;> omega) (by simp (disch := omega) only [cd_n, cd_p, WO, List.mem_cons, List.mem_singleton, List.not_mem_nil, or_false, false_or, or_true, true_or, not_or, not_false_eq_true, not_true_eq_false, and_true, true_and, and_self] <;> omega), a4, fun q hq => absurd hq (Nat.not_lt_zero q), a10, a6, a5, a7, a8, a9, fun x hx => absurd hx (Nat.not_lt_zero x)⟩
  have f1 : fr (WX r0) σ (sJ σ1 r0 14 m0) := fr_tr (fr_mono a2 (fun x hx => by simp only [WO, WX, List.mem_cons, List.not_mem_nil, or_false] at hx ⊢; omega)) (fr_sJ _ _ (by simp (disch := omega) only [cd_n, cd_p, WX, List.mem_cons, List.mem_singleton, List.not_mem_nil, or_false, false_or, or_true, true_or, not_or, not_false_eq_true, not_true_eq_false, and_true, true_and, and_self] <;> omega))
  obtain ⟨σ2, b1, b2, b3⟩ := p_goD (F := F) (K := (fun σ1 => (f_X1_believesAtEnd F Z σ1 r0 r1).bind fun q13 => if q13.1 = 0 ∨ q13.1 = 1 then some (q13.1, q13.2) else none)) hF hr hz hT (kN (Tf r1)) 0 F _ (by omega) (by omega) h0 (by rw [sJ_t _ _ ⟨rfl, rfl⟩]; rfl)
  unfold f_X1_goByDraws
  rw [a1, obs]
  dsimp only
  by_cases c : frI (Tf r1) y false m0 (kN (Tf r1)) 0 = kN (Tf r1)
  · obtain ⟨b4, b5⟩ := b2 c
    obtain ⟨σ3, c1, c2, c3⟩ := go_fin hF hr hz hT c b5
    refine ⟨σ3, Eq.trans b4 ?_, fr_tr f1 (fr_tr b1 c1), c3⟩
    rw [c2, obs]
    dsimp only
    rw [if_pos (show b01 (bvI (Tf r1) y false m0) = 0 ∨ b01 (bvI (Tf r1) y false m0) = 1 by cases bvI (Tf r1) y false m0; exact Or.inl rfl; exact Or.inr rfl)]
  · obtain ⟨b4, b5⟩ := b3 c
    have hG : ¬ G_I (Tf r1) y false m0 = kN (Tf r1) := c
    have hb : bvI (Tf r1) y false m0 = false := by unfold bvI; rw [decide_eq_false hG]; rfl
    have hn : nsI (Tf r1) y false m0 = G_I (Tf r1) y false m0 + 1 := by unfold nsI; rw [if_neg hG]
    have hg : ggI (Tf r1) y false m0 = (G_I (Tf r1) y false m0 : Int) := by unfold ggI; rw [hb]; rfl
    rw [hb, hn, hg]
    exact ⟨σ2, b4, fr_tr f1 b1, b5⟩
theorem p_goFixed {F : Nat} {Z : hZ} {σ : hSt} {r0 r1 s tl tg : Nat} {Tf : Nat → TK} {y : Int} (hF : 1000 ≤ F) (hr : r0 = 14 ∨ r0 = 15) (hz : tkZ Z r1 s tl tg (Tf r1)) (hT : okT (Tf r1)) (hy : 0 ≤ y ∧ y ≤ 1000000) (h13 : ∀ j, j < 10 → j ≠ 4 → j ≠ 6 → j ≠ 7 → j ≠ 9 → σ.2.1 13 j = 0) (hc : caS Z Tf r0 σ) : ∃ σ', f_X1_goFixed F Z σ r0 r1 (i32 y) = some (b01 (bvI (Tf r1) y true (mixR 1 (i64 (fsI (Tf r1) y)))), σ') ∧ fr (WX r0) σ σ' ∧ crG Z Tf r0 r1 s tl y true (mixR 1 (i64 (fsI (Tf r1) y))) (G_I (Tf r1) y true (mixR 1 (i64 (fsI (Tf r1) y)))) (nsI (Tf r1) y true (mixR 1 (i64 (fsI (Tf r1) y)))) (ggI (Tf r1) y true (mixR 1 (i64 (fsI (Tf r1) y)))) σ' := by
  have hN := hT.1
  obtain ⟨m0, hm0⟩ : ∃ m0, m0 = mixR 1 (i64 (fsI (Tf r1) y)) := ⟨_, rfl⟩
  rw [← hm0]
  obtain ⟨σ1, a1, a2, a3, a4, a5, a6, a7, a8, a9, a10⟩ := p_open (y := y) hF hr hz hT hy h13
  have h0 : crG Z Tf r0 r1 s tl y true m0 0 0 (-1) (sJ (sJ σ1 r0 14 1) r0 14 m0) := go_mix hr (by omega) (go_mix hr (by omega) ⟨a3, caS_W hr hc a2 (by simp (disch := omega) only [cd_n, cd_p, WO, List.mem_cons, List.mem_singleton, List.not_mem_nil, or_false, false_or, or_true, true_or, not_or, not_false_eq_true, not_true_eq_false, and_true, true_and, and_self] <;> omega) (by simp (disch := omega) only [cd_n, cd_p, WO, List.mem_cons, List.mem_singleton, List.not_mem_nil, or_false, false_or, or_true, true_or, not_or, not_false_eq_true, not_true_eq_false, and_true, true_and, and_self] <;> omega), a4, fun q hq => absurd hq (Nat.not_lt_zero q), a10, a6, a5, a7, a8, a9, fun x hx => absurd hx (Nat.not_lt_zero x)⟩)
  have f1 : fr (WX r0) σ (sJ (sJ σ1 r0 14 1) r0 14 m0) := fr_tr (fr_mono a2 (fun x hx => by simp only [WO, WX, List.mem_cons, List.not_mem_nil, or_false] at hx ⊢; omega)) (fr_tr (fr_sJ _ _ (by simp (disch := omega) only [cd_n, cd_p, WX, List.mem_cons, List.mem_singleton, List.not_mem_nil, or_false, false_or, or_true, true_or, not_or, not_false_eq_true, not_true_eq_false, and_true, true_and, and_self] <;> omega)) (fr_sJ _ _ (by simp (disch := omega) only [cd_n, cd_p, WX, List.mem_cons, List.mem_singleton, List.not_mem_nil, or_false, false_or, or_true, true_or, not_or, not_false_eq_true, not_true_eq_false, and_true, true_and, and_self] <;> omega)))
  obtain ⟨σ2, b1, b2, b3⟩ := p_goF (F := F) (K := (fun σ1 => (f_X1_believesAtEnd F Z σ1 r0 r1).bind fun q13 => if q13.1 = 0 ∨ q13.1 = 1 then some (q13.1, q13.2) else none)) hF hr hz hT (kN (Tf r1)) 0 F _ (by omega) (by omega) h0 (by rw [sJ_t _ _ ⟨rfl, rfl⟩]; rfl)
  unfold f_X1_goFixed
  rw [a1, obs]
  dsimp only
  rw [p_stir, obs, sJ_j _ _ (show 10 < 14 ∨ 14 < 10 by omega), a4, sJ_t _ _ ⟨rfl, rfl⟩, ← hm0]
  by_cases c : frI (Tf r1) y true m0 (kN (Tf r1)) 0 = kN (Tf r1)
  · obtain ⟨b4, b5⟩ := b2 c
    obtain ⟨σ3, c1, c2, c3⟩ := go_fin hF hr hz hT c b5
    refine ⟨σ3, Eq.trans b4 ?_, fr_tr f1 (fr_tr b1 c1), c3⟩
    rw [c2, obs]
    dsimp only
    rw [if_pos (show b01 (bvI (Tf r1) y true m0) = 0 ∨ b01 (bvI (Tf r1) y true m0) = 1 by cases bvI (Tf r1) y true m0; exact Or.inl rfl; exact Or.inr rfl)]
  · obtain ⟨b4, b5⟩ := b3 c
    have hG : ¬ G_I (Tf r1) y true m0 = kN (Tf r1) := c
    have hb : bvI (Tf r1) y true m0 = false := by unfold bvI; rw [decide_eq_false hG]; rfl
    have hn : nsI (Tf r1) y true m0 = G_I (Tf r1) y true m0 + 1 := by unfold nsI; rw [if_neg hG]
    have hg : ggI (Tf r1) y true m0 = (G_I (Tf r1) y true m0 : Int) := by unfold ggI; rw [hb]; rfl
    rw [hb, hn, hg]
    exact ⟨σ2, b4, fr_tr f1 b1, b5⟩
/-- by how many rows of DRAWS it is believed -/
def bfI (T : TK) (y : Int) : Nat → Nat → (Nat → Int) → Int → Int
  | 0, _, ds, cl => if enI T ds cl = true then 1 else 0
  | k + 1, i, ds, cl => if agI T y ds i cl = true then sB (fun d => bfI T y k (i + 1) (uI ds i (d : Int)) (nxI T y ds i cl (d : Int))) (dsI T i).toNat else 0
def crB (Z : hZ) (Tf : Nat → TK) (r0 r1 s tl : Nat) (y : Int) (σ : hSt) : Prop := sitH Z σ s tl (kN (Tf r1)) (kP (Tf r1)) (kS (Tf r1)) (kA (Tf r1)) ∧ caS Z Tf r0 σ ∧ (σ.2.1 (r0 + 2) 6 = i64 (kN (Tf r1) : Int) ∧ σ.2.1 (r0 + 2) 7 = i64 (kP (Tf r1)) ∧ σ.2.1 (r0 + 2) 8 = i64 y ∧ σ.2.1 (r0 + 2) 9 = 0)
theorem crB_W {W : List Nat} {Z : hZ} {Tf : Nat → TK} {r0 r1 s tl : Nat} {y : Int} {σ τ : hSt} (hr : r0 = 14 ∨ r0 = 15) (h : crB Z Tf r0 r1 s tl y σ) (f : fr W σ τ) (n2 : 11202 ∉ W) (n3 : 11203 ∉ W) (n4 : 11204 ∉ W) (n5 : 13 ∉ W) (n6 : 10000 + 100 * r0 + 7 ∉ W) (n7 : r0 + 8 ∉ W) (n8 : r0 + 2 ∉ W) : crB Z Tf r0 r1 s tl y τ := by
  refine ⟨sitH_W h.1 f n2 n3 n4 n5, caS_W hr h.2.1 f n6 n7, ?_⟩
  rw [fr_J f (r0 + 2) (ob_n (by omega)) n8]
  exact h.2.2
theorem p_bel {F : Nat} {Z : hZ} {r0 r1 s tl tg : Nat} {Tf : Nat → TK} {y : Int} (hF : 3000 ≤ F) (hr : r0 = 14 ∨ r0 = 15) (hz : tkZ Z r1 s tl tg (Tf r1)) (hT : okT (Tf r1)) : ∀ (k i d : Nat) (σ : hSt) (ds : Nat → Int) (cl : Int), i + k = kN (Tf r1) → k < d → (∀ j, j < kN (Tf r1) → dsI (Tf r1) j ≤ 2000) → crB Z Tf r0 r1 s tl y σ → 0 ≤ cl ∧ cl < kP (Tf r1) → σ.2.1 r0 10 = i64 cl → (∀ x, 0 ≤ ds x ∧ ds x < kP (Tf r1)) → (∀ x, i ≤ x → ds x = 0) → (∀ q, q < i → σ.2.1 (r0 + 4) q = i64 (ds q)) → ∃ σ', (G_X1b F Z d) σ r0 r1 (i32 (i : Int)) = some (i32 (bfI (Tf r1) y k i ds cl), σ') ∧ fr (WX r0) σ σ' ∧ crB Z Tf r0 r1 s tl y σ' ∧ (∀ q, q < i → σ'.2.1 (r0 + 4) q = σ.2.1 (r0 + 4) q) ∧ (∀ x, x < i → ∀ q, σ'.2.1 (24 + 6 * (r0 - 14) + x) q = σ.2.1 (24 + 6 * (r0 - 14) + x) q) := by
  have hF1 : 1000 ≤ F := by omega
  have hN := hT.1
  have hP := hT.2.2.1
  intro k
  induction k with
  | zero =>
    intro i d σ ds cl hik hd hD h hcr hcl hds hd0 h4
    obtain ⟨d, rfl⟩ : ∃ q, d = q + 1 := ⟨d - 1, by omega⟩
    obtain rfl : i = kN (Tf r1) := by omega
    obtain ⟨σ1, a1, a2, a3, a4⟩ := p_end hF1 hr hz hT h.1 hcr hcl hds h4
    refine ⟨σ1, ?_, fr_mono a2 (fun x hx => by simp only [WX, List.mem_cons, List.not_mem_nil, or_false] at hx ⊢; omega), ⟨a4, caS_W hr h.2.1 a2 (by simp (disch := omega) only [cd_n, cd_p, List.mem_cons, List.mem_singleton, List.not_mem_nil, or_false, false_or, or_true, true_or, not_or, not_false_eq_true, not_true_eq_false, and_true, true_and, and_self] <;> omega) (by simp (disch := omega) only [cd_n, cd_p, List.mem_cons, List.mem_singleton, List.not_mem_nil, or_false, false_or, or_true, true_or, not_or, not_false_eq_true, not_true_eq_false, and_true, true_and, and_self] <;> omega), ?_⟩, fun q hq => ?_, fun x hx q => ?_⟩
    · rw [G_X1b, b_X1_believedFrom, hz.1, oc_1, if_pos hz.2.1, hz.2.2.2.2.2.2.2.2.2.1, if_pos (Int32.le_refl _), a1, obs, bfI]
      dsimp only
      cases enI (Tf r1) ds cl with
      | false => rw [b01f, if_pos rfl]; rfl
      | true => rw [b01t, if_neg n10]; rfl
    · rw [fr_J a2 (r0 + 2) (ob_n (by omega)) (by simp (disch := omega) only [cd_n, cd_p, List.mem_cons, List.mem_singleton, List.not_mem_nil, or_false, false_or, or_true, true_or, not_or, not_false_eq_true, not_true_eq_false, and_true, true_and, and_self] <;> omega)]; exact h.2.2
    · rw [fr_J a2 (r0 + 4) (ob_n (by omega)) (by simp (disch := omega) only [cd_n, cd_p, List.mem_cons, List.mem_singleton, List.not_mem_nil, or_false, false_or, or_true, true_or, not_or, not_false_eq_true, not_true_eq_false, and_true, true_and, and_self] <;> omega)]
    · rw [fr_J a2 (24 + 6 * (r0 - 14) + x) (ob_n (by omega)) (by simp (disch := omega) only [cd_n, cd_p, List.mem_cons, List.mem_singleton, List.not_mem_nil, or_false, false_or, or_true, true_or, not_or, not_false_eq_true, not_true_eq_false, and_true, true_and, and_self] <;> omega)]
  | succ k ih =>
    intro i d σ ds cl hik hd hD h hcr hcl hds hd0 h4
    obtain ⟨d, rfl⟩ : ∃ q, d = q + 1 := ⟨d - 1, by omega⟩
    obtain ⟨σ1, a1, a2, a3, a4, a5, a6⟩ := p_say (cl := cl) (ds := ds) hF1 hr hz hT (show i < kN (Tf r1) by omega) hds hd0 h4 h.2.1 hcl h.2.2.1 h.2.2.2.1 h.2.2.2.2.1 h.2.2.2.2.2
    have a2' : fr (WX r0) σ σ1 := fr_mono a2 (fun x hx => by simp only [WS, WX, List.mem_cons, List.not_mem_nil, or_false] at hx ⊢; omega)
    have h1 : crB Z Tf r0 r1 s tl y σ1 := ⟨sitH_W h.1 a2 (by simp (disch := omega) only [cd_n, cd_p, WS, List.mem_cons, List.mem_singleton, List.not_mem_nil, or_false, false_or, or_true, true_or, not_or, not_false_eq_true, not_true_eq_false, and_true, true_and, and_self] <;> omega) (by simp (disch := omega) only [cd_n, cd_p, WS, List.mem_cons, List.mem_singleton, List.not_mem_nil, or_false, false_or, or_true, true_or, not_or, not_false_eq_true, not_true_eq_false, and_true, true_and, and_self] <;> omega) (by simp (disch := omega) only [cd_n, cd_p, WS, List.mem_cons, List.mem_singleton, List.not_mem_nil, or_false, false_or, or_true, true_or, not_or, not_false_eq_true, not_true_eq_false, and_true, true_and, and_self] <;> omega) (by simp (disch := omega) only [cd_n, cd_p, WS, List.mem_cons, List.mem_singleton, List.not_mem_nil, or_false, false_or, or_true, true_or, not_or, not_false_eq_true, not_true_eq_false, and_true, true_and, and_self] <;> omega), a3, a6⟩
    obtain ⟨σ2, b1, b2, b3⟩ := p_agr (y := y) (ds := ds) hF1 hr hz hT (show i < kN (Tf r1) by omega) h1.1 hcr (by rw [a2.2.1 r0 10 (by simp (disch := omega) only [cd_n, cd_p, WS, List.mem_cons, List.mem_singleton, List.not_mem_nil, or_false, false_or, or_true, true_or, not_or, not_false_eq_true, not_true_eq_false, and_true, true_and, and_self] <;> omega)]; exact hcl) a4
    have b2' : fr (WX r0) σ1 σ2 := fr_mono b2 (fun x hx => by simp only [WX, List.mem_cons, List.not_mem_nil, or_false] at hx ⊢; omega)
    have h2 : crB Z Tf r0 r1 s tl y σ2 := ⟨b3, caS_W hr h1.2.1 b2 (by simp (disch := omega) only [cd_n, cd_p, List.mem_cons, List.mem_singleton, List.not_mem_nil, or_false, false_or, or_true, true_or, not_or, not_false_eq_true, not_true_eq_false, and_true, true_and, and_self] <;> omega) (by simp (disch := omega) only [cd_n, cd_p, List.mem_cons, List.mem_singleton, List.not_mem_nil, or_false, false_or, or_true, true_or, not_or, not_false_eq_true, not_true_eq_false, and_true, true_and, and_self] <;> omega), by rw [fr_J b2 (r0 + 2) (ob_n (by omega)) (by simp (disch := omega) only [cd_n, cd_p, List.mem_cons, List.mem_singleton, List.not_mem_nil, or_false, false_or, or_true, true_or, not_or, not_false_eq_true, not_true_eq_false, and_true, true_and, and_self] <;> omega)]; exact h1.2.2⟩
    have e0 : (G_X1b F Z (d + 1)) σ r0 r1 (i32 (i : Int)) = if b01 (agI (Tf r1) y ds i cl) = 0 then some (0, σ2) else (f_X0_dice F Z σ2 (i32 (i : Int))).bind fun q11 => f_X1_believedFrom_L63 F Z (G_X1b F Z d) r0 r1 (i32 (i : Int)) q11.1 F q11.2 0 0 := by
      rw [G_X1b, b_X1_believedFrom, hz.1, oc_1, if_pos hz.2.1, hz.2.2.2.2.2.2.2.2.2.1, if_neg (show ¬ i32 (kN (Tf r1) : Int) ≤ i32 (i : Int) by rw [i32_le (by omega)]; omega), if_pos (show i32 (i : Int) < (6 : Int32) by rw [show (6 : Int32) = i32 6 from rfl, i32_lt (by omega)]; omega), a1, obs]
      dsimp only
      rw [b1, obs]
    rw [e0, bfI]
    cases hag : agI (Tf r1) y ds i cl with
    | false =>
      rw [b01f, if_pos rfl, if_neg (show ¬ false = true by decide)]
      refine ⟨σ2, rfl, fr_tr a2' b2', h2, fun q hq => ?_, fun x hx q => ?_⟩
      · rw [fr_J b2 (r0 + 4) (ob_n (by omega)) (by simp (disch := omega) only [cd_n, cd_p, List.mem_cons, List.mem_singleton, List.not_mem_nil, or_false, false_or, or_true, true_or, not_or, not_false_eq_true, not_true_eq_false, and_true, true_and, and_self] <;> omega), fr_J a2 (r0 + 4) (ob_n (by omega)) (by simp (disch := omega) only [cd_n, cd_p, WS, List.mem_cons, List.mem_singleton, List.not_mem_nil, or_false, false_or, or_true, true_or, not_or, not_false_eq_true, not_true_eq_false, and_true, true_and, and_self] <;> omega)]
      · rw [fr_J b2 (24 + 6 * (r0 - 14) + x) (ob_n (by omega)) (by simp (disch := omega) only [cd_n, cd_p, List.mem_cons, List.mem_singleton, List.not_mem_nil, or_false, false_or, or_true, true_or, not_or, not_false_eq_true, not_true_eq_false, and_true, true_and, and_self] <;> omega), fr_J a2 (24 + 6 * (r0 - 14) + x) (ob_n (by omega)) (by simp (disch := omega) only [cd_n, cd_p, WS, List.mem_cons, List.mem_singleton, List.not_mem_nil, or_false, false_or, or_true, true_or, not_or, not_false_eq_true, not_true_eq_false, and_true, true_and, and_self] <;> omega)]
    | true =>
      rw [b01t, if_neg n10, if_pos rfl]
      obtain ⟨σ3, c1, c2, c3⟩ := p_dice (i := i) hF1 (by omega) (by omega) b3
      have c2' : fr (WX r0) σ2 σ3 := fr_mono c2 (fun x hx => by simp only [WX, List.mem_cons, List.not_mem_nil, or_false] at hx ⊢; omega)
      have h3 : crB Z Tf r0 r1 s tl y σ3 := ⟨c3, caS_W hr h2.2.1 c2 (by simp (disch := omega) only [cd_n, cd_p, List.mem_cons, List.mem_singleton, List.not_mem_nil, or_false, false_or, or_true, true_or, not_or, not_false_eq_true, not_true_eq_false, and_true, true_and, and_self] <;> omega) (by simp (disch := omega) only [cd_n, cd_p, List.mem_cons, List.mem_singleton, List.not_mem_nil, or_false, false_or, or_true, true_or, not_or, not_false_eq_true, not_true_eq_false, and_true, true_and, and_self] <;> omega), by rw [fr_J c2 (r0 + 2) (ob_n (by omega)) (by simp (disch := omega) only [cd_n, cd_p, List.mem_cons, List.mem_singleton, List.not_mem_nil, or_false, false_or, or_true, true_or, not_or, not_false_eq_true, not_true_eq_false, and_true, true_and, and_self] <;> omega)]; exact h2.2.2⟩
      have hdr := ds_rg (i := i) hT
      have hDi := hD i (by omega)
      have loop : ∀ (m z M : Nat) (τ : hSt), z + m = (dsI (Tf r1) i).toNat → m < M → crB Z Tf r0 r1 s tl y τ → (∀ q, q < i → τ.2.1 (r0 + 4) q = i64 (ds q)) → (∀ q : Nat, q ≤ (kS (Tf r1) i).toNat → τ.2.1 (24 + 6 * (r0 - 14) + i) q = i64 (sdI (Tf r1) y ds i cl (q : Int))) → ∃ τ', f_X1_believedFrom_L63 F Z (G_X1b F Z d) r0 r1 (i32 (i : Int)) (i32 (dsI (Tf r1) i)) M τ (i32 (sB (fun d => bfI (Tf r1) y k (i + 1) (uI ds i (d : Int)) (nxI (Tf r1) y ds i cl (d : Int))) z)) (i32 (z : Int)) = some (i32 (sB (fun d => bfI (Tf r1) y k (i + 1) (uI ds i (d : Int)) (nxI (Tf r1) y ds i cl (d : Int))) (dsI (Tf r1) i).toNat), τ') ∧ fr (WX r0) τ τ' ∧ crB Z Tf r0 r1 s tl y τ' ∧ (∀ q, q < i → τ'.2.1 (r0 + 4) q = τ.2.1 (r0 + 4) q) ∧ (∀ x, x < i → ∀ q, τ'.2.1 (24 + 6 * (r0 - 14) + x) q = τ.2.1 (24 + 6 * (r0 - 14) + x) q) := by
        intro m
        induction m with
        | zero =>
          intro z M τ hz1 hM g1 g2 g3
          obtain ⟨M, rfl⟩ : ∃ q, M = q + 1 := ⟨M - 1, by omega⟩
          obtain rfl : z = (dsI (Tf r1) i).toNat := by omega
          refine ⟨τ, ?_, fr_rf _ _, g1, fun _ _ => rfl, fun _ _ _ => rfl⟩
          rw [f_X1_believedFrom_L63, if_pos (show i32 (dsI (Tf r1) i) ≤ i32 ((dsI (Tf r1) i).toNat : Int) by rw [i32_le (by omega)]; omega)]
        | succ m ihm =>
          intro z M τ hz1 hM g1 g2 g3
          obtain ⟨M, rfl⟩ : ∃ q, M = q + 1 := ⟨M - 1, by omega⟩
          obtain ⟨τ1, w1, w2, w3, w4, w5, w6⟩ := p_move (y := y) (cl := cl) (ds := ds) (d := (z : Int)) hF1 hr hz hT (show i < kN (Tf r1) by omega) (by omega) g3
          have w2' : fr (WX r0) τ τ1 := fr_mono w2 (fun x hx => by simp only [WX, List.mem_cons, List.not_mem_nil, or_false] at hx ⊢; omega)
          have k1 : crB Z Tf r0 r1 s tl y τ1 := crB_W hr g1 w2 (by simp (disch := omega) only [cd_n, cd_p, List.mem_cons, List.mem_singleton, List.not_mem_nil, or_false, false_or, or_true, true_or, not_or, not_false_eq_true, not_true_eq_false, and_true, true_and, and_self] <;> omega) (by simp (disch := omega) only [cd_n, cd_p, List.mem_cons, List.mem_singleton, List.not_mem_nil, or_false, false_or, or_true, true_or, not_or, not_false_eq_true, not_true_eq_false, and_true, true_and, and_self] <;> omega) (by simp (disch := omega) only [cd_n, cd_p, List.mem_cons, List.mem_singleton, List.not_mem_nil, or_false, false_or, or_true, true_or, not_or, not_false_eq_true, not_true_eq_false, and_true, true_and, and_self] <;> omega) (by simp (disch := omega) only [cd_n, cd_p, List.mem_cons, List.mem_singleton, List.not_mem_nil, or_false, false_or, or_true, true_or, not_or, not_false_eq_true, not_true_eq_false, and_true, true_and, and_self] <;> omega) (by simp (disch := omega) only [cd_n, cd_p, List.mem_cons, List.mem_singleton, List.not_mem_nil, or_false, false_or, or_true, true_or, not_or, not_false_eq_true, not_true_eq_false, and_true, true_and, and_self] <;> omega) (by simp (disch := omega) only [cd_n, cd_p, List.mem_cons, List.mem_singleton, List.not_mem_nil, or_false, false_or, or_true, true_or, not_or, not_false_eq_true, not_true_eq_false, and_true, true_and, and_self] <;> omega) (by simp (disch := omega) only [cd_n, cd_p, List.mem_cons, List.mem_singleton, List.not_mem_nil, or_false, false_or, or_true, true_or, not_or, not_false_eq_true, not_true_eq_false, and_true, true_and, and_self] <;> omega)
          obtain ⟨τ2, v1, v2, v3, v4, v5⟩ := ih (i + 1) d τ1 (uI ds i (z : Int)) (nxI (Tf r1) y ds i cl (z : Int)) (by omega) (by omega) hD k1 (nx_rg hT) w6 (fun x => by
            by_cases e : x = i
            · rw [uI_t _ _ e]; omega
            · rw [uI_f _ _ (by omega)]; exact hds x) (fun x hx => by rw [uI_f _ _ (by omega)]; exact hd0 x (by omega)) (fun q hq => by
            by_cases e : q = i
            · rw [uI_t _ _ e, e]; exact w3
            · rw [uI_f _ _ (by omega), w4 q e]; exact g2 q (by omega))
          obtain ⟨τ3, t1, t2, t3, t4, t5⟩ := ihm (z + 1) M τ2 (by omega) (by omega) v3 (fun q hq => by rw [v4 q (by omega), w4 q (by omega)]; exact g2 q hq) (fun q hq => by
            rw [v5 i (by omega), fr_J w2 (24 + 6 * (r0 - 14) + i) (ob_n (by omega)) (by simp (disch := omega) only [cd_n, cd_p, List.mem_cons, List.mem_singleton, List.not_mem_nil, or_false, false_or, or_true, true_or, not_or, not_false_eq_true, not_true_eq_false, and_true, true_and, and_self] <;> omega)]; exact g3 q hq)
          refine ⟨τ3, ?_, fr_tr w2' (fr_tr v2 t2), t3, fun q hq => by rw [t4 q hq, v4 q (by omega), w4 q (by omega)], fun x hx q => by rw [t5 x hx, v5 x (by omega), fr_J w2 (24 + 6 * (r0 - 14) + x) (ob_n (by omega)) (by simp (disch := omega) only [cd_n, cd_p, List.mem_cons, List.mem_singleton, List.not_mem_nil, or_false, false_or, or_true, true_or, not_or, not_false_eq_true, not_true_eq_false, and_true, true_and, and_self] <;> omega)]⟩
          rw [f_X1_believedFrom_L63, if_neg (show ¬ i32 (dsI (Tf r1) i) ≤ i32 (z : Int) by rw [i32_le (by omega)]; omega), if_neg (show ¬ (2000 : Int32) ≤ i32 (z : Int) by rw [show (2000 : Int32) = i32 2000 from rfl, i32_le (by omega)]; omega), w1, obs]
          dsimp only
          rw [ip1, v1, obs]
          dsimp only
          rw [i32_add, ip1]
          exact t1
      obtain ⟨τ', t1, t2, t3, t4, t5⟩ := loop (dsI (Tf r1) i).toNat 0 F σ3 (by omega) (by omega) h3 (fun q hq => by
        rw [fr_J c2 (r0 + 4) (ob_n (by omega)) (by simp (disch := omega) only [cd_n, cd_p, List.mem_cons, List.mem_singleton, List.not_mem_nil, or_false, false_or, or_true, true_or, not_or, not_false_eq_true, not_true_eq_false, and_true, true_and, and_self] <;> omega), fr_J b2 (r0 + 4) (ob_n (by omega)) (by simp (disch := omega) only [cd_n, cd_p, List.mem_cons, List.mem_singleton, List.not_mem_nil, or_false, false_or, or_true, true_or, not_or, not_false_eq_true, not_true_eq_false, and_true, true_and, and_self] <;> omega), fr_J a2 (r0 + 4) (ob_n (by omega)) (by simp (disch := omega) only [cd_n, cd_p, WS, List.mem_cons, List.mem_singleton, List.not_mem_nil, or_false, false_or, or_true, true_or, not_or, not_false_eq_true, not_true_eq_false, and_true, true_and, and_self] <;> omega)]; exact h4 q hq) (fun q hq => by
        rw [fr_J c2 (24 + 6 * (r0 - 14) + i) (ob_n (by omega)) (by simp (disch := omega) only [cd_n, cd_p, List.mem_cons, List.mem_singleton, List.not_mem_nil, or_false, false_or, or_true, true_or, not_or, not_false_eq_true, not_true_eq_false, and_true, true_and, and_self] <;> omega), fr_J b2 (24 + 6 * (r0 - 14) + i) (ob_n (by omega)) (by simp (disch := omega) only [cd_n, cd_p, List.mem_cons, List.mem_singleton, List.not_mem_nil, or_false, false_or, or_true, true_or, not_or, not_false_eq_true, not_true_eq_false, and_true, true_and, and_self] <;> omega)]; exact a4 q hq)
      rw [c1, obs]
      refine ⟨τ', t1, fr_tr a2' (fr_tr b2' (fr_tr c2' t2)), t3, fun q hq => ?_, fun x hx q => ?_⟩
      · rw [t4 q hq, fr_J c2 (r0 + 4) (ob_n (by omega)) (by simp (disch := omega) only [cd_n, cd_p, List.mem_cons, List.mem_singleton, List.not_mem_nil, or_false, false_or, or_true, true_or, not_or, not_false_eq_true, not_true_eq_false, and_true, true_and, and_self] <;> omega), fr_J b2 (r0 + 4) (ob_n (by omega)) (by simp (disch := omega) only [cd_n, cd_p, List.mem_cons, List.mem_singleton, List.not_mem_nil, or_false, false_or, or_true, true_or, not_or, not_false_eq_true, not_true_eq_false, and_true, true_and, and_self] <;> omega), fr_J a2 (r0 + 4) (ob_n (by omega)) (by simp (disch := omega) only [cd_n, cd_p, WS, List.mem_cons, List.mem_singleton, List.not_mem_nil, or_false, false_or, or_true, true_or, not_or, not_false_eq_true, not_true_eq_false, and_true, true_and, and_self] <;> omega)]
      · rw [t5 x hx, fr_J c2 (24 + 6 * (r0 - 14) + x) (ob_n (by omega)) (by simp (disch := omega) only [cd_n, cd_p, List.mem_cons, List.mem_singleton, List.not_mem_nil, or_false, false_or, or_true, true_or, not_or, not_false_eq_true, not_true_eq_false, and_true, true_and, and_self] <;> omega), fr_J b2 (24 + 6 * (r0 - 14) + x) (ob_n (by omega)) (by simp (disch := omega) only [cd_n, cd_p, List.mem_cons, List.mem_singleton, List.not_mem_nil, or_false, false_or, or_true, true_or, not_or, not_false_eq_true, not_true_eq_false, and_true, true_and, and_self] <;> omega), fr_J a2 (24 + 6 * (r0 - 14) + x) (ob_n (by omega)) (by simp (disch := omega) only [cd_n, cd_p, WS, List.mem_cons, List.mem_singleton, List.not_mem_nil, or_false, false_or, or_true, true_or, not_or, not_false_eq_true, not_true_eq_false, and_true, true_and, and_self] <;> omega)]
