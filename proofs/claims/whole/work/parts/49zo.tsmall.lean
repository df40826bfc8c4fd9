/-! the smallest prime: both loops -/
theorem okS_iff {nn : Nat} {sp : Nat → Int} {cs : Cls} {y : Int} {p : Nat} : (okS nn sp cs y p = true) ↔ (nPr p ∧ pdI nn p sp cs nn 0 1 ≠ 0 ∧ ¬ (((pdI nn p sp cs nn 0 1).toNat / Nat.gcd (pdI nn p sp cs nn 0 1).toNat (bsN nn p sp cs).toNat : Nat) : Int) / y < (((bsN nn p sp cs).toNat / Nat.gcd (pdI nn p sp cs nn 0 1).toNat (bsN nn p sp cs).toNat : Nat) : Int)) := by
  unfold okS
  exact @decide_eq_true_iff _ (Classical.propDecidable _)
theorem bs_rg {nn : Nat} {P : Int} {sp : Nat → Int} {cs : Cls} (hn : nn ≤ 6) (hP : 1 ≤ P) (hs : ∀ j, j < 6 → 0 ≤ sp j) (c : pdI nn P sp cs nn 0 1 ≠ 0) : 1 ≤ pdI nn P sp cs nn 0 1 ∧ pdI nn P sp cs nn 0 1 ≤ 1000000000000000 ∧ 0 ≤ bsN nn P sp cs ∧ bsN nn P sp cs ≤ pdI nn P sp cs nn 0 1 := by
  obtain ⟨b1, b2, b3, b4⟩ := bl_le (N := nn) (sp := sp) (cs := cs) hP hs nn 0 1 1 (by omega) (by omega) (by omega) (by omega) (by omega) c
  refine ⟨b3, b4, ?_, ?_⟩
  · unfold bsN; split <;> omega
  · unfold bsN; split <;> omega
theorem q_rg {a b : Nat} (hb : 1 ≤ b) (x : Nat) (hx : x ≤ 1000000000000000) : x / Nat.gcd b a ≤ 1000000000000000 := Nat.le_trans (Nat.div_le_self _ _) hx
theorem p_smallL {Z : hZ} {s t F nn : Nat} {y : Int} {sp : Nat → Int} {cs : Cls} (hF : 1000 ≤ F) (hn : nn ≤ 6) (hy : 1 ≤ y ∧ y ≤ 1000000) : ∀ (k p M : Nat) (σ : hSt), p + k = 1001 → 3 ≤ p → k < M → sitB Z σ s t (nn : Int) sp cs → ∃ σ', fr WA σ σ' ∧ sitB Z σ' s t (nn : Int) sp cs ∧ f_X11_small_L54 F Z s t (i32 y) M σ (i32 (p : Int)) = some (i32 (smI nn sp cs y k p), σ') := by
  intro k
  induction k with
  | zero =>
    intro p M σ hp h3 hM h
    obtain ⟨M, rfl⟩ : ∃ q, M = q + 1 := ⟨M - 1, by omega⟩
    refine ⟨σ, fr_rf _ _, h, ?_⟩
    rw [f_X11_small_L54, if_pos (show (1000 : Int32) < i32 (p : Int) by rw [show (1000 : Int32) = i32 1000 from rfl, i32_lt (by omega)]; omega), smI]
    rfl
  | succ k ih =>
    intro p M σ hp h3 hM h
    obtain ⟨M, rfl⟩ : ∃ q, M = q + 1 := ⟨M - 1, by omega⟩
    have hsp := h.2.2.2.2.2.1
    have hi1 : i32 (p : Int) + (1 : Int32) = i32 ((p + 1 : Nat) : Int) := by rw [show (1 : Int32) = i32 1 from rfl, i32_add]; rfl
    rw [f_X11_small_L54, if_neg (show ¬ (1000 : Int32) < i32 (p : Int) by rw [show (1000 : Int32) = i32 1000 from rfl, i32_lt (by omega)]; omega), p_modulus (by omega) h3 (by omega), obs, smI, hi1]
    by_cases a : nPr p
    · obtain ⟨σ1, e1, e2, e3⟩ := p_sit h (P := (p : Int)) (by omega)
      obtain ⟨σ2, u1, u2, u3⟩ := p_tellsBest (F := F) hF (show (1 : Int) ≤ (p : Int) by omega) e3
      rw [pri_t a, if_neg n10, e1, obs]
      dsimp only
      by_cases c : pdI nn p sp cs nn 0 1 = 0
      · rw [if_pos c] at u3
        obtain ⟨σ3, w1, w2, w3⟩ := ih (p + 1) M σ2 (by omega) (by omega) (by omega) (sitB_of u2)
        rw [u3, obs, if_neg (fun z => (okS_iff.mp z).2.1 c)]
        dsimp only
        rw [if_pos rfl]
        exact ⟨σ3, fr_tr e2 (fr_tr (fr_mono u1 (by decide)) w1), w2, w3⟩
      · rw [if_neg c] at u3
        obtain ⟨u3, u4, u5⟩ := u3
        obtain ⟨r1, r2, r3, r4⟩ := bs_rg (cs := cs) hn (show (1 : Int) ≤ (p : Int) by omega) (fun j hj => (hsp j hj).2.1) c
        have g1 := q_rg (a := (bsN nn p sp cs).toNat) (b := (pdI nn p sp cs nn 0 1).toNat) (by omega) (pdI nn p sp cs nn 0 1).toNat (by omega)
        have g2 := q_rg (a := (bsN nn p sp cs).toNat) (b := (pdI nn p sp cs nn 0 1).toNat) (by omega) (bsN nn p sp cs).toNat (by omega)
        have g5 := Int.natCast_nonneg ((pdI nn p sp cs nn 0 1).toNat / Nat.gcd (pdI nn p sp cs nn 0 1).toNat (bsN nn p sp cs).toNat)
        have g6 := Int.natCast_nonneg ((bsN nn p sp cs).toNat / Nat.gcd (pdI nn p sp cs nn 0 1).toNat (bsN nn p sp cs).toNat)
        have g3 : (((pdI nn p sp cs nn 0 1).toNat / Nat.gcd (pdI nn p sp cs nn 0 1).toNat (bsN nn p sp cs).toNat : Nat) : Int) / y ≤ 1000000000000000 := Int.le_trans (Int.ediv_le_self _ (by omega)) (by omega)
        have g4 : 0 ≤ (((pdI nn p sp cs nn 0 1).toNat / Nat.gcd (pdI nn p sp cs nn 0 1).toNat (bsN nn p sp cs).toNat : Nat) : Int) / y := Int.ediv_nonneg (by omega) (by omega)
        rw [u3, obs]
        dsimp only
        rw [if_neg n10]
        unfold f_X0_isAtMostOneBy
        rw [if_neg (show ¬ i32 y ≤ (0 : Int32) by rw [show (0 : Int32) = i32 0 from rfl, i32_le (by omega)]; omega), i32_l (by omega), if_neg (show ¬ i64 y = (0 : Int64) by rw [show (0 : Int64) = i64 0 from rfl, i64_eq (by omega)]; omega), u4, u5, i64_div (by omega)]
        by_cases d : (((pdI nn p sp cs nn 0 1).toNat / Nat.gcd (pdI nn p sp cs nn 0 1).toNat (bsN nn p sp cs).toNat : Nat) : Int) / y < (((bsN nn p sp cs).toNat / Nat.gcd (pdI nn p sp cs nn 0 1).toNat (bsN nn p sp cs).toNat : Nat) : Int)
        · obtain ⟨σ3, w1, w2, w3⟩ := ih (p + 1) M σ2 (by omega) (by omega) (by omega) (sitB_of u2)
          rw [if_pos (by rw [i64_lt (by omega)]; exact d), obs, if_pos rfl, if_neg (fun z => (okS_iff.mp z).2.2 d)]
          exact ⟨σ3, fr_tr e2 (fr_tr (fr_mono u1 (by decide)) w1), w2, w3⟩
        · rw [if_neg (by rw [i64_lt (by omega)]; exact d), obs, if_neg n10, if_pos (okS_iff.mpr ⟨a, c, d⟩)]
          exact ⟨σ2, fr_tr e2 (fr_mono u1 (by decide)), sitB_of u2, rfl⟩
    · obtain ⟨σ3, w1, w2, w3⟩ := ih (p + 1) M σ (by omega) (by omega) (by omega) h
      rw [pri_f a, if_pos rfl, if_neg (fun z => a (okS_iff.mp z).1)]
      exact ⟨σ3, w1, w2, w3⟩
theorem sitM_P {B : Nat → Nat} {n k s : Nat} {N P Q : Int} {sp : Nat → Int} {τ : hSt} (h : sitM B n k s N P sp τ) (hQ : 0 ≤ Q ∧ Q ≤ 1000000007) : sitM B n k s N Q sp τ := ⟨h.1, h.2.1, h.2.2.1, h.2.2.2.1, hQ, h.2.2.2.2.2⟩
theorem p_msmallL {B : Nat → Nat} {n k0 s F nn : Nat} {y : Int} {sp : Nat → Int} {Z : hZ} (hF : 40000 ≤ F) (hn : nn ≤ 6) (hy : 1 ≤ y ∧ y ≤ 1000000) : ∀ (k p M : Nat) (τ : hSt), p + k = 1001 → 3 ≤ p → k < M → sitM B n k0 s (nn : Int) 0 sp τ → ∃ υ, fr (213 :: WG) τ υ ∧ sitM B n k0 s (nn : Int) 0 sp υ ∧ f_X12_small_L91 F Z (i32 (s : Int)) (i32 (k0 : Int)) (i32 y) M τ (i32 (p : Int)) = some (i32 (smI nn sp (tZc B n 0) y k p), υ) := by
  intro k
  induction k with
  | zero =>
    intro p M τ hp h3 hM h
    obtain ⟨M, rfl⟩ : ∃ q, M = q + 1 := ⟨M - 1, by omega⟩
    refine ⟨τ, fr_rf _ _, h, ?_⟩
    rw [f_X12_small_L91, if_pos (show (1000 : Int32) < i32 (p : Int) by rw [show (1000 : Int32) = i32 1000 from rfl, i32_lt (by omega)]; omega), smI]
    rfl
  | succ k ih =>
    intro p M τ hp h3 hM h
    obtain ⟨M, rfl⟩ : ∃ q, M = q + 1 := ⟨M - 1, by omega⟩
    have hsp := h.2.2.2.2.2.2
    have hi1 : i32 (p : Int) + (1 : Int32) = i32 ((p + 1 : Nat) : Int) := by rw [show (1 : Int32) = i32 1 from rfl, i32_add]; rfl
    rw [f_X12_small_L91, if_neg (show ¬ (1000 : Int32) < i32 (p : Int) by rw [show (1000 : Int32) = i32 1000 from rfl, i32_lt (by omega)]; omega), p_mprime (by omega) (by omega), obs, smI, hi1]
    by_cases a : nPr p
    · obtain ⟨υ1, e1, e2, e3⟩ := p_mbestOf (Z := Z) (F := F) (0 : Int32) (by omega) (show (1 : Int) ≤ (p : Int) by omega) (sitM_P h (Q := (p : Int)) (by omega))
      rw [pri_t a, if_neg n10, e3, obs]
      dsimp only
      by_cases c : pdI nn p sp (tZc B n 0) nn 0 1 = 0
      · obtain ⟨υ3, w1, w2, w3⟩ := ih (p + 1) M υ1 (by omega) (by omega) (by omega) (sitM_P e2 (by omega))
        rw [if_pos c, if_pos rfl, if_neg (fun z => (okS_iff.mp z).2.1 c)]
        exact ⟨υ3, fr_tr e1 w1, w2, w3⟩
      · obtain ⟨υ2, u1, u2, u3⟩ := p_mbestOf (Z := Z) (F := F) (1 : Int32) (by omega) (show (1 : Int) ≤ (p : Int) by omega) e2
        obtain ⟨r1, r2, r3, r4⟩ := bs_rg (cs := tZc B n 0) hn (show (1 : Int) ≤ (p : Int) by omega) (fun j hj => (hsp j hj).2.1) c
        have g1 := q_rg (a := (bsN nn p sp (tZc B n 0)).toNat) (b := (pdI nn p sp (tZc B n 0) nn 0 1).toNat) (by omega) (pdI nn p sp (tZc B n 0) nn 0 1).toNat (by omega)
        have g2 := q_rg (a := (bsN nn p sp (tZc B n 0)).toNat) (b := (pdI nn p sp (tZc B n 0) nn 0 1).toNat) (by omega) (bsN nn p sp (tZc B n 0)).toNat (by omega)
        have g5 := Int.natCast_nonneg ((pdI nn p sp (tZc B n 0) nn 0 1).toNat / Nat.gcd (pdI nn p sp (tZc B n 0) nn 0 1).toNat (bsN nn p sp (tZc B n 0)).toNat)
        have g6 := Int.natCast_nonneg ((bsN nn p sp (tZc B n 0)).toNat / Nat.gcd (pdI nn p sp (tZc B n 0) nn 0 1).toNat (bsN nn p sp (tZc B n 0)).toNat)
        have g3 : (((pdI nn p sp (tZc B n 0) nn 0 1).toNat / Nat.gcd (pdI nn p sp (tZc B n 0) nn 0 1).toNat (bsN nn p sp (tZc B n 0)).toNat : Nat) : Int) / y ≤ 1000000000000000 := Int.le_trans (Int.ediv_le_self _ (by omega)) (by omega)
        have g4 : 0 ≤ (((pdI nn p sp (tZc B n 0) nn 0 1).toNat / Nat.gcd (pdI nn p sp (tZc B n 0) nn 0 1).toNat (bsN nn p sp (tZc B n 0)).toNat : Nat) : Int) / y := Int.ediv_nonneg (by omega) (by omega)
        rw [if_neg c, if_pos rfl, if_neg (show ¬ i64 ((bsN nn p sp (tZc B n 0)).toNat / Nat.gcd (pdI nn p sp (tZc B n 0) nn 0 1).toNat (bsN nn p sp (tZc B n 0)).toNat : Nat) = (-1 : Int64) by rw [show (-1 : Int64) = i64 (-1) from rfl, i64_eq (by omega)]; omega), u3, obs]
        dsimp only
        rw [if_neg c, if_neg (show ¬ (1 : Int32) = 0 from n10), i32_l (by omega), if_neg (show ¬ i64 y = (0 : Int64) by rw [show (0 : Int64) = i64 0 from rfl, i64_eq (by omega)]; omega), i64_div (by omega)]
        by_cases d : (((pdI nn p sp (tZc B n 0) nn 0 1).toNat / Nat.gcd (pdI nn p sp (tZc B n 0) nn 0 1).toNat (bsN nn p sp (tZc B n 0)).toNat : Nat) : Int) / y < (((bsN nn p sp (tZc B n 0)).toNat / Nat.gcd (pdI nn p sp (tZc B n 0) nn 0 1).toNat (bsN nn p sp (tZc B n 0)).toNat : Nat) : Int)
        · obtain ⟨υ3, w1, w2, w3⟩ := ih (p + 1) M υ2 (by omega) (by omega) (by omega) (sitM_P u2 (by omega))
          rw [if_pos (by rw [i64_lt (by omega)]; exact d), if_neg (fun z => (okS_iff.mp z).2.2 d)]
          exact ⟨υ3, fr_tr e1 (fr_tr u1 w1), w2, w3⟩
        · rw [if_neg (by rw [i64_lt (by omega)]; exact d), if_pos (okS_iff.mpr ⟨a, c, d⟩)]
          exact ⟨υ2, fr_tr e1 u1, sitM_P u2 (by omega), rfl⟩
    · obtain ⟨υ3, w1, w2, w3⟩ := ih (p + 1) M τ (by omega) (by omega) (by omega) h
      rw [pri_f a, if_pos rfl, if_neg (fun z => a (okS_iff.mp z).1)]
      exact ⟨υ3, w1, w2, w3⟩
