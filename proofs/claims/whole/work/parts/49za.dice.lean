/-! what a LAW asks round by round: class and model alike -/
abbrev Cls := List (Int × List Int × List Int)
def lwI (N P : Int) (sp : Nat → Int) (cs : Cls) (lab : Int) (i : Nat) : Int64 := lwS (lawL i N P (spK N sp i)) lab cs
def asI (N P : Int) (sp : Nat → Int) (cs : Cls) (lab : Int) (i : Nat) : Bool := decide (lwI N P sp cs lab i ≠ 0)
def dcI (N P : Int) (sp : Nat → Int) (cs : Cls) (i : Nat) : Int := if (if (lwI N P sp cs 100 i).toInt < P then (lwI N P sp cs 100 i).toInt else P) < 1 then 1 else (if (lwI N P sp cs 100 i).toInt < P then (lwI N P sp cs 100 i).toInt else P)
def rtI (N P : Int) (sp : Nat → Int) (cs : Cls) (i : Nat) : Int := if asI N P sp cs 99 i = true then (if (if 1 < dcI N P sp cs i - 1 then dcI N P sp cs i - 1 else 1) < sp i then (if 1 < dcI N P sp cs i - 1 then dcI N P sp cs i - 1 else 1) else sp i) else dcI N P sp cs i
theorem dcI_rg {N P : Int} {sp : Nat → Int} {cs : Cls} {i : Nat} (hP : 1 ≤ P) : 1 ≤ dcI N P sp cs i ∧ dcI N P sp cs i ≤ P := by
  unfold dcI
  split <;> split <;> omega
theorem dc_v {v : Int64} {P : Int} (hP : 1 ≤ P ∧ P ≤ 1000000007) : (((if (if v < (i32 P).toInt64 then v else (i32 P).toInt64) < (1 : Int64) then (1 : Int64) else (if v < (i32 P).toInt64 then v else (i32 P).toInt64)) : Int64)).toInt32 = i32 (if (if v.toInt < P then v.toInt else P) < 1 then 1 else (if v.toInt < P then v.toInt else P)) := by
  have h1 := Int64.le_toInt v
  have h2 := Int64.toInt_lt v
  rw [i32_l (by omega)]
  generalize hv : v.toInt = t at h1 h2
  have hv2 : v = i64 t := by rw [← hv]; exact i64_of v
  rw [hv2]
  by_cases a : t < P
  · rw [if_pos (show i64 t < i64 P by rw [i64_lt (by omega)]; exact a), if_pos a]
    by_cases b : t < 1
    · rw [if_pos (show i64 t < (1 : Int64) by rw [show (1 : Int64) = i64 1 from rfl, i64_lt (by omega)]; exact b), if_pos b]
      rfl
    · rw [if_neg (show ¬ i64 t < (1 : Int64) by rw [show (1 : Int64) = i64 1 from rfl, i64_lt (by omega)]; exact b), if_neg b, i64_i]
  · rw [if_neg (show ¬ i64 t < i64 P by rw [i64_lt (by omega)]; exact a), if_neg a, if_neg (show ¬ i64 P < (1 : Int64) by rw [show (1 : Int64) = i64 1 from rfl, i64_lt (by omega)]; omega), if_neg (by omega), i64_i]
theorem as_v {v : Int64} {σ : hSt} : (if v = (0 : Int64) then some ((0 : Int32), σ) else some ((1 : Int32), σ)) = some (b01 (decide (v ≠ 0)), σ) := by
  by_cases c : v = 0
  · rw [if_pos c, decide_eq_false (fun z => z c)]; rfl
  · rw [if_neg c, decide_eq_true c]; rfl
theorem p_asks {Z : hZ} {σ : hSt} {s t F i : Nat} {N P : Int} {sp : Nat → Int} {cs : Cls} (hF : 1000 ≤ F) (hi : i ≤ 6) (h : sitH Z σ s t N P sp cs) : ∃ σ', f_X0_asksForSum F Z σ (i32 (i : Int)) = some (b01 (asI N P sp cs 99 i), σ') ∧ fr [8, 13] σ σ' ∧ sitH Z σ' s t N P sp cs := by
  obtain ⟨σ', e1, e2, e3⟩ := p_lawWorth (lab := 99) hF (by omega) hi h
  refine ⟨σ', ?_, e2, e3⟩
  unfold f_X0_asksForSum
  rw [show f_X0_lawWorth F Z σ 99 (i32 (i : Int)) = _ from e1, obs]
  exact as_v
theorem p_asksEnd {Z : hZ} {σ : hSt} {s t F : Nat} {N P : Int} {sp : Nat → Int} {cs : Cls} (hF : 1000 ≤ F) (h : sitH Z σ s t N P sp cs) : ∃ σ', f_X0_asksAtEnd F Z σ = some (b01 (asI N P sp cs 101 N.toNat), σ') ∧ fr [8, 13] σ σ' ∧ sitH Z σ' s t N P sp cs := by
  have hN := h.2.2.2.2.2.2.1
  obtain ⟨σ', e1, e2, e3⟩ := p_lawWorth (lab := 101) (i := N.toNat) hF (by omega) (by omega) h
  refine ⟨σ', ?_, e2, e3⟩
  unfold f_X0_asksAtEnd
  rw [p_rounds h.1 h.2.1 h.2.2.2.2.2.1, obs, show f_X0_lawWorth F Z σ 101 (i32 N) = some (lwI N P sp cs 101 N.toNat, σ') by rw [show i32 N = i32 ((N.toNat : Nat) : Int) by congr 1; omega]; exact e1, obs]
  exact as_v
theorem p_dice {Z : hZ} {σ : hSt} {s t F i : Nat} {N P : Int} {sp : Nat → Int} {cs : Cls} (hF : 1000 ≤ F) (hi : i ≤ 6) (hP : 1 ≤ P) (h : sitH Z σ s t N P sp cs) : ∃ σ', f_X0_dice F Z σ (i32 (i : Int)) = some (i32 (dcI N P sp cs i), σ') ∧ fr [8, 13] σ σ' ∧ sitH Z σ' s t N P sp cs := by
  obtain ⟨σ', e1, e2, e3⟩ := p_lawWorth (lab := 100) hF (by omega) hi h
  refine ⟨σ', ?_, e2, e3⟩
  have hP2 := h.2.2.2.2.2.2.2.1
  unfold f_X0_dice
  rw [show f_X0_lawWorth F Z σ 100 (i32 (i : Int)) = _ from e1, obs]
  dsimp only
  rw [h.2.2.2.2.1, dc_v ⟨hP, hP2.2⟩]
  rfl
/-! model -/
def sitM (B : Nat → Nat) (n k s : Nat) (N P : Int) (sp : Nat → Int) (τ : hSt) : Prop := kpM B n k τ ∧ txF B n 0 = none ∧ s ≤ 20 ∧ (0 ≤ N ∧ N ≤ 6) ∧ (0 ≤ P ∧ P ≤ 1000000007) ∧ τ.1 204 s = i32 N ∧ ∀ j, j < 6 → τ.1 205 (6 * s + j) = i32 (sp j) ∧ 0 ≤ sp j ∧ sp j ≤ 200
theorem sitM_fr {B : Nat → Nat} {n k s : Nat} {N P : Int} {sp : Nat → Int} {τ υ : hSt} (h : sitM B n k s N P sp τ) (f : fr (213 :: WG) τ υ) : sitM B n k s N P sp υ := by
  obtain ⟨⟨k1, k2, k3, k4⟩, a2, a3, a4, a5, a6, a7⟩ := h
  refine ⟨⟨k1, k2, by rw [f.1 212 k (by rw [cd_a rfl]; decide)]; exact k3, fun j hj => ?_⟩, a2, a3, a4, a5, by rw [f.1 204 s (by rw [cd_a rfl]; decide)]; exact a6, fun j hj => ?_⟩
  · rw [f.1 211 _ (by rw [cd_a rfl]; decide)]; exact k4 j hj
  · rw [f.1 205 _ (by rw [cd_a rfl]; decide)]; exact a7 j hj
theorem p_mlw {B : Nat → Nat} {n k s F i : Nat} {N P lab : Int} {sp : Nat → Int} {Z : hZ} {τ : hSt} (hF : 300 ≤ F) (hlab : 0 ≤ lab ∧ lab ≤ 255) (hi : i ≤ 6) (h : sitM B n k s N P sp τ) : ∃ υ, f_X12_lawWorth F Z τ (i32 (k : Int)) (i32 (s : Int)) (i32 P) (i32 (i : Int)) (i32 lab) = some (lwI N P sp (tZc B n 0) lab i, υ) ∧ fr (213 :: WG) τ υ ∧ sitM B n k s N P sp υ := by
  obtain ⟨a1, a2, a3, a4, a5, a6, a7⟩ := h
  obtain ⟨υ, e1, e2⟩ := p_mlawWorth (Z := Z) hF hlab hi a3 a1 a2 a4 a5 a6 a7
  exact ⟨υ, e1, e2, sitM_fr ⟨a1, a2, a3, a4, a5, a6, a7⟩ e2⟩
theorem p_masks {B : Nat → Nat} {n k s F i : Nat} {N P : Int} {sp : Nat → Int} {Z : hZ} {τ : hSt} (hF : 300 ≤ F) (hi : i ≤ 6) (h : sitM B n k s N P sp τ) : ∃ υ, f_X12_asksSum F Z τ (i32 (k : Int)) (i32 (s : Int)) (i32 P) (i32 (i : Int)) = some (b01 (asI N P sp (tZc B n 0) 99 i), υ) ∧ fr (213 :: WG) τ υ ∧ sitM B n k s N P sp υ := by
  obtain ⟨υ, e1, e2, e3⟩ := p_mlw (Z := Z) (lab := 99) hF (by omega) hi h
  refine ⟨υ, ?_, e2, e3⟩
  unfold f_X12_asksSum
  rw [show f_X12_lawWorth F Z τ (i32 (k : Int)) (i32 (s : Int)) (i32 P) (i32 (i : Int)) 99 = _ from e1, obs]
  exact as_v
theorem p_masksEnd {B : Nat → Nat} {n k s F : Nat} {N P : Int} {sp : Nat → Int} {Z : hZ} {τ : hSt} (hF : 300 ≤ F) (h : sitM B n k s N P sp τ) : ∃ υ, f_X12_asksEnd F Z τ (i32 (k : Int)) (i32 (s : Int)) (i32 P) = some (b01 (asI N P sp (tZc B n 0) 101 N.toNat), υ) ∧ fr (213 :: WG) τ υ ∧ sitM B n k s N P sp υ := by
  have hN := h.2.2.2.1
  have hs := h.2.2.1
  obtain ⟨υ, e1, e2, e3⟩ := p_mlw (Z := Z) (lab := 101) (i := N.toNat) hF (by omega) (by omega) h
  refine ⟨υ, ?_, e2, e3⟩
  unfold f_X12_asksEnd
  rw [i32_cn (by omega), if_neg (show ¬ (i32 (s : Int) < (0 : Int32) ∨ 21 ≤ s) by rw [show (0 : Int32) = i32 0 from rfl, i32_lt (by omega)]; omega), h.2.2.2.2.2.1, show f_X12_lawWorth F Z τ (i32 (k : Int)) (i32 (s : Int)) (i32 P) (i32 N) 101 = some (lwI N P sp (tZc B n 0) 101 N.toNat, υ) by rw [show i32 N = i32 ((N.toNat : Nat) : Int) by congr 1; omega]; exact e1, obs]
  exact as_v
theorem p_mdraws {B : Nat → Nat} {n k s F i : Nat} {N P : Int} {sp : Nat → Int} {Z : hZ} {τ : hSt} (hF : 300 ≤ F) (hi : i ≤ 6) (hP : 1 ≤ P) (h : sitM B n k s N P sp τ) : ∃ υ, f_X12_draws F Z τ (i32 (k : Int)) (i32 (s : Int)) (i32 P) (i32 (i : Int)) = some (i32 (dcI N P sp (tZc B n 0) i), υ) ∧ fr (213 :: WG) τ υ ∧ sitM B n k s N P sp υ := by
  obtain ⟨υ, e1, e2, e3⟩ := p_mlw (Z := Z) (lab := 100) hF (by omega) hi h
  refine ⟨υ, ?_, e2, e3⟩
  unfold f_X12_draws
  rw [show f_X12_lawWorth F Z τ (i32 (k : Int)) (i32 (s : Int)) (i32 P) (i32 (i : Int)) 100 = _ from e1, obs]
  dsimp only
  rw [dc_v ⟨hP, h.2.2.2.2.1.2⟩]
  rfl
