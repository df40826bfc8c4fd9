/-! the smallest prime that is good enough -/
theorem p_modulus {F p : Nat} (hF : 300 ≤ F) (h3 : 3 ≤ p) (hp : p ≤ 1000000007) : f_X11_isModulus F (i32 (p : Int)) = some (pri p) := by
  unfold f_X11_isModulus
  rw [if_neg (show ¬ i32 (p : Int) ≤ (2 : Int32) by rw [show (2 : Int32) = i32 2 from rfl, i32_le (by omega)]; omega), p_isPrime hF (by omega), obs]
  have : prI (p : Int) = pri p := by
    unfold prI
    rw [if_pos (by omega)]
    rfl
  rw [this]
  unfold pri
  split
  · rfl
  · rfl
/-- the most of a row -/
def mxI (sp : Nat → Int) : Nat → Nat → Int → Int
  | 0, _, z => z
  | k + 1, i, z => mxI sp k (i + 1) (if z < sp i then sp i else z)
theorem p_mostL {Z : hZ} {s : Nat} {sp : Nat → Int} (h1 : Z.2.1 (s + 2000) = 6) (h2 : ∀ j, j < 6 → Z.2.2.1 (s + 2000) j = i32 (sp j) ∧ 0 ≤ sp j ∧ sp j ≤ 200) : ∀ (k i M : Nat) (z : Int), i + k = 6 → k < M → 0 ≤ z → z ≤ 200 → f_X4_mostSteep_L13 Z s (6 : Int32) M (i32 z) (i32 (i : Int)) = some (i32 (mxI sp k i z)) ∧ 0 ≤ mxI sp k i z ∧ mxI sp k i z ≤ 200 := by
  intro k
  induction k with
  | zero =>
    intro i M z hi hM h3 h4
    obtain ⟨M, rfl⟩ : ∃ q, M = q + 1 := ⟨M - 1, by omega⟩
    rw [f_X4_mostSteep_L13, if_pos (show (6 : Int32) ≤ i32 (i : Int) by rw [show (6 : Int32) = i32 6 from rfl, i32_le (by omega)]; omega), mxI]
    exact ⟨rfl, h3, h4⟩
  | succ k ih =>
    intro i M z hi hM h3 h4
    obtain ⟨M, rfl⟩ : ∃ q, M = q + 1 := ⟨M - 1, by omega⟩
    have hs := h2 i (by omega)
    have hm : (if i32 z < i32 (sp i) then i32 (sp i) else i32 z) = i32 (if z < sp i then sp i else z) := by
      by_cases c : z < sp i
      · rw [if_pos (show i32 z < i32 (sp i) by rw [i32_lt (by omega)]; exact c), if_pos c]
      · rw [if_neg (show ¬ i32 z < i32 (sp i) by rw [i32_lt (by omega)]; exact c), if_neg c]
    rw [f_X4_mostSteep_L13, if_neg (show ¬ (6 : Int32) ≤ i32 (i : Int) by rw [show (6 : Int32) = i32 6 from rfl, i32_le (by omega)]; omega), h1, i32_cn (by omega), if_neg (show ¬ (i32 (i : Int) < (0 : Int32) ∨ 6 ≤ i) by rw [show (0 : Int32) = i32 0 from rfl, i32_lt (by omega)]; omega), hs.1, hm, show i32 (i : Int) + (1 : Int32) = i32 ((i + 1 : Nat) : Int) by rw [show (1 : Int32) = i32 1 from rfl, i32_add]; rfl, mxI]
    exact ih (i + 1) M _ (by omega) (by omega) (by split <;> omega) (by split <;> omega)
theorem p_mostSteep {F : Nat} {Z : hZ} {σ : hSt} {s : Nat} {sp : Nat → Int} (hF : 300 ≤ F) (h1 : Z.2.1 (s + 2000) = 6) (h2 : ∀ j, j < 6 → Z.2.2.1 (s + 2000) j = i32 (sp j) ∧ 0 ≤ sp j ∧ sp j ≤ 200) : f_X4_mostSteep F Z σ s = some (i32 (mxI sp 6 0 0)) ∧ 0 ≤ mxI sp 6 0 0 ∧ mxI sp 6 0 0 ≤ 200 := by
  unfold f_X4_mostSteep
  rw [h1]
  exact p_mostL h1 h2 6 0 F 0 (by omega) (by omega) (by omega) (by omega)
theorem mx_0 {sp : Nat → Int} : ∀ (k i : Nat) (z : Int), 0 ≤ z → (∀ j, i ≤ j → j < i + k → sp j = 0) → mxI sp k i z = z := by
  intro k
  induction k with
  | zero => intro i z _ _; rfl
  | succ k ih =>
    intro i z hz h
    rw [mxI, h i (by omega) (by omega), if_neg (by omega)]
    exact ih (i + 1) z hz (fun j a b => h j (by omega) (by omega))
theorem mx_add {sp : Nat → Int} : ∀ (k l i : Nat) (z : Int), mxI sp (k + l) i z = mxI sp l (i + k) (mxI sp k i z) := by
  intro k
  induction k with
  | zero => intro l i z; rw [Nat.zero_add]; rfl
  | succ k ih =>
    intro l i z
    rw [show k + 1 + l = (k + l) + 1 by omega, mxI, ih, mxI, show i + 1 + k = i + (k + 1) by omega]
theorem p_mmostL {τ : hSt} {s nn : Nat} {y2 y3 : Int32} {sp : Nat → Int} {K : Int32 → Option (Int32 × hSt)} (hs : s ≤ 20) (hn : nn ≤ 6) (h1 : τ.1 204 s = i32 (nn : Int)) (h2 : ∀ j, j < 6 → τ.1 205 (6 * s + j) = i32 (sp j) ∧ 0 ≤ sp j ∧ sp j ≤ 200) : ∀ (k i M : Nat) (z : Int), i + k = nn → k < M → 0 ≤ z → z ≤ 200 → f_X12_small_L49 τ (i32 (s : Int)) y2 y3 K M (i32 ((if 2 < z then z else 2) + 1)) (i32 (i : Int)) = K (i32 ((if 2 < mxI sp k i z then mxI sp k i z else 2) + 1)) := by
  intro k
  induction k with
  | zero =>
    intro i M z hi hM h3 h4
    obtain ⟨M, rfl⟩ : ∃ q, M = q + 1 := ⟨M - 1, by omega⟩
    rw [f_X12_small_L49, i32_cn (by omega), if_neg (show ¬ (i32 (s : Int) < (0 : Int32) ∨ 21 ≤ s) by rw [show (0 : Int32) = i32 0 from rfl, i32_lt (by omega)]; omega), h1, if_pos (show i32 (nn : Int) ≤ i32 (i : Int) by rw [i32_le (by omega)]; omega), mxI]
  | succ k ih =>
    intro i M z hi hM h3 h4
    obtain ⟨M, rfl⟩ : ∃ q, M = q + 1 := ⟨M - 1, by omega⟩
    have hsp := h2 i (by omega)
    have hq : (6 : Int32) * i32 (s : Int) + i32 (i : Int) = i32 ((6 * s + i : Nat) : Int) := by rw [show (6 : Int32) = i32 6 from rfl, i32_mul, i32_add]; rfl
    have hm : (if i32 ((if 2 < z then z else 2) + 1) < i32 (sp i + 1) then i32 (sp i + 1) else i32 ((if 2 < z then z else 2) + 1)) = i32 ((if 2 < (if z < sp i then sp i else z) then (if z < sp i then sp i else z) else 2) + 1) := by
      have hb : 3 ≤ (if 2 < z then z else 2) + 1 ∧ (if 2 < z then z else 2) + 1 ≤ 201 := by split <;> omega
      by_cases c : (if 2 < z then z else 2) + 1 < sp i + 1
      · rw [if_pos (show i32 ((if 2 < z then z else 2) + 1) < i32 (sp i + 1) by rw [i32_lt (by omega)]; exact c)]
        congr 1
        split at c <;> split <;> (try split) <;> omega
      · rw [if_neg (show ¬ i32 ((if 2 < z then z else 2) + 1) < i32 (sp i + 1) by rw [i32_lt (by omega)]; exact c)]
        congr 1
        split at c <;> split <;> (try split) <;> (try split) <;> omega
    rw [f_X12_small_L49, i32_cn (by omega), if_neg (show ¬ (i32 (s : Int) < (0 : Int32) ∨ 21 ≤ s) by rw [show (0 : Int32) = i32 0 from rfl, i32_lt (by omega)]; omega), h1, if_neg (show ¬ i32 (nn : Int) ≤ i32 (i : Int) by rw [i32_le (by omega)]; omega), hq, i32_cn (by omega), if_neg (show ¬ (i32 ((6 * s + i : Nat) : Int) < (0 : Int32) ∨ 126 ≤ 6 * s + i) by rw [show (0 : Int32) = i32 0 from rfl, i32_lt (by omega)]; omega), hsp.1, show i32 (sp i) + (1 : Int32) = i32 (sp i + 1) by rw [show (1 : Int32) = i32 1 from rfl, i32_add], hm, show i32 (i : Int) + (1 : Int32) = i32 ((i + 1 : Nat) : Int) by rw [show (1 : Int32) = i32 1 from rfl, i32_add]; rfl, mxI]
    exact ih (i + 1) M _ (by omega) (by omega) (by split <;> omega) (by split <;> omega)
/-- is the best liar's chance at p at most one in y? -/
noncomputable def okS (nn : Nat) (sp : Nat → Int) (cs : Cls) (y : Int) (p : Nat) : Bool := @decide (nPr p ∧ pdI nn p sp cs nn 0 1 ≠ 0 ∧ ¬ (((pdI nn p sp cs nn 0 1).toNat / Nat.gcd (pdI nn p sp cs nn 0 1).toNat (bsN nn p sp cs).toNat : Nat) : Int) / y < (((bsN nn p sp cs).toNat / Nat.gcd (pdI nn p sp cs nn 0 1).toNat (bsN nn p sp cs).toNat : Nat) : Int)) (Classical.propDecidable _)
noncomputable def smI (nn : Nat) (sp : Nat → Int) (cs : Cls) (y : Int) : Nat → Nat → Int
  | 0, _ => -1
  | k + 1, p => if okS nn sp cs y p = true then (p : Int) else smI nn sp cs y k (p + 1)
