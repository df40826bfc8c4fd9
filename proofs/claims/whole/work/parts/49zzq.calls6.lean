/-! calls: rooms and books -/
theorem q_rooms {A : HA} {Z : hZ} {σ τ : hSt} {F : Nat} (hF : 50000 ≤ F) (h : J A Z σ τ) (x1 : Int64) (x3 : Int32) : ∃ v τ', f_X11_rooms F x1 x3 = some v ∧ f_X12_rooms F Z τ x1 x3 = some (v, τ') ∧ J A Z σ τ' := by
  obtain ⟨z1, hz1, rfl⟩ := ofl x1
  obtain ⟨z3, hz3, rfl⟩ := ofx x3
  have t0 := J_0 h 0
  unfold f_X11_rooms f_X12_rooms
  rw [i32_l hz3, show (0 : Int64) = i64 0 from rfl, show (1 : Int64) = i64 1 from rfl, show (68719476735 : Int64) = i64 68719476735 from rfl, show (68719476736 : Int64) = i64 68719476736 from rfl, p_isIn (by omega) (by omega) (by omega), obs, p_isIn (by omega) (by omega) (by omega), obs]
  by_cases c : 0 ≤ z1 ∧ z1 ≤ 68719476735
  · obtain ⟨t, rfl⟩ : ∃ t : Nat, z1 = (t : Int) := ⟨z1.toNat, by omega⟩
    rw [decide_eq_true c, b01t, if_neg n10, if_neg (mt (ltJ (by omega)).mp (show ¬ (t : Int) < 0 by omega)), if_neg (mt (leJ (by omega)).mp (show ¬ (68719476736 : Int) ≤ (t : Int) by omega))]
    by_cases d : 0 ≤ z3 ∧ z3 ≤ 1
    · rw [decide_eq_true d, b01t, if_neg n10, if_neg (show ¬ i32 z3 < (0 : Int32) from mt (ltI (b := 0) (by omega)).mp (by omega)), if_pos (show i32 z3 ≤ (1 : Int32) from (leI (b := 1) (by omega)).mpr (by omega))]
      by_cases e : z3 = 0
      · subst e
        have k := p_fs0 (F := F) (t := t) (τ := sI τ 200 0 0) (by omega) (by omega) 8 0 F (by omega) (by omega)
        have k' : f_X12_rooms_L34 F (sI τ 200 0 0) (i64 (t : Int)) (i32 0) F 0 0 = some (i32 (talS t : Int), sI τ 200 0 0) := k
        rw [if_pos (show i32 0 = 0 from rfl), p_tal (by omega) (by omega), obs, k']
        exact ⟨_, _, rfl, rfl, t0⟩
      · obtain rfl : z3 = 1 := by omega
        have k := p_fs1 (F := F) (t := t) (τ := sI τ 200 0 0) (by omega) (by omega) 8 0 F (by omega) (by omega)
        have k' : f_X12_rooms_L34 F (sI τ 200 0 0) (i64 (t : Int)) (i32 1) F 0 0 = some (i32 (worS t 8 : Int), sI τ 200 0 0) := k
        rw [if_neg (show ¬ i32 1 = 0 by decide), p_wor (by omega) (by omega), obs, k']
        exact ⟨_, _, rfl, rfl, t0⟩
    · rw [decide_eq_false d, b01f, if_pos rfl]
      by_cases e : z3 < 0
      · rw [if_pos (show i32 z3 < (0 : Int32) from (ltI (b := 0) (by omega)).mpr e)]
        exact ⟨_, _, rfl, rfl, t0⟩
      · rw [if_neg (show ¬ i32 z3 < (0 : Int32) from mt (ltI (b := 0) (by omega)).mp e), if_neg (show ¬ i32 z3 ≤ (1 : Int32) from mt (leI (b := 1) (by omega)).mp (by omega))]
        exact ⟨_, _, rfl, rfl, t0⟩
  · rw [decide_eq_false c, b01f, if_pos rfl]
    by_cases e : z1 < 0
    · rw [if_pos ((ltJ (by omega)).mpr e)]
      exact ⟨_, _, rfl, rfl, t0⟩
    · rw [if_neg (mt (ltJ (by omega)).mp e), if_pos ((leJ (by omega)).mpr (show (68719476736 : Int) ≤ z1 by omega))]
      exact ⟨_, _, rfl, rfl, t0⟩
theorem bk_pw : ∀ k, k < 5 → 2 ^ 2 ^ k ≤ 65536 := by decide
theorem bk_sh : ∀ k, k < 5 → (1 : Int64) <<< ((i32 ((2 ^ k : Nat) : Int)).toInt64 &&& 63) - 1 = i64 (((2 ^ 2 ^ k : Nat) : Int) - 1) := by decide
def bkP (z1 z2 : Int) : Prop := (1 ≤ z1 ∧ z1 ≤ 4) ∧ 0 ≤ z2 ∧ z2 < ((2 ^ 2 ^ z1.toNat : Nat) : Int)
theorem p_isBk {z1 z2 : Int} (h1 : -2147483648 ≤ z1 ∧ z1 ≤ 2147483647) (h2 : -2147483648 ≤ z2 ∧ z2 ≤ 2147483647) : (∃ k b : Nat, 1 ≤ k ∧ k ≤ 4 ∧ b < 2 ^ 2 ^ k ∧ z1 = k ∧ z2 = b ∧ f_X6_isBook (i32 z1) (i32 z2) = some 1 ∧ f_X12_isBook (i32 z1) (i32 z2) = some 1) ∨ (f_X6_isBook (i32 z1) (i32 z2) = some 0 ∧ f_X12_isBook (i32 z1) (i32 z2) = some 0) := by
  unfold f_X6_isBook f_X12_isBook
  rw [i32_l h1, show (1 : Int64) = i64 1 from rfl, show (4 : Int64) = i64 4 from rfl, p_isIn (by omega) (by omega) (by omega), obs]
  by_cases c : 1 ≤ z1 ∧ z1 ≤ 4
  · obtain ⟨k, rfl⟩ : ∃ k : Nat, z1 = (k : Int) := ⟨z1.toNat, by omega⟩
    have hk := bk_pw k (by omega)
    have hs := bk_sh k (by omega)
    have hs' : i64 1 <<< ((i32 ((2 ^ k : Nat) : Int)).toInt64 &&& 63) - i64 1 = i64 (((2 ^ 2 ^ k : Nat) : Int) - 1) := hs
    have hp : 1 ≤ 2 ^ 2 ^ k := Nat.one_le_two_pow
    rw [decide_eq_true c, b01t, if_neg n10, sh1kk (show k ≤ 4 by omega), sh1k (show k ≤ 4 by omega), hs', i32_l h2, show (0 : Int64) = i64 0 from rfl, p_isIn (by omega) (by omega) (by omega), obs, if_neg (show ¬ i32 (k : Int) < (1 : Int32) from mt (ltI (b := 1) (by omega)).mp (by omega)), if_neg (show ¬ (4 : Int32) < i32 (k : Int) from mt (ltI (a := 4) (by omega)).mp (by omega))]
    by_cases d : 0 ≤ z2 ∧ z2 ≤ ((2 ^ 2 ^ k : Nat) : Int) - 1
    · rw [decide_eq_true d, b01t, if_neg n10, if_neg (show ¬ i32 z2 < (0 : Int32) from mt (ltI (b := 0) (by omega)).mp (by omega)), if_neg (mt (leI (by omega)).mp (by omega))]
      exact Or.inl ⟨k, z2.toNat, by omega, by omega, by omega, rfl, by omega, rfl, rfl⟩
    · refine Or.inr ⟨?_, by rw [decide_eq_false d, b01f, if_pos rfl]⟩
      by_cases e : z2 < 0
      · rw [if_pos (show i32 z2 < (0 : Int32) from (ltI (b := 0) (by omega)).mpr e)]
      · rw [if_neg (show ¬ i32 z2 < (0 : Int32) from mt (ltI (b := 0) (by omega)).mp e), if_pos ((leI (by omega)).mpr (by omega))]
  · refine Or.inr ⟨?_, by rw [decide_eq_false c, b01f, if_pos rfl]⟩
    by_cases e : z1 < 1
    · rw [if_pos (show i32 z1 < (1 : Int32) from (ltI (b := 1) (by omega)).mpr e)]
    · rw [if_neg (show ¬ i32 z1 < (1 : Int32) from mt (ltI (b := 1) (by omega)).mp e), if_pos (show (4 : Int32) < i32 z1 from (ltI (a := 4) (by omega)).mpr (by omega))]
theorem q_book {A : HA} {Z : hZ} {σ τ : hSt} {F : Nat} (hF : 50000 ≤ F) (h : J A Z σ τ) (x1 x2 x3 : Int32) : ∃ v τ', f_X11_book F x1 x2 x3 = some v ∧ f_X12_book F Z τ x1 x2 x3 = some (v, τ') ∧ J A Z σ τ' := by
  obtain ⟨z1, hz1, rfl⟩ := ofx x1
  obtain ⟨z2, hz2, rfl⟩ := ofx x2
  obtain ⟨z3, hz3, rfl⟩ := ofx x3
  have t0 := J_0 h 0
  unfold f_X11_book f_X12_book
  rcases p_isBk hz1 hz2 with ⟨k, b, hk1, hk4, hb, rfl, rfl, e1, e2⟩ | ⟨e1, e2⟩
  · have hk := bk_pw k (by omega)
    have hcb := CB_le b k
    have h16 := pw4 hk4
    have h256 : CB b k ≤ 256 := by
      have : 2 ^ k * 2 ^ k ≤ 16 * 16 := Nat.mul_le_mul h16 h16
      omega
    have hpc := p_pc (F := F) (by omega) (show b < 65536 by omega) hk4
    have hmc := p_cb (F := F) (by omega) (show b < 65536 by omega) hk4
    rw [e1, obs, e2, obs, if_neg n10, if_neg n10, i32_l hz3, show (0 : Int64) = i64 0 from rfl, show (3 : Int64) = i64 3 from rfl, p_isIn (by omega) (by omega) (by omega), obs]
    by_cases c0 : z3 = 0
    · subst c0
      rw [if_pos (show i32 0 = 0 from rfl), decide_eq_true (by decide), b01t, if_neg n10, if_neg (show ¬ (2 : Int32) ≤ i32 0 by decide), if_neg (show ¬ i32 0 = (1 : Int32) by decide), hpc, obs, hmc, obs]
      by_cases d : i32 (CB b k : Int) = 0
      · rw [if_pos d, if_pos d]
        exact ⟨_, _, rfl, rfl, t0⟩
      · rw [if_neg d, if_neg d]
        exact ⟨_, _, rfl, rfl, t0⟩
    · rw [if_neg (show ¬ i32 z3 = 0 from mt (eqI (b := 0) (by omega)).mp c0)]
      by_cases c1 : z3 = 1
      · subst c1
        rw [if_pos (show i32 1 = 1 from rfl), decide_eq_true (by decide), b01t, if_neg n10, if_neg (show ¬ (2 : Int32) ≤ i32 1 by decide), if_pos (show i32 1 = (1 : Int32) from rfl), hpc, obs, hmc, obs]
        exact ⟨_, _, rfl, rfl, t0⟩
      · rw [if_neg (show ¬ i32 z3 = 1 from mt (eqI (b := 1) (by omega)).mp c1)]
        by_cases c2 : z3 = 2
        · subst c2
          have hb2 := p_mbook (F := F) (b := b) (w := 2) (τ := sI τ 200 0 0) (by omega) hk4 (Or.inl rfl)
          have hb2' : f_X12_book_L68 F (sI τ 200 0 0) (i32 (k : Int)) (i32 (b : Int)) (i32 2) F (-1) (-1) 0 = some (i32 (dsB (nrB k b (2 ^ k)) b : Int), sI τ 200 0 0) := hb2
          rw [if_pos (show i32 2 = 2 from rfl), decide_eq_true (by decide), b01t, if_neg n10, if_pos (show (2 : Int32) ≤ i32 2 by decide), hb2', p_nr (by omega) hk4, obs, p_ds, obs]
          exact ⟨_, _, rfl, rfl, t0⟩
        · rw [if_neg (show ¬ i32 z3 = 2 from mt (eqI (b := 2) (by omega)).mp c2)]
          by_cases c3 : z3 = 3
          · subst c3
            have hb2 := p_mbook (F := F) (b := b) (w := 3) (τ := sI τ 200 0 0) (by omega) hk4 (Or.inr rfl)
            have hb2' : f_X12_book_L68 F (sI τ 200 0 0) (i32 (k : Int)) (i32 (b : Int)) (i32 3) F (-1) (-1) 0 = some (i32 (nrB k b (2 ^ k) : Int), sI τ 200 0 0) := hb2
            rw [if_pos (show i32 3 = 3 from rfl), decide_eq_true (by decide), b01t, if_neg n10, if_pos (show (2 : Int32) ≤ i32 3 by decide), hb2', p_nr (by omega) hk4, obs]
            exact ⟨_, _, rfl, rfl, t0⟩
          · rw [if_neg (show ¬ i32 z3 = 3 from mt (eqI (b := 3) (by omega)).mp c3), decide_eq_false (by omega), b01f, if_pos rfl]
            exact ⟨_, _, rfl, rfl, t0⟩
  · rw [e1, obs, e2, obs, if_pos rfl, if_pos rfl]
    exact ⟨_, _, rfl, rfl, t0⟩
theorem q_mended {A : HA} {Z : hZ} {σ τ : hSt} {F : Nat} (hF : 50000 ≤ F) (h : J A Z σ τ) (x1 x2 x3 : Int32) : ∃ v τ', f_X11_mended F x1 x2 x3 = some v ∧ f_X12_mended F Z τ x1 x2 x3 = some (v, τ') ∧ J A Z σ τ' := by
  obtain ⟨z1, hz1, rfl⟩ := ofx x1
  obtain ⟨z2, hz2, rfl⟩ := ofx x2
  obtain ⟨z3, hz3, rfl⟩ := ofx x3
  have t0 := J_0 h 0
  unfold f_X11_mended f_X12_mended
  rcases p_isBk hz1 hz2 with ⟨k, b, hk1, hk4, hb, rfl, rfl, e1, e2⟩ | ⟨e1, e2⟩
  · have hk := bk_pw k (by omega)
    have h16 := pw4 hk4
    have hp : 1 ≤ 2 ^ k := Nat.one_le_two_pow
    rw [e1, obs, e2, obs, if_neg n10, if_neg n10, sh1k hk4, i32_l hz3, show i32 ((2 ^ k : Nat) : Int) - (1 : Int32) = i32 (((2 ^ k : Nat) : Int) - 1) by rw [show (1 : Int32) = i32 1 from rfl, i32_sub], i32_l (by omega), show (0 : Int64) = i64 0 from rfl, p_isIn (by omega) (by omega) (by omega), obs]
    rcases ixc z3 (2 ^ k) with ⟨z, hz, rfl⟩ | c
    · rw [decide_eq_true (show 0 ≤ (z : Int) ∧ (z : Int) ≤ ((2 ^ k : Nat) : Int) - 1 by omega), b01t, if_neg n10, if_neg (i0 (by omega)), if_pos ((ltI (by omega)).mpr (by omega))]
      unfold f_X6_mendedCell
      rw [sh1k hk4]
      have g1 := p_md (b := b) (k := k) (z := z) (by omega) hk4 hz (fun z3 => (if (2 * z3) ≤ i32 ((2 ^ k : Nat) : Int) then some (0 : Int32) else some 1)) (2 ^ k) 0 F (by omega) (by omega)
      have g2 := p_mmd (b := b) (k := k) (z := z) (by omega) hk4 hz (fun z4 => (if (2 * z4) ≤ i32 ((2 ^ k : Nat) : Int) then some ((0 : Int32), (sI τ 200 0 0)) else some ((1 : Int32), (sI τ 200 0 0)))) (2 ^ k) 0 F (by omega) (by omega)
      have g1' : f_X6_mendedCell_L5 (i32 (k : Int)) (i32 (b : Int)) (i32 (z : Int)) (fun z3 => (if (2 * z3) ≤ i32 ((2 ^ k : Nat) : Int) then some (0 : Int32) else some 1)) F 0 0 = _ := g1
      have g2' : f_X12_mended_L36 (i32 (k : Int)) (i32 (b : Int)) (i32 (z : Int)) (fun z4 => (if (2 * z4) ≤ i32 ((2 ^ k : Nat) : Int) then some ((0 : Int32), (sI τ 200 0 0)) else some ((1 : Int32), (sI τ 200 0 0)))) F 0 0 = _ := g2
      rw [g1', g2']
      by_cases d : (2 : Int32) * i32 (mdB b z (2 ^ k) : Int) ≤ i32 ((2 ^ k : Nat) : Int)
      · rw [if_pos d, if_pos d, obs]
        exact ⟨_, _, rfl, rfl, t0⟩
      · rw [if_neg d, if_neg d, obs]
        exact ⟨_, _, rfl, rfl, t0⟩
    · rw [decide_eq_false (show ¬ (0 ≤ z3 ∧ z3 ≤ ((2 ^ k : Nat) : Int) - 1) by omega), b01f, if_pos rfl]
      by_cases e : z3 < 0
      · rw [if_pos (show i32 z3 < (0 : Int32) from (ltI (b := 0) (by omega)).mpr e)]
        exact ⟨_, _, rfl, rfl, t0⟩
      · rw [if_neg (show ¬ i32 z3 < (0 : Int32) from mt (ltI (b := 0) (by omega)).mp e), if_neg (mt (ltI (by omega)).mp (by omega))]
        exact ⟨_, _, rfl, rfl, t0⟩
  · rw [e1, obs, e2, obs, if_pos rfl, if_pos rfl]
    exact ⟨_, _, rfl, rfl, t0⟩
theorem q_least {A : HA} {Z : hZ} {σ τ : hSt} {F : Nat} (hF : 50000 ≤ F) (h : J A Z σ τ) (x1 x2 : Int32) : ∃ v τ', f_X11_least F x1 x2 = some v ∧ f_X12_least F Z τ x1 x2 = some (v, τ') ∧ J A Z σ τ' := by
  obtain ⟨z1, hz1, rfl⟩ := ofx x1
  obtain ⟨z2, hz2, rfl⟩ := ofx x2
  have t0 := J_0 h 0
  unfold f_X11_least f_X12_least
  rw [i32_l hz1, i32_l hz2, show (0 : Int64) = i64 0 from rfl, show (1 : Int64) = i64 1 from rfl, show (3 : Int64) = i64 3 from rfl, p_isIn (by omega) (by omega) (by omega), obs, p_isIn (by omega) (by omega) (by omega), obs]
  by_cases c : 1 ≤ z1 ∧ z1 ≤ 3
  · obtain ⟨k, rfl⟩ : ∃ k : Nat, z1 = (k : Int) := ⟨z1.toNat, by omega⟩
    have hk : k ≤ 3 := by omega
    rw [decide_eq_true c, b01t, if_neg n10, if_neg (show ¬ i32 (k : Int) < (1 : Int32) from mt (ltI (b := 1) (by omega)).mp (by omega)), if_neg (show ¬ (3 : Int32) < i32 (k : Int) from mt (ltI (a := 3) (by omega)).mp (by omega))]
    by_cases d : 0 ≤ z2 ∧ z2 ≤ 1
    · obtain ⟨w, rfl⟩ : ∃ w : Nat, z2 = (w : Int) := ⟨z2.toNat, by omega⟩
      rw [decide_eq_true d, b01t, if_neg n10, if_neg (i0 (by omega)), if_pos (show i32 (w : Int) ≤ (1 : Int32) from (leI (b := 1) (by omega)).mpr (by omega)), p_lc (by omega) hk, obs]
      have g := p_mlc (F := F) (k := k) (w := w) (by omega) hk (fun z3 => (if z3 = (-1 : Int32) then some ((-1 : Int32), (sI τ 200 0 0)) else (if i32 (w : Int) = (0 : Int32) then (f_X12_caughtBy F (i32 (k : Int)) z3).bind fun q13 => some (q13, (sI τ 200 0 0)) else some (z3, (sI τ 200 0 0))))) (2 ^ 2 ^ k) 0 F (by omega) (by have := (pw8 hk).2; omega)
      have g' : f_X12_least_L34 F (i32 (k : Int)) (i32 (w : Int)) (fun z3 => (if z3 = (-1 : Int32) then some ((-1 : Int32), (sI τ 200 0 0)) else (if i32 (w : Int) = (0 : Int32) then (f_X12_caughtBy F (i32 (k : Int)) z3).bind fun q13 => some (q13, (sI τ 200 0 0)) else some (z3, (sI τ 200 0 0))))) F (-1) 0 = _ := g
      rw [g']
      cases q : lcF k (2 ^ 2 ^ k) with
      | none =>
        rw [if_pos (show i32 (oI none) = -1 from rfl), if_pos (show i32 (oI none) = -1 from rfl)]
        refine ⟨-1, _, ?_, rfl, t0⟩
        rw [show i32 (oI none) = -1 from rfl, ite_self]
      | some b =>
        have hlt := (lcF_lt k _ _ q).1
        have h8 := pw8 hk
        have hne : ¬ i32 (oI (some b)) = -1 := by
          show ¬ i32 (b : Int) = -1
          exact mt (eqI (b := -1) (by omega)).mp (by omega)
        have ho : i32 (oI (some b)) = i32 (b : Int) := rfl
        rw [if_neg hne, if_neg hne, ho]
        by_cases e : w = 0
        · rw [if_neg (show ¬ i32 (w : Int) = 1 from mt (eqI (b := 1) (by omega)).mp (by omega)), if_pos (show i32 (w : Int) = (0 : Int32) by rw [e]; rfl), p_pc (by omega) (by omega) (by omega), obs, p_cb (by omega) (by omega) (by omega), obs]
          exact ⟨_, _, rfl, rfl, t0⟩
        · rw [if_pos (show i32 (w : Int) = 1 by rw [show w = 1 by omega]; rfl), if_neg (show ¬ i32 (w : Int) = (0 : Int32) from mt (eqI (b := 0) (by omega)).mp (by omega))]
          exact ⟨_, _, rfl, rfl, t0⟩
    · rw [decide_eq_false d, b01f, if_pos rfl]
      by_cases e : z2 < 0
      · rw [if_pos (show i32 z2 < (0 : Int32) from (ltI (b := 0) (by omega)).mpr e)]
        exact ⟨_, _, rfl, rfl, t0⟩
      · rw [if_neg (show ¬ i32 z2 < (0 : Int32) from mt (ltI (b := 0) (by omega)).mp e), if_neg (show ¬ i32 z2 ≤ (1 : Int32) from mt (leI (b := 1) (by omega)).mp (by omega))]
        exact ⟨_, _, rfl, rfl, t0⟩
  · rw [decide_eq_false c, b01f, if_pos rfl]
    by_cases e : z1 < 1
    · rw [if_pos (show i32 z1 < (1 : Int32) from (ltI (b := 1) (by omega)).mpr e)]
      exact ⟨_, _, rfl, rfl, t0⟩
    · rw [if_neg (show ¬ i32 z1 < (1 : Int32) from mt (ltI (b := 1) (by omega)).mp e), if_pos (show (3 : Int32) < i32 z1 from (ltI (a := 3) (by omega)).mpr (by omega))]
      exact ⟨_, _, rfl, rfl, t0⟩
