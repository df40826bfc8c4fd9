/-! calls: numbers told, what is refused -/
theorem ofx (x : Int32) : ∃ z : Int, (-2147483648 ≤ z ∧ z ≤ 2147483647) ∧ x = i32 z := ⟨x.toInt, ⟨Int32.le_toInt x, by have := Int32.toInt_lt x; omega⟩, i32_of x⟩
theorem ofl (x : Int64) : ∃ z : Int, (-9223372036854775808 ≤ z ∧ z ≤ 9223372036854775807) ∧ x = i64 z := ⟨x.toInt, ⟨Int64.le_toInt x, Int64.toInt_le x⟩, i64_of x⟩
theorem ltI {a b : Int} (h : -2147483648 ≤ a ∧ a ≤ 2147483647 ∧ -2147483648 ≤ b ∧ b ≤ 2147483647) : i32 a < i32 b ↔ a < b := Iff.of_eq (i32_lt h)
theorem leI {a b : Int} (h : -2147483648 ≤ a ∧ a ≤ 2147483647 ∧ -2147483648 ≤ b ∧ b ≤ 2147483647) : i32 a ≤ i32 b ↔ a ≤ b := Iff.of_eq (i32_le h)
theorem eqI {a b : Int} (h : -2147483648 ≤ a ∧ a ≤ 2147483647 ∧ -2147483648 ≤ b ∧ b ≤ 2147483647) : i32 a = i32 b ↔ a = b := Iff.of_eq (i32_eq h)
theorem ltJ {a b : Int} (h : -9223372036854775808 ≤ a ∧ a ≤ 9223372036854775807 ∧ -9223372036854775808 ≤ b ∧ b ≤ 9223372036854775807) : i64 a < i64 b ↔ a < b := Iff.of_eq (i64_lt h)
theorem leJ {a b : Int} (h : -9223372036854775808 ≤ a ∧ a ≤ 9223372036854775807 ∧ -9223372036854775808 ≤ b ∧ b ≤ 9223372036854775807) : i64 a ≤ i64 b ↔ a ≤ b := Iff.of_eq (i64_le h)
theorem eqJ {a b : Int} (h : -9223372036854775808 ≤ a ∧ a ≤ 9223372036854775807 ∧ -9223372036854775808 ≤ b ∧ b ≤ 9223372036854775807) : i64 a = i64 b ↔ a = b := Iff.of_eq (i64_eq h)
theorem p_isIn {z a b : Int} (hz : -9223372036854775808 ≤ z ∧ z ≤ 9223372036854775807) (ha : -9223372036854775808 ≤ a ∧ a ≤ 9223372036854775807) (hb : -9223372036854775808 ≤ b ∧ b ≤ 9223372036854775807) : f_X12_isIn (i64 z) (i64 a) (i64 b) = some (b01 (decide (a ≤ z ∧ z ≤ b))) := by
  unfold f_X12_isIn
  by_cases c : z < a
  · rw [if_pos ((ltJ (by omega)).mpr c), decide_eq_false (by omega)]; rfl
  · rw [if_neg (mt (ltJ (by omega)).mp c)]
    by_cases d : b < z
    · rw [if_pos ((ltJ (by omega)).mpr d), decide_eq_false (by omega)]; rfl
    · rw [if_neg (mt (ltJ (by omega)).mp d), decide_eq_true (by omega)]; rfl
/-- of an int: is it one of n, told from 0 -/
theorem ixc (z : Int) (n : Nat) : (∃ s : Nat, s < n ∧ z = (s : Int)) ∨ ¬ (0 ≤ z ∧ z < n) := by
  by_cases c : 0 ≤ z ∧ z < n
  · exact Or.inl ⟨z.toNat, by omega, by omega⟩
  · exact Or.inr c
theorem p_get {Z : hZ} {σ : hSt} {r n b s : Nat} (h : liZ Z r n b) (hn : n ≤ 1000) (hs : s < n) : f_Jx4a65c_get_915e3 Z σ r (i32 (s : Int)) = some (some (b + s)) := by
  obtain ⟨e, a1, a2, a3, a5, a4⟩ := h.2 (by omega)
  unfold f_Jx4a65c_get_915e3 f_J15_checkIndex_7cf53 f_J3_checkIndex_8e157 f_Jx4a65c_elementData_915e3
  rw [h.1, if_neg (i0 (by omega)), if_pos (show i32 (s : Int) < i32 (n : Int) by rw [i32_lt (by omega)]; omega), obs, obs, a1, oc_1, if_pos a2, i32_cn (by omega), if_neg (ix_ok (show s < Z.2.1 e by omega) (by omega)), a4 s hs, obs]
theorem p_sayAt {Z : hZ} {σ : hSt} {n s : Nat} (h : liZ Z 38 n 1000) (hn : n ≤ 1000) (hs : s < n) (hi : isSa Z (1000 + s) = true) : f_X11_sayingAt Z σ (i32 (s : Int)) = some (some (1000 + s)) := by
  unfold f_X11_sayingAt
  rw [if_neg (i0 (by omega))]
  unfold f_Jx4a65c_size_8abf5
  rw [h.1, obs, if_pos (show i32 (s : Int) < i32 (n : Int) by rw [i32_lt (by omega)]; omega), p_get h hn hs, obs, oc_1, if_pos hi]
theorem p_sayNo {Z : hZ} {σ : hSt} {n : Nat} {z : Int} (h : liZ Z 38 n 1000) (hn : n ≤ 1000) (hz : -2147483648 ≤ z ∧ z ≤ 2147483647) (hs : ¬ (0 ≤ z ∧ z < n)) : f_X11_sayingAt Z σ (i32 z) = some none := by
  unfold f_X11_sayingAt f_Jx4a65c_size_8abf5
  rw [h.1, obs]
  by_cases c : z < 0
  · rw [if_pos (show i32 z < (0 : Int32) by rw [show (0 : Int32) = i32 0 from rfl, i32_lt (by omega)]; exact c)]
  · rw [if_neg (show ¬ i32 z < (0 : Int32) by rw [show (0 : Int32) = i32 0 from rfl, i32_lt (by omega)]; exact c), if_neg (show ¬ i32 z < i32 (n : Int) by rw [i32_lt (by omega)]; omega)]
theorem p_talkAt {Z : hZ} {σ : hSt} {n s : Nat} (h : liZ Z 41 n 8000) (hn : n ≤ 1000) (hs : s < n) (hi : isTa Z (8000 + s) = true) : f_X11_talkAt Z σ (i32 (s : Int)) = some (some (8000 + s)) := by
  unfold f_X11_talkAt
  rw [if_neg (i0 (by omega))]
  unfold f_Jx4a65c_size_8abf5
  rw [h.1, obs, if_pos (show i32 (s : Int) < i32 (n : Int) by rw [i32_lt (by omega)]; omega), p_get h hn hs, obs, oc_1, if_pos hi]
theorem p_talkNo {Z : hZ} {σ : hSt} {n : Nat} {z : Int} (h : liZ Z 41 n 8000) (hn : n ≤ 1000) (hz : -2147483648 ≤ z ∧ z ≤ 2147483647) (hs : ¬ (0 ≤ z ∧ z < n)) : f_X11_talkAt Z σ (i32 z) = some none := by
  unfold f_X11_talkAt f_Jx4a65c_size_8abf5
  rw [h.1, obs]
  by_cases c : z < 0
  · rw [if_pos (show i32 z < (0 : Int32) by rw [show (0 : Int32) = i32 0 from rfl, i32_lt (by omega)]; exact c)]
  · rw [if_neg (show ¬ i32 z < (0 : Int32) by rw [show (0 : Int32) = i32 0 from rfl, i32_lt (by omega)]; exact c), if_neg (show ¬ i32 z < i32 (n : Int) by rw [i32_lt (by omega)]; omega)]
theorem p_netAt {Z : hZ} {σ : hSt} {n s : Nat} (h : liZ Z 42 n 9000) (hn : n ≤ 1000) (hs : s < n) (hi : isNe Z (9000 + s) = true) : f_X11_netAt Z σ (i32 (s : Int)) = some (some (9000 + s)) := by
  unfold f_X11_netAt
  rw [if_neg (i0 (by omega))]
  unfold f_Jx4a65c_size_8abf5
  rw [h.1, obs, if_pos (show i32 (s : Int) < i32 (n : Int) by rw [i32_lt (by omega)]; omega), p_get h hn hs, obs, oc_1, if_pos hi]
theorem p_netNo {Z : hZ} {σ : hSt} {n : Nat} {z : Int} (h : liZ Z 42 n 9000) (hn : n ≤ 1000) (hz : -2147483648 ≤ z ∧ z ≤ 2147483647) (hs : ¬ (0 ≤ z ∧ z < n)) : f_X11_netAt Z σ (i32 z) = some none := by
  unfold f_X11_netAt f_Jx4a65c_size_8abf5
  rw [h.1, obs]
  by_cases c : z < 0
  · rw [if_pos (show i32 z < (0 : Int32) by rw [show (0 : Int32) = i32 0 from rfl, i32_lt (by omega)]; exact c)]
  · rw [if_neg (show ¬ i32 z < (0 : Int32) by rw [show (0 : Int32) = i32 0 from rfl, i32_lt (by omega)]; exact c), if_neg (show ¬ i32 z < i32 (n : Int) by rw [i32_lt (by omega)]; omega)]
theorem p_textAt {Z : hZ} {σ : hSt} {r b n s : Nat} (h : liZ Z r n b) (hn : n ≤ 1000) (hs : s < n) (hi : isTe Z (b + s) = true) : f_X11_textAt Z σ r (i32 (s : Int)) = some (some (b + s)) := by
  unfold f_X11_textAt
  rw [if_neg (i0 (by omega))]
  unfold f_Jx4a65c_size_8abf5
  rw [h.1, obs, if_pos (show i32 (s : Int) < i32 (n : Int) by rw [i32_lt (by omega)]; omega), p_get h hn hs, obs, oc_1, if_pos hi]
theorem p_textNo {Z : hZ} {σ : hSt} {r b n : Nat} {z : Int} (h : liZ Z r n b) (hn : n ≤ 1000) (hz : -2147483648 ≤ z ∧ z ≤ 2147483647) (hs : ¬ (0 ≤ z ∧ z < n)) : f_X11_textAt Z σ r (i32 z) = some none := by
  unfold f_X11_textAt f_Jx4a65c_size_8abf5
  rw [h.1, obs]
  by_cases c : z < 0
  · rw [if_pos (show i32 z < (0 : Int32) by rw [show (0 : Int32) = i32 0 from rfl, i32_lt (by omega)]; exact c)]
  · rw [if_neg (show ¬ i32 z < (0 : Int32) by rw [show (0 : Int32) = i32 0 from rfl, i32_lt (by omega)]; exact c), if_neg (show ¬ i32 z < i32 (n : Int) by rw [i32_lt (by omega)]; omega)]
theorem p_misS {Z : hZ} {τ : hSt} {n : Nat} {z : Int} (h : τ.1 200 15 = i32 (n : Int)) (hn : n ≤ 1000) (hz : -2147483648 ≤ z ∧ z ≤ 2147483647) : f_X12_isSaying Z τ (i32 z) = some (b01 (decide (0 ≤ z ∧ z < n))) := by
  unfold f_X12_isSaying
  rw [h, show (0 : Int32) = i32 0 from rfl]
  by_cases c : z < 0
  · rw [if_pos ((ltI (by omega)).mpr c), decide_eq_false (by omega)]; rfl
  · rw [if_neg (mt (ltI (by omega)).mp c)]
    by_cases d : (n : Int) ≤ z
    · rw [if_pos ((leI (by omega)).mpr d), decide_eq_false (by omega)]; rfl
    · rw [if_neg (mt (leI (by omega)).mp d), decide_eq_true (by omega)]; rfl
theorem p_misK {Z : hZ} {τ : hSt} {n : Nat} {z : Int} (h : τ.1 200 36 = i32 (n : Int)) (hn : n ≤ 1000) (hz : -2147483648 ≤ z ∧ z ≤ 2147483647) : f_X12_isTalk Z τ (i32 z) = some (b01 (decide (0 ≤ z ∧ z < n))) := by
  unfold f_X12_isTalk
  rw [h, show (0 : Int32) = i32 0 from rfl]
  by_cases c : z < 0
  · rw [if_pos ((ltI (by omega)).mpr c), decide_eq_false (by omega)]; rfl
  · rw [if_neg (mt (ltI (by omega)).mp c)]
    by_cases d : (n : Int) ≤ z
    · rw [if_pos ((leI (by omega)).mpr d), decide_eq_false (by omega)]; rfl
    · rw [if_neg (mt (leI (by omega)).mp d), decide_eq_true (by omega)]; rfl
theorem p_misN {Z : hZ} {τ : hSt} {n : Nat} {z : Int} (h : τ.1 200 58 = i32 (n : Int)) (hn : n ≤ 1000) (hz : -2147483648 ≤ z ∧ z ≤ 2147483647) : f_X12_isNet Z τ (i32 z) = some (b01 (decide (0 ≤ z ∧ z < n))) := by
  unfold f_X12_isNet
  rw [h, show (0 : Int32) = i32 0 from rfl]
  by_cases c : z < 0
  · rw [if_pos ((ltI (by omega)).mpr c), decide_eq_false (by omega)]; rfl
  · rw [if_neg (mt (ltI (by omega)).mp c)]
    by_cases d : (n : Int) ≤ z
    · rw [if_pos ((leI (by omega)).mpr d), decide_eq_false (by omega)]; rfl
    · rw [if_neg (mt (leI (by omega)).mp d), decide_eq_true (by omega)]; rfl
theorem J_0 {A : HA} {Z : hZ} {σ τ : hSt} (h : J A Z σ τ) (v : Int32) : J A Z σ (sI τ 200 0 v) := J_W h (fr_rf [] _) th0 (by decide) (by decide) (by decide) (by decide) (by decide)
/-- count -/
theorem q_count {A : HA} {Z : hZ} {σ τ : hSt} (h : J A Z σ τ) (x : Int32) : ∃ v τ', f_X11_count Z σ x = some v ∧ f_X12_count Z τ x = some (v, τ') ∧ J A Z σ τ' := by
  refine ⟨?v, sI τ 200 0 0, ?a, ?b, J_0 h 0⟩
  case v => exact (f_X11_count Z σ x).getD 0
  all_goals
    obtain ⟨hA, ⟨⟨z1, -⟩, ⟨z2, -⟩, ⟨z3, -⟩, ⟨z4, -⟩, ⟨z5, -⟩⟩, ⟨s1, s2, -⟩, ⟨m1, ⟨m2, -⟩, ⟨m3, -⟩, ⟨m4, -⟩, ⟨m5, -⟩, ⟨m6, -⟩, ⟨m7, -⟩, -⟩, -⟩ := h
    unfold f_X11_count f_Jx4a65c_size_8abf5
    try unfold f_X12_count
    try rw [m1.2.1, m2, m3, m4, m5, m6, m7]
    rw [z1.1, z2.1, z3.1, z4.1, z5.1, s1.2.1, s2.1]
    repeat' (first | rfl | split)
/-- lay -/
def upP (A : HA) (n : Nat) (f : Nat → Int) : HA := (A.1, A.2.1, A.2.2.1, A.2.2.2.1, A.2.2.2.2.1, A.2.2.2.2.2.1, (n, f), A.2.2.2.2.2.2.2)
theorem J_P {A : HA} {Z : hZ} {σ τ σ' τ' : hSt} {n : Nat} {f : Nat → Int} (h : J A Z σ τ) (hn : n ≤ 6) (hf : ∀ j, j < n → 0 ≤ f j ∧ f j ≤ 2147483647) (k : fr [43, 10015] σ σ') (k' : fr [209, 30000, 30020] τ τ') (a : σ'.1 0 15 = i32 (n : Int) ∧ ∀ j, j < n → σ'.1 43 j = i32 (f j)) (b : τ'.1 200 20 = i32 (n : Int) ∧ ∀ j, j < n → τ'.1 209 j = i32 (f j)) : J (upP A n f) Z σ' τ' := by
  obtain ⟨hA, hZ, hS, hM, hL⟩ := h
  obtain ⟨a1, a2, a3, a4, a5, a6, a7, a8, a9, a10, a11, a12⟩ := hA
  obtain ⟨s1, s2, s3, s4, s5, s6⟩ := hS
  obtain ⟨m1, ⟨m2, m2'⟩, ⟨m3, m3'⟩, ⟨m4, m4'⟩, ⟨m5, m5'⟩, ⟨m6, m6'⟩, -, m8, m9⟩ := hM
  refine ⟨⟨a1, a2, a3, a4, a5, a6, a7, a8, a9, a10, hn, hf⟩, hZ, ⟨tpH_W s1 k (by decide) (by decide), a, z13_W s3 k (by decide), caS_W (Or.inl rfl) s4 k (by decide) (by decide), caS_W (Or.inr rfl) s5 k (by decide) (by decide), ?_⟩, ⟨tpM_W m1 k' (by decide) (by decide), ⟨by rw [k'.1 200 15 (by decide)]; exact m2, fun s hs => sgM_W (m2' s hs) k' (by decide) (by decide) (by decide) (by decide) (by decide)⟩, ⟨by rw [k'.1 200 25 (by decide)]; exact m3, fun k hk => kpM_W (m3' k hk) k' (by decide) (by decide)⟩, ⟨by rw [k'.1 200 26 (by decide)]; exact m4, fun k hk => kpM_W (m4' k hk) k' (by decide) (by decide)⟩, ⟨by rw [k'.1 200 36 (by decide)]; exact m5, fun x hx => ?_⟩, ⟨by rw [k'.1 200 58 (by decide)]; exact m6, fun i hi => ?_⟩, b, k'.2.2.2 m8, ?_⟩, hL⟩
  · have s6' : JLc A σ' := by
      unfold JLc at s6 ⊢
      unfold JLo at hL
      have hnm := okA_nm (A := A) ⟨a1, a2, a3, a4, a5, a6, a7, a8, a9, a10, a11, a12⟩ (by unfold JLo; exact hL)
      cases e : aL A with
      | none =>
        rw [e] at s6
        dsimp only at s6 ⊢
        exact ⟨by rw [k.2.2.1 14 8 (by decide)]; exact s6.1, by rw [k.1 14 12 (by decide)]; exact s6.2⟩
      | some L =>
        rw [e] at s6 hL
        dsimp only at s6 hL ⊢
        have h6 := hnm L e
        obtain ⟨⟨a1, a2, a3, a4, a5, a6, a7⟩, b⟩ := s6
        refine ⟨⟨by rw [k.2.2.1 14 8 (by decide)]; exact a1, by rw [k.2.1 14 9 (by decide)]; exact a2, by rw [k.1 14 11 (by decide)]; exact a3, by rw [k.1 14 12 (by decide)]; exact a4, by rw [k.2.1 14 10 (by decide)]; exact a5, by rw [k.1 14 13 (by decide)]; exact a6, fun q hq => by rw [fr_J k 18 rfl (by decide)]; exact a7 q hq⟩, fun x hx q hq => ?_⟩
        have hx6 : x < 6 := by have := hL.2.2.1; omega
        dsimp only
        rw [fr_J k (24 + x) (ob_n (by omega)) (by
          have : ∀ x, x < 6 → 24 + x ∉ [43, 10015] := by decide
          exact this x hx6)]
        exact b x hx q hq
    exact s6'
  · rw [fr_I k' 214 rfl (by decide), fr_I k' 215 rfl (by decide), fr_I k' 216 rfl (by decide), fr_I k' 217 rfl (by decide)]
    exact m5' x hx
  · rw [fr_I k' 222 rfl (by decide), fr_I k' 223 rfl (by decide)]
    exact m6' i hi
  · have m9' : JLm A τ' := by
      unfold JLm at m9 ⊢
      cases e : aL A with
      | none =>
        rw [e] at m9
        dsimp only at m9 ⊢
        rw [k'.1 200 39 (by decide)]; exact m9
      | some L =>
        rw [e] at m9
        dsimp only at m9 ⊢
        refine ⟨lM_W m9.1 k' (by decide) (by decide) (by decide) (by decide) (by decide) (by decide) (by decide) (by decide), fun x hx q hq => ?_⟩
        dsimp only
        rw [fr_J k' 220 rfl (by decide)]
        exact m9.2 x hx q hq
    exact m9'
theorem q_lay {A : HA} {Z : hZ} {σ τ : hSt} (h : J A Z σ τ) (x : Int32) : ∃ v A' σ' τ', f_X11_lay Z σ x = some (v, σ') ∧ f_X12_lay Z τ x = some (v, τ') ∧ J A' Z σ' τ' := by
  obtain ⟨z, hz, rfl⟩ := ofx x
  have hp := h.1.2.2.2.2.2.2.2.2.2.2
  have s2 := h.2.2.1.2.1
  have m7 := h.2.2.2.1.2.2.2.2.2.2.1
  unfold f_X11_lay f_X12_lay
  rw [s2.1, m7.1, show (0 : Int32) = i32 0 from rfl, show (6 : Int32) = i32 6 from rfl]
  by_cases c : z < 0
  · rw [if_pos ((ltI (by omega)).mpr c), if_pos ((ltI (by omega)).mpr c)]
    exact ⟨_, A, σ, _, rfl, rfl, J_0 h _⟩
  · rw [if_neg (mt (ltI (by omega)).mp c), if_neg (mt (ltI (by omega)).mp c), if_neg (mt (ltI (by omega)).mp (show ¬ (nP_ A : Int) < 0 by omega))]
    by_cases d : nP_ A = 6
    · rw [if_neg (mt (ltI (by omega)).mp (show ¬ (nP_ A : Int) < 6 by omega)), if_pos ((eqI (by omega)).mpr (show (nP_ A : Int) = 6 by omega))]
      exact ⟨_, A, σ, _, rfl, rfl, J_0 h _⟩
    · have hx := ix_ok (x := nP_ A) (r := 6) (by omega) (by omega)
      rw [if_pos ((ltI (by omega)).mpr (show (nP_ A : Int) < 6 by omega)), if_neg (mt (eqI (by omega)).mp (show ¬ (nP_ A : Int) = 6 by omega)), i32_cn (by omega)]
      have hx' : ¬ (i32 (nP_ A : Int) < i32 0 ∨ 6 ≤ nP_ A) := hx
      rw [if_neg hx', if_neg hx']
      refine ⟨_, upP A (nP_ A + 1) (uI (fP A) (nP_ A) z), _, _, rfl, rfl, J_P h (by omega) (fun j hj => ?_) (fr_tr (fr_sI _ _ (by rw [cd_a rfl]; decide)) (fr_sI _ _ (by decide))) (fr_tr (fr_sI _ _ (by decide)) (fr_tr (fr_sI _ _ (by rw [cd_a rfl]; decide)) (fr_sI _ _ (by decide)))) ⟨?_, fun j hj => ?_⟩ ⟨?_, fun j hj => ?_⟩⟩
      · by_cases e : j = nP_ A
        · rw [uI_t _ _ e]; omega
        · rw [uI_f _ _ (by omega)]; exact hp.2 j (by omega)
      · rw [sI_t _ _ ⟨rfl, rfl⟩, ip1]
      · rw [sI_r _ _ (by omega)]
        by_cases e : j = nP_ A
        · rw [sI_t _ _ ⟨rfl, e⟩, uI_t _ _ e]
        · rw [sI_j _ _ (by omega), uI_f _ _ (by omega)]; exact s2.2 j (by omega)
      · rw [sI_t _ _ ⟨rfl, rfl⟩, ip1]
      · rw [sI_r _ _ (by omega)]
        by_cases e : j = nP_ A
        · rw [sI_t _ _ ⟨rfl, e⟩, uI_t _ _ e]
        · rw [sI_j _ _ (by omega), sI_r _ _ (by omega), uI_f _ _ (by omega)]; exact m7.2 j (by omega)
theorem q_clear {A : HA} {Z : hZ} {σ τ : hSt} (h : J A Z σ τ) : ∃ v A' σ' τ', f_X11_clear Z σ = some (v, σ') ∧ f_X12_clear Z τ = some (v, τ') ∧ J A' Z σ' τ' := by
  have s2 := h.2.2.1.2.1
  have m7 := h.2.2.2.1.2.2.2.2.2.2.1
  unfold f_X11_clear f_X12_clear
  rw [s2.1, m7.1]
  exact ⟨_, upP A 0 (fP A), _, _, rfl, rfl, J_P h (by omega) (fun j hj => absurd hj (Nat.not_lt_zero j)) (fr_sI _ _ (by decide)) (fr_tr (fr_sI _ _ (by decide)) (fr_sI _ _ (by decide))) ⟨by rw [sI_t _ _ ⟨rfl, rfl⟩]; rfl, fun j hj => absurd hj (Nat.not_lt_zero j)⟩ ⟨by rw [sI_t _ _ ⟨rfl, rfl⟩]; rfl, fun j hj => absurd hj (Nat.not_lt_zero j)⟩⟩
