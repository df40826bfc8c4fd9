/-! values of SUMS, model -/
def clp (z : Int64) : Int64 := if (if z < (2000000000 : Int64) then z else (2000000000 : Int64)) < (-2000000000 : Int64) then (-2000000000 : Int64) else (if z < (2000000000 : Int64) then z else (2000000000 : Int64))
theorem p_within (z : Int64) : f_X12_within z = some (clp z) := rfl
theorem bd_i {v : Int} (h : -2000000000 ≤ v ∧ v ≤ 2000000000) : bd (i64 v) := by
  unfold bd; rw [i64_toInt (by omega)]; exact h
theorem i64_ng : (-2000000000 : Int64) = i64 (-2000000000) := by decide
theorem clp_bd (z : Int64) : bd (clp z) := by
  have h1 := Int64.le_toInt z
  have h2 := Int64.toInt_lt z
  rw [i64_of z]
  generalize z.toInt = t at h1 h2
  unfold clp
  rw [i64_ng, show (2000000000 : Int64) = i64 2000000000 from rfl]
  by_cases a : t < 2000000000
  · rw [if_pos (show i64 t < i64 2000000000 by rw [i64_lt (by omega)]; exact a)]
    by_cases b : t < -2000000000
    · rw [if_pos (show i64 t < i64 (-2000000000) by rw [i64_lt (by omega)]; exact b)]
      exact bd_i (by omega)
    · rw [if_neg (show ¬ i64 t < i64 (-2000000000) by rw [i64_lt (by omega)]; exact b)]
      exact bd_i (by omega)
  · rw [if_neg (show ¬ i64 t < i64 2000000000 by rw [i64_lt (by omega)]; exact a), if_neg (by decide)]
    exact bd_i (by omega)
theorem clp_id {z : Int64} (h : bd z) : clp z = z := by
  unfold bd at h
  rw [i64_of z]
  generalize z.toInt = t at h
  unfold clp
  rw [i64_ng, show (2000000000 : Int64) = i64 2000000000 from rfl]
  by_cases a : t < 2000000000
  · rw [if_pos (show i64 t < i64 2000000000 by rw [i64_lt (by omega)]; exact a), if_neg (show ¬ i64 t < i64 (-2000000000) by rw [i64_lt (by omega)]; omega)]
  · rw [if_neg (show ¬ i64 t < i64 2000000000 by rw [i64_lt (by omega)]; exact a), if_neg (by decide)]
    congr 1; omega
theorem bd_div {x y : Int64} (h : bd x) : bd (x / y) := by
  have h1 := Int64.le_toInt y
  have h2 := Int64.toInt_lt y
  unfold bd at h
  rw [i64_of x, i64_of y]
  generalize y.toInt = b at h1 h2
  generalize x.toInt = a at h
  rw [i64_tdiv (by omega)]
  have hq : (a.tdiv b).natAbs ≤ a.natAbs := by rw [Int.natAbs_tdiv]; exact Nat.div_le_self _ _
  exact bd_i (by omega)
theorem wk_43 (x y : Int64) : wk (i32 43) x y = clp (x + y) := rfl
theorem wk_45 (x y : Int64) : wk (i32 45) x y = clp (x - y) := rfl
theorem wk_42 (x y : Int64) : wk (i32 42) x y = clp (x * y) := rfl
theorem wk_47 (x y : Int64) : wk (i32 47) x y = if y = 0 then 0 else x / y := by
  have : f_X3_worked (i32 47) x y = (if y = 0 then some 0 else if y = 0 then none else some (x / y)) := rfl
  unfold wk
  rw [this]
  by_cases c : y = 0
  · rw [if_pos c, if_pos c]; rfl
  · rw [if_neg c, if_neg c, if_neg c]; rfl
/-- a loop over things with one of two signs between, as the model goes -/
def lpV (B : Nat → Nat) (n r bs g dp a b : Nat) (L : Nat → Int64) (u : hSt → Option (Int64 × hSt)) (Lp : Nat → hSt → Int64 → Option (Int64 × hSt)) : Prop :=
  (∀ N τ p z, okV B n r bs g L τ p dp → bd z → ∃ τ1, fr WV τ τ1 ∧ (if isC2 a b (pk B n (sk B n p)) = true then okV B n r bs g L τ1 (sk B n p + 1) dp ∧ sk B n p < n ∧ Lp (N + 1) τ z = (u τ1).bind fun q => Lp N q.2 (wk (i32 (pk B n (sk B n p) : Int)) z q.1) else okV B n r bs g L τ1 (sk B n p) dp ∧ Lp (N + 1) τ z = some (z, τ1))) ∧
  (∀ N τ z, ¬ τ.1 200 7 = (-1 : Int32) → Lp (N + 1) τ z = some (z, τ)) ∧
  (∀ (c : Nat) z w, isC2 a b c = true → bd z → bd (wk (i32 (c : Int)) z w))
theorem evS_bin {L : Nat → Int64} {a b : List Int} {x y : Int64} {c : Nat} (ha : ∀ s, evS L a s = x :: s) (hb : ∀ s, evS L b s = y :: s) (hc : c ≠ 33) : ∀ s, evS L (a ++ (b ++ [emC c])) s = wk (i32 (c : Int)) x y :: s := by
  intro s
  rw [evS_app, evS_app, ha, hb, evS, evS]
  unfold eop emC
  rw [if_neg (by omega), if_neg (by omega), if_neg (by omega), show 20000 + (c : Int) - 20000 = (c : Int) by omega]
theorem f_ne {q : Nat} {τ : hSt} (hq : q ≤ 1000) (h : τ.1 200 7 = i32 (q : Int)) : ¬ τ.1 200 7 = (-1 : Int32) := by
  rw [h, show (-1 : Int32) = i32 (-1) from rfl, i32_eq (by omega)]; omega
theorem p_chV {B : Nat → Nat} {n r bs g dp a b : Nat} {L : Nat → Int64} {it : Nat → PR} {u : hSt → Option (Int64 × hSt)} {Lp : Nat → hSt → Int64 → Option (Int64 × hSt)} (hab : a ≠ 0 ∧ b ≠ 0 ∧ a ≠ 33 ∧ b ≠ 33) (hl : lpV B n r bs g dp a b L u Lp) (hg : PG n it) (hu : ∀ τ p, okV B n r bs g L τ p dp → resV B n r bs g L τ dp (it p) (u τ)) :
    ∀ k p N (τ : hSt) z acc, k + 1 < N → n ≤ p + k → okV B n r bs g L τ p dp → bd z → (∀ s, evS L acc s = z :: s) → resV B n r bs g L τ dp (chL B n (isC2 a b) emC it k p acc) (Lp N τ z) := by
  intro k
  induction k with
  | zero =>
    intro p N τ z acc hN hnp ho hz ha
    obtain ⟨N, rfl⟩ : ∃ q, N = q + 1 := ⟨N - 1, by omega⟩
    have hpn := ho.1.2.1
    obtain rfl : p = n := by omega
    obtain ⟨τ1, f1, h1⟩ := hl.1 N τ p z ho hz
    have hc : ¬ isC2 a b (pk B p (sk B p p)) = true := by
      rw [sk_n]
      unfold pk isC2
      rw [if_neg (by omega)]
      simp only [Bool.or_eq_true, beq_iff_eq]
      omega
    rw [if_neg hc, sk_n] at h1
    rw [chL]
    exact ⟨τ1, z, h1.2, f1, fun _ => ⟨h1.1, hz, ha⟩, fun z => by cases z⟩
  | succ k ih =>
    intro p N τ z acc hN hnp ho hz ha
    obtain ⟨N, rfl⟩ : ∃ q, N = q + 1 := ⟨N - 1, by omega⟩
    have hs := sk_rg (B := B) ho.1.2.1
    obtain ⟨τ1, f1, h1⟩ := hl.1 N τ p z ho hz
    rw [chL]
    by_cases c : isC2 a b (pk B n (sk B n p)) = true
    · rw [if_pos c] at h1
      obtain ⟨h2, h3, h4⟩ := h1
      have c33 : pk B n (sk B n p) ≠ 33 := by
        unfold isC2 at c
        simp only [Bool.or_eq_true, beq_iff_eq] at c
        omega
      rw [if_pos c, h4]
      obtain ⟨υ, w, b1, b2, b3, b4⟩ := hu τ1 _ h2
      obtain ⟨g1, g2⟩ := hg (sk B n p + 1) h3
      rw [b1, obs]
      dsimp only
      by_cases d : (it (sk B n p + 1)).1 = true
      · obtain ⟨c1, c2, c3⟩ := b3 d
        obtain ⟨g3, g4⟩ := g2 d
        rw [if_pos d]
        exact resV_pre (fr_tr f1 b2) (ih _ N υ _ _ (by omega) (by omega) c1 (hl.2.2 _ _ _ c hz) (evS_bin ha c3 c33))
      · have d2 : (it (sk B n p + 1)).1 = false := by cases h : (it (sk B n p + 1)).1 with
          | false => rfl
          | true => exact absurd h d
        have hf := b4 d2
        obtain ⟨N, rfl⟩ : ∃ q, N = q + 1 := ⟨N - 1, by omega⟩
        have hn := ho.1.1
        rw [if_neg d, hl.2.1 N υ _ (f_ne (by omega) hf)]
        exact resV_0 rfl (fr_tr f1 b2) hf
    · rw [if_neg c] at h1
      rw [if_neg c]
      exact ⟨τ1, z, h1.2, f1, fun _ => ⟨h1.1, hz, ha⟩, fun z => by cases z⟩
theorem p_rowV {B : Nat → Nat} {n r bs g dp a b F : Nat} {L : Nat → Int64} {it : Nat → PR} {u : hSt → Option (Int64 × hSt)} {Lp : Nat → hSt → Int64 → Option (Int64 × hSt)} (hF : 300 ≤ F) (hab : a ≠ 0 ∧ b ≠ 0 ∧ a ≠ 33 ∧ b ≠ 33) (hl : lpV B n r bs g dp a b L u Lp) (hg : PG n it) (hu : ∀ τ p, okV B n r bs g L τ p dp → resV B n r bs g L τ dp (it p) (u τ)) (τ : hSt) (p : Nat) (ho : okV B n r bs g L τ p dp) : resV B n r bs g L τ dp (chn B n (isC2 a b) emC it p) ((u τ).bind fun q1 => Lp F q1.2 q1.1) := by
  obtain ⟨υ, w, b1, b2, b3, b4⟩ := hu τ p ho
  obtain ⟨g1, g2⟩ := hg p ho.1.2.1
  have hn := ho.1.1
  unfold chn
  rw [b1, obs]
  dsimp only
  by_cases d : (it p).1 = true
  · obtain ⟨c1, c2, c3⟩ := b3 d
    rw [if_pos d]
    exact resV_pre b2 (p_chV hab hl hg hu 200 _ F υ w _ (by omega) (by omega) c1 c2 c3)
  · have d2 : (it p).1 = false := by cases h : (it p).1 with
      | false => rfl
      | true => exact absurd h d
    have hf := b4 d2
    obtain ⟨F, rfl⟩ : ∃ q, F = q + 1 := ⟨F - 1, by omega⟩
    rw [if_neg d, hl.2.1 F υ _ (f_ne (by omega) hf)]
    exact resV_0 rfl b2 hf
