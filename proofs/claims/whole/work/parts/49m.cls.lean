/-! clauses one by one -/
theorem stM_WC {B : Nat → Nat} {n m : Nat} {r : PR} (hr : r.1 = true → WC m r.2.2) (h : (stM B n r).1 = true) : WC m (stM B n r).2.2 := by
  unfold stM at h ⊢
  by_cases d : r.1 = true
  · rw [if_pos d] at h ⊢
    by_cases e : pk B n (sk B n r.2.1) = 63
    · rw [if_pos e]; exact hr d
    · rw [if_neg e] at h; cases h
  · rw [if_neg d] at h; cases h
theorem tO_WC {B : Nat → Nat} {n g q : Nat} (hg : g ≤ 1) (hB : ∀ j, j < n → 1 ≤ B j ∧ B j ≤ 255) (h : (tO B n g q).1 = true) : WC 18 (tO B n g q).2.2 := by
  unfold tO at h ⊢
  by_cases c : pk B n q = 33 ∨ pk B n q = 40
  · rw [if_pos c] at h ⊢
    exact stM_WC (fun z => tC_WC hg hB 6 q z) h
  · rw [if_neg c] at h ⊢
    by_cases e : (tT B n g 6 q).1 = true
    · rw [if_pos e] at h ⊢
      by_cases e2 : isCm (pk B n (sk B n (tT B n g 6 q).2.1)) = true
      · rw [if_pos e2] at h ⊢
        exact stM_WC (fun z => tB_WC hg hB (tT_WC hg hB 6 q e) z) h
      · rw [if_neg e2] at h ⊢
        by_cases e3 : pk B n (sk B n (tT B n g 6 q).2.1) = 63
        · rw [if_pos e3] at h; cases h
        · rw [if_neg e3]; exact WC_up (tT_WC hg hB 6 q e) (by omega)
    · rw [if_neg e] at h; cases h
/-- CONDITION and SUM of a clause -/
def tQc (B : Nat → Nat) (n g : Nat) (o : PR) : List Int × List Int := if pk B n (sk B n o.2.1) = 63 then (o.2.2, (tT B n g 6 (sk B n o.2.1 + 1)).2.2) else ([], o.2.2)
def tKc (B : Nat → Nat) (n g p : Nat) : Int × List Int × List Int := ((pk B n (sk B n p) : Int), tQc B n g (tO B n g (sk B n (sk B n (sk B n p + 1) + 1))))
theorem tK_cl {B : Nat → Nat} {n g p : Nat} (hg : g ≤ 1) (hB : ∀ j, j < n → 1 ≤ B j ∧ B j ≤ 255) (h : (tK B n g p).1 = true) : (tK B n g p).2.2 = fl1 (tKc B n g p) ∧ clO (tKc B n g p) := by
  have hp := pkB_le (q := sk B n p) hB
  unfold tK at h ⊢
  by_cases c : 0 ≤ ixS (2 * g) (pk B n (sk B n p))
  · rw [if_pos c] at h ⊢
    by_cases c2 : pk B n (sk B n (sk B n p + 1)) = 58
    · rw [if_pos c2] at h ⊢
      unfold tKc
      generalize hq : sk B n (sk B n (sk B n p + 1) + 1) = q at h ⊢
      unfold tQ at h ⊢
      unfold tQc
      by_cases d : (tO B n g q).1 = true
      · have hO := tO_WC hg hB d
        rw [if_pos d] at h ⊢
        by_cases e : pk B n (sk B n (tO B n g q).2.1) = 63
        · rw [if_pos e] at h ⊢
          rw [if_pos e]
          by_cases e2 : (tT B n g 6 (sk B n (tO B n g q).2.1 + 1)).1 = true
          · rw [if_pos e2]
            exact ⟨rfl, ⟨by show (0 : Int) ≤ (pk B n (sk B n p) : Int); omega, by show (pk B n (sk B n p) : Int) ≤ 255; omega⟩, Or.inr hO, WC_up (tT_WC hg hB 6 _ e2) (by omega)⟩
          · rw [if_neg e2] at h; cases h
        · rw [if_neg e]
          rw [if_neg e]
          exact ⟨rfl, ⟨by show (0 : Int) ≤ (pk B n (sk B n p) : Int); omega, by show (pk B n (sk B n p) : Int) ≤ 255; omega⟩, Or.inl rfl, hO⟩
      · rw [if_neg d] at h; cases h
    · rw [if_neg c2] at h; cases h
  · rw [if_neg c] at h; cases h
theorem flat_app : ∀ a b, flat (a ++ b) = flat a ++ flat b
  | [], _ => rfl
  | c :: a, b => by rw [List.cons_append, flat, flat, flat_app a b, List.append_assoc]
def clLc (B : Nat → Nat) (n g : Nat) : Nat → Nat → List (Int × List Int × List Int) → List (Int × List Int × List Int)
  | 0, _, cs => cs
  | k + 1, p, cs => if pk B n (sk B n p) = 59 then (if (tK B n g (sk B n p + 1)).1 = true then clLc B n g k (tK B n g (sk B n p + 1)).2.1 (cs ++ [tKc B n g (sk B n p + 1)]) else []) else cs
theorem clL_cl {B : Nat → Nat} {n g : Nat} (hg : g ≤ 1) (hB : ∀ j, j < n → 1 ≤ B j ∧ B j ≤ 255) : ∀ k p cs, (∀ c ∈ cs, clO c) → (clL B n g k p (flat cs)).1 = true → (clL B n g k p (flat cs)).2.2 = flat (clLc B n g k p cs) ∧ ∀ c ∈ clLc B n g k p cs, clO c
  | 0, p, cs, hc => by
    rw [clL, clLc]
    exact fun _ => ⟨rfl, hc⟩
  | k + 1, p, cs, hc => by
    rw [clL, clLc]
    by_cases c : pk B n (sk B n p) = 59
    · rw [if_pos c, if_pos c]
      by_cases d : (tK B n g (sk B n p + 1)).1 = true
      · obtain ⟨k1, k2⟩ := tK_cl hg hB d
        have e : flat cs ++ (tK B n g (sk B n p + 1)).2.2 = flat (cs ++ [tKc B n g (sk B n p + 1)]) := by
          rw [flat_app, k1]
          simp only [flat, List.append_nil]
        rw [if_pos d, if_pos d, e]
        refine clL_cl hg hB k _ _ ?_
        intro c hc2
        rw [List.mem_append, List.mem_singleton] at hc2
        rcases hc2 with hc2 | hc2
        · exact hc c hc2
        · rw [hc2]; exact k2
      · rw [if_neg d]
        intro z; cases z
    · rw [if_neg c, if_neg c]
      exact fun _ => ⟨rfl, hc⟩
def tZc (B : Nat → Nat) (n g : Nat) : List (Int × List Int × List Int) := clLc B n g 200 (tK B n g 0).2.1 [tKc B n g 0]
theorem tZ_cl {B : Nat → Nat} {n g : Nat} (hg : g ≤ 1) (hB : ∀ j, j < n → 1 ≤ B j ∧ B j ≤ 255) (h : (tZ B n g).1 = true) : (tZ B n g).2.2 = flat (tZc B n g) ∧ ∀ c ∈ tZc B n g, clO c := by
  unfold tZ at h ⊢
  unfold tZc
  by_cases d : (tK B n g 0).1 = true
  · obtain ⟨k1, k2⟩ := tK_cl hg hB d
    have e : (tK B n g 0).2.2 = flat [tKc B n g 0] := by
      rw [k1]
      simp only [flat, List.append_nil]
    rw [if_pos d] at h ⊢
    rw [e] at h ⊢
    exact clL_cl hg hB 200 _ _ (fun c hc => by rw [List.mem_singleton.1 hc]; exact k2) h
  · rw [if_neg d] at h; cases h
