/-! a row of signs that was read is well made -/
def stH (c : Int) (h : Nat) : Nat := if c < 6 then h + 1 else if c = 6 then h else h - 1
def rH : List Int → Nat → Nat
  | [], h => h
  | c :: l, h => rH l (stH c h)
def vd : List Int → Nat → Nat → Prop
  | [], h, m => h ≤ m
  | c :: l, h, m => h ≤ m ∧ 0 ≤ c ∧ c ≤ 8 ∧ (c = 6 → 1 ≤ h) ∧ (7 ≤ c → 2 ≤ h) ∧ vd l (stH c h) m
theorem rH_app : ∀ l m h, rH (l ++ m) h = rH m (rH l h)
  | [], m, h => rfl
  | c :: l, m, h => rH_app l m (stH c h)
theorem vd_app {M : Nat} : ∀ l m h, vd l h M → vd m (rH l h) M → vd (l ++ m) h M
  | [], m, h, _, k => k
  | c :: l, m, h, a, k => ⟨a.1, a.2.1, a.2.2.1, a.2.2.2.1, a.2.2.2.2.1, vd_app l m (stH c h) a.2.2.2.2.2 k⟩
theorem vd_mono {M N : Nat} (h : M ≤ N) : ∀ l x, vd l x M → vd l x N
  | [], x, a => Nat.le_trans a h
  | c :: l, x, a => ⟨Nat.le_trans a.1 h, a.2.1, a.2.2.1, a.2.2.2.1, a.2.2.2.2.1, vd_mono h l _ a.2.2.2.2.2⟩
/-- what is read of one thing: it puts one number on, and goes so much higher at most -/
def GH (it : Nat → PR) (b : Nat) : Prop := ∀ p, (it p).1 = true → ∀ h, vd (it p).2.2 h (h + b) ∧ rH (it p).2.2 h = h + 1
theorem chL_GH {B : Nat → Nat} {n : Nat} {ops : Nat → Bool} {it : Nat → PR} {b : Nat} {e : Int} (hb : 1 ≤ b) (he : 7 ≤ e ∧ e ≤ 8) (hi : GH it b) : ∀ k p acc, (∀ h, vd acc h (h + (b + 1)) ∧ rH acc h = h + 1) → (chL B n ops (fun _ => e) it k p acc).1 = true → ∀ h, vd (chL B n ops (fun _ => e) it k p acc).2.2 h (h + (b + 1)) ∧ rH (chL B n ops (fun _ => e) it k p acc).2.2 h = h + 1
  | 0, p, acc, ha, _ => ha
  | k + 1, p, acc, ha, hr => by
    rw [chL] at hr ⊢
    by_cases c : ops (pk B n (sk B n p)) = true
    · rw [if_pos c] at hr ⊢
      by_cases d : (it (sk B n p + 1)).1 = true
      · rw [if_pos d] at hr ⊢
        refine chL_GH hb he hi k _ _ (fun h => ?_) hr
        obtain ⟨a1, a2⟩ := ha h
        obtain ⟨b1, b2⟩ := hi _ d (h + 1)
        have e1 : stH e (h + 1 + 1) = h + 1 := by unfold stH; rw [if_neg (by omega), if_neg (by omega)]; omega
        refine ⟨vd_app _ _ _ a1 ?_, ?_⟩
        · rw [a2]
          refine vd_app _ _ _ (vd_mono (by omega) _ _ b1) ?_
          rw [b2]
          exact ⟨by omega, by omega, by omega, by omega, by omega, by show stH e (h + 1 + 1) ≤ _; rw [e1]; omega⟩
        · rw [rH_app, a2, rH_app, b2]
          exact e1
      · rw [if_neg d] at hr
        cases hr
    · rw [if_neg c]
      exact ha
theorem chn_GH {B : Nat → Nat} {n : Nat} {ops : Nat → Bool} {it : Nat → PR} {b : Nat} {e : Int} (hb : 1 ≤ b) (he : 7 ≤ e ∧ e ≤ 8) (hi : GH it b) : GH (chn B n ops (fun _ => e) it) (b + 1) := by
  intro p hr
  unfold chn at hr ⊢
  by_cases d : (it p).1 = true
  · rw [if_pos d] at hr ⊢
    exact chL_GH hb he hi 200 _ _ (fun h => ⟨vd_mono (by omega) _ _ (hi p d h).1, (hi p d h).2⟩) hr
  · rw [if_neg d] at hr
    cases hr
theorem name_GH {c : Nat} (hc : 97 ≤ c ∧ c ≤ 102) (b h : Nat) (hb : 1 ≤ b) : vd [(c : Int) - 97] h (h + b) ∧ rH [(c : Int) - 97] h = h + 1 := by
  have e : stH ((c : Int) - 97) h = h + 1 := by unfold stH; rw [if_pos (by omega)]
  exact ⟨⟨by omega, by omega, by omega, by omega, by omega, by show stH _ h ≤ _; rw [e]; omega⟩, e⟩
theorem sayU_GH (B : Nat → Nat) (n : Nat) : ∀ d, GH (sayU B n d) (1 + 2 * d)
  | 0 => by
    intro p hr h
    rw [sayU] at hr ⊢
    by_cases c : 97 ≤ pk B n (sk B n p) ∧ pk B n (sk B n p) ≤ 102
    · rw [if_pos c]; exact name_GH c _ h (by omega)
    · rw [if_neg c] at hr; cases hr
  | d + 1 => by
    intro p hr h
    have ih := sayU_GH B n d
    have ihO : GH (sayO B n d) (1 + 2 * d + 1 + 1) := chn_GH (by omega) (by omega) (chn_GH (by omega) (by omega) ih)
    rw [sayU_s] at hr ⊢
    by_cases c1 : pk B n (sk B n p) = 33
    · rw [if_pos c1] at hr ⊢
      by_cases e : (sayU B n d (sk B n p + 1)).1 = true
      · rw [if_pos e]
        obtain ⟨a1, a2⟩ := ih _ e h
        have e6 : stH 6 (h + 1) = h + 1 := rfl
        refine ⟨vd_app _ _ _ (vd_mono (by omega) _ _ a1) ?_, ?_⟩
        · rw [a2]
          exact ⟨by omega, by omega, by omega, by omega, by omega, by show stH 6 (h + 1) ≤ _; rw [e6]; omega⟩
        · rw [rH_app, a2]; exact e6
      · rw [if_neg e] at hr; cases hr
    · rw [if_neg c1] at hr ⊢
      by_cases c2 : pk B n (sk B n p) = 40
      · rw [if_pos c2] at hr ⊢
        by_cases e : (sayO B n d (sk B n p + 1)).1 = true
        · rw [if_pos e] at hr ⊢
          by_cases e2 : pk B n (sk B n (sayO B n d (sk B n p + 1)).2.1) = 41
          · rw [if_pos e2]
            obtain ⟨a1, a2⟩ := ihO _ e h
            exact ⟨vd_mono (by omega) _ _ a1, a2⟩
          · rw [if_neg e2] at hr; cases hr
        · rw [if_neg e] at hr; cases hr
      · rw [if_neg c2] at hr ⊢
        by_cases c : 97 ≤ pk B n (sk B n p) ∧ pk B n (sk B n p) ≤ 102
        · rw [if_pos c]; exact name_GH c _ h (by omega)
        · rw [if_neg c] at hr; cases hr
theorem sayO_GH (B : Nat → Nat) (n d : Nat) : GH (sayO B n d) (3 + 2 * d) := by
  have h := chn_GH (B := B) (n := n) (ops := isC 124) (e := 8) (by omega) (by omega) (chn_GH (B := B) (n := n) (ops := isC 38) (e := 7) (by omega) (by omega) (sayU_GH B n d))
  rw [show 3 + 2 * d = 1 + 2 * d + 1 + 1 by omega]
  exact h
/-- a row as a function of the place -/
def cf (l : List Int) : Nat → Int := fun j => l.getD j 0
theorem hg_take : ∀ (l : List Int) (j : Nat), j ≤ l.length → hg (cf l) j = rH (l.take j) 0 := by
  intro l j
  induction j with
  | zero => intro _; simp [hg, rH]
  | succ j ih =>
    intro hj
    have hs : l.take (j + 1) = l.take j ++ [cf l j] := by
      rw [List.take_add_one]
      congr 1
      unfold cf
      rw [List.getElem?_eq_getElem (by omega)]
      simp [List.getD, List.getElem?_eq_getElem (show j < l.length by omega)]
    rw [hs, rH_app, ← ih (by omega), hg]
    rfl
theorem vd_at {M : Nat} : ∀ (l : List Int) (h j : Nat), vd l h M → j < l.length → 0 ≤ l.getD j 0 ∧ l.getD j 0 ≤ 8 ∧ (l.getD j 0 = 6 → 1 ≤ rH (l.take j) h) ∧ (7 ≤ l.getD j 0 → 2 ≤ rH (l.take j) h)
  | [], h, j, _, hj => absurd hj (by simp)
  | c :: l, h, 0, a, _ => ⟨a.2.1, a.2.2.1, a.2.2.2.1, a.2.2.2.2.1⟩
  | c :: l, h, j + 1, a, hj => vd_at l (stH c h) j a.2.2.2.2.2 (by simpa using hj)
theorem vd_le {M : Nat} : ∀ (l : List Int) (h j : Nat), vd l h M → j ≤ l.length → rH (l.take j) h ≤ M
  | [], h, j, a, _ => by simp [rH]; exact a
  | c :: l, h, 0, a, _ => a.1
  | c :: l, h, j + 1, a, hj => vd_le l (stH c h) j a.2.2.2.2.2 (by simpa using hj)
theorem wf_of {l : List Int} (hl : l.length ≤ 200) (h : vd l 0 60) (h1 : rH l 0 = 1) : wf (cf l) l.length := by
  refine ⟨hl, fun j hj => ?_, fun j hj => ?_, ?_⟩
  · rw [hg_take l j (by omega)]
    exact vd_at l 0 j h hj
  · rw [hg_take l j hj]
    exact vd_le l 0 j h hj
  · rw [hg_take l _ (Nat.le_refl _), List.take_length]
    exact h1
theorem nm_fold : ∀ (l : List Int) (m : Nat), m ≤ l.foldl (fun m c => if c ≤ 5 then max m (c + 1).toNat else m) m ∧ ∀ c, c ∈ l → c < 6 → 0 ≤ c → c < ((l.foldl (fun m c => if c ≤ 5 then max m (c + 1).toNat else m) m : Nat) : Int)
  | [], m => ⟨Nat.le_refl _, fun c h => absurd h (by simp)⟩
  | x :: l, m => by
    obtain ⟨a, b⟩ := nm_fold l (if x ≤ 5 then max m (x + 1).toNat else m)
    simp only [List.foldl_cons]
    refine ⟨Nat.le_trans (by split <;> omega) a, fun c hc h6 h0 => ?_⟩
    rcases List.mem_cons.mp hc with e | e
    · subst e
      rw [if_pos (by omega)] at a ⊢
      omega
    · exact b c e h6 h0
theorem nmB_of {l : List Int} (hw : wf (cf l) l.length) : nmB (cf l) l.length (nmL l) := by
  refine ⟨nmL_le l, fun j hj h6 => ?_⟩
  have h0 := (hw.2.1 j hj).1
  refine (nm_fold l 0).2 _ ?_ h6 h0
  unfold cf
  rw [List.getD, List.getElem?_eq_getElem hj]
  exact List.getElem_mem hj
theorem say_wf {B : Nat → Nat} {n : Nat} (hn : n ≤ 200) (h : (sayO B n 8 0).1 = true) : wf (cf (sayO B n 8 0).2.2) (sayO B n 8 0).2.2.length := by
  obtain ⟨g1, g2⟩ := sayO_PG B n 8 0 (Nat.zero_le _)
  obtain ⟨g3, g4⟩ := g2 h
  obtain ⟨a, b⟩ := sayO_GH B n 8 0 h 0
  exact wf_of (by omega) (vd_mono (by omega) _ _ a) b
theorem sayF_ok {B : Nat → Nat} {n : Nat} (h : sayF B n = none) : (sayO B n 8 0).1 = true := by
  unfold sayF at h
  by_cases c : (sayO B n 8 0).1 = true
  · exact c
  · rw [if_neg c] at h; cases h
