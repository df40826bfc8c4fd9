/-! the world after one thing more, and what agrees -/
theorem hd_e {G : hG} {g : Nat → Nat} {Z Z' : hZ} {r : Nat} (e1 : Z'.2.1 r = Z.2.1 r) (e2 : Z'.2.2.1 r = Z.2.2.1 r) (e3 : Z'.2.2.2 r = Z.2.2.2 r) (h1 : r / 1000 = 1 → g (r + 1000) = G.2.1 (r + 1000) ∧ g (r + 2000) = G.2.1 (r + 2000)) (h4 : r / 1000 = 4 ∨ r / 1000 = 5 → g (r + 2000) = G.2.1 (r + 2000)) (h8 : r / 1000 = 8 → (Z.2.2.2 r 0).map g = (Z.2.2.2 r 0).map G.2.1 ∧ (Z.2.2.2 r 2).map g = (Z.2.2.2 r 2).map G.2.1 ∧ (Z.2.2.2 r 3).map g = (Z.2.2.2 r 3).map G.2.1) (h10 : r / 1000 = 10 → ∀ j, (Z.2.2.2 r j).map g = (Z.2.2.2 r j).map G.2.1) (hk : 1 ≤ r / 1000 ∧ r / 1000 ≤ 10) : hd (wG G g) Z' r = hd G Z r := by
  unfold hd
  rw [e1, e2, e3]
  by_cases c1 : r / 1000 = 1
  · rw [if_pos c1, if_pos c1]
    obtain ⟨a, b⟩ := h1 c1
    show (Sum.inr (5, [.ref (g (r + 1000)), .ref (g (r + 2000)), _, _, _]) : va_E) = _
    rw [a, b]
  · rw [if_neg c1, if_neg c1]
    by_cases c2 : r / 1000 = 2 ∨ r / 1000 = 3 ∨ r / 1000 = 6 ∨ r / 1000 = 7
    · rw [if_pos c2, if_pos c2]
    · rw [if_neg c2, if_neg c2]
      by_cases c4 : r / 1000 = 4 ∨ r / 1000 = 5
      · rw [if_pos c4, if_pos c4]
        show (Sum.inr (9, [.ref (g (r + 2000))]) : va_E) = _
        rw [h4 c4]
      · rw [if_neg c4, if_neg c4]
        by_cases c8 : r / 1000 = 8
        · rw [if_pos c8, if_pos c8]
          obtain ⟨a, b, d⟩ := h8 c8
          show (Sum.inr (7, [va_rf ((Z.2.2.2 r 0).map g), _, va_rf ((Z.2.2.2 r 2).map g), va_rf ((Z.2.2.2 r 3).map g)]) : va_E) = _
          rw [a, b, d]
        · rw [if_neg c8, if_neg c8]
          by_cases c9 : r / 1000 = 9
          · rw [if_pos c9, if_pos c9]
          · rw [if_neg c9, if_neg c9]
            have ef : (fun i => (Z.2.2.2 r i).map (wG G g).2.1) = fun i => (Z.2.2.2 r i).map G.2.1 := funext (h10 (by omega))
            rw [ef]
/-- the references that the hall keeps are of things told, or none of ours -/
def RF (A : HA) (σ : hSt) : Prop := ∀ q ∈ rfP, ∀ r, σ.2.2 q.1 q.2 = some r → r < 1000 ∨ (told A r ∧ r < 10000)
/-- new things and new addresses -/
def nwG (A : HA) (G : hG) (g : Nat → Nat) (news : List Nat) (er : Nat) : Prop := (∀ r ∈ news, 1000 ≤ r ∧ r < 10000 ∧ ¬ told A r) ∧ ∀ r, r ∉ news → r ≠ er → g r = G.2.1 r
theorem nwG.told {A : HA} {G : hG} {g : Nat → Nat} {news : List Nat} {er r : Nat} (h : nwG A G g news er) (he : 10000 ≤ er) (ht : told A r) (hr : r < 10000) : g r = G.2.1 r := h.2 r (fun q => (h.1 r q).2.2 ht) (by omega)
theorem nwG.low {A : HA} {G : hG} {g : Nat → Nat} {news : List Nat} {er r : Nat} (h : nwG A G g news er) (he : 10000 ≤ er) (hr : r < 1000) : g r = G.2.1 r := h.2 r (fun q => by have := (h.1 r q).1; omega) (by omega)
theorem nwG.row {A : HA} {G : hG} {g : Nat → Nat} {news : List Nat} {er r : Nat} (h : nwG A G g news er) (hr : 10000 ≤ r) (hn : r ≠ er) : g r = G.2.1 r := h.2 r (fun q => by have := (h.1 r q).2.1; omega) hn
theorem RF_g {A : HA} {G : hG} {g : Nat → Nat} {news : List Nat} {er : Nat} {σ : hSt} (h : nwG A G g news er) (he : 10000 ≤ er) (hr : RF A σ) : ∀ q ∈ rfP, (σ.2.2 q.1 q.2).map g = (σ.2.2 q.1 q.2).map G.2.1 := by
  intro q hq
  cases e : σ.2.2 q.1 q.2 with
  | none => rfl
  | some r =>
    show some (g r) = some (G.2.1 r)
    rcases hr q hq r e with h1 | ⟨h1, h2⟩
    · rw [h.low he h1]
    · rw [h.told he h1 h2]
/-- the lists of a hall: the list's place, its row, its first thing, how many -/
def liL (A : HA) : List (Nat × Nat × Nat × Nat) := [(38, 10000, 1000, nS_ A), (39, 10001, 4000, nL_ A), (40, 10002, 5000, nG_ A), (41, 10003, 8000, nK_ A), (42, 10004, 9000, nN_ A)]
theorem JX.li {A : HA} {G : hG} {Z : hZ} (h : JX A G Z) : ∀ q ∈ liL A, liX G Z q.1 q.2.1 q.2.2.1 q.2.2.2 := by
  obtain ⟨-, -, h1, h2, h3, h4, h5⟩ := h
  intro q hq
  simp only [liL, List.mem_cons, List.not_mem_nil, or_false] at hq
  rcases hq with rfl | rfl | rfl | rfl | rfl <;> assumption
theorem liL_told {A : HA} : ∀ q ∈ liL A, 10000 ≤ q.2.1 ∧ q.2.1 ≤ 10004 ∧ q.2.1 = q.1 + 9962 ∧ 38 ≤ q.1 ∧ q.1 ≤ 42 ∧ ∀ i, i < q.2.2.2 → told A (q.2.2.1 + i) ∧ q.2.2.1 + i < 10000 ∨ 1000 ≤ i := by
  intro q hq
  simp only [liL, List.mem_cons, List.not_mem_nil, or_false] at hq
  rcases hq with rfl | rfl | rfl | rfl | rfl
  · dsimp only
    refine ⟨by decide, by decide, by decide, by decide, by decide, fun i hi => ?_⟩
    by_cases c : i < 1000
    · exact Or.inl ⟨Or.inl ⟨i, hi, Or.inl rfl⟩, by show 1000 + i < 10000; omega⟩
    · exact Or.inr (by omega)
  · dsimp only
    refine ⟨by decide, by decide, by decide, by decide, by decide, fun i hi => ?_⟩
    by_cases c : i < 1000
    · exact Or.inl ⟨Or.inr (Or.inl ⟨i, hi, Or.inl rfl⟩), by show 4000 + i < 10000; omega⟩
    · exact Or.inr (by omega)
  · dsimp only
    refine ⟨by decide, by decide, by decide, by decide, by decide, fun i hi => ?_⟩
    by_cases c : i < 1000
    · exact Or.inl ⟨Or.inr (Or.inr (Or.inl ⟨i, hi, Or.inl rfl⟩)), by show 5000 + i < 10000; omega⟩
    · exact Or.inr (by omega)
  · dsimp only
    refine ⟨by decide, by decide, by decide, by decide, by decide, fun i hi => ?_⟩
    by_cases c : i < 1000
    · exact Or.inl ⟨Or.inr (Or.inr (Or.inr (Or.inl ⟨i, hi, rfl⟩))), by show 8000 + i < 10000; omega⟩
    · exact Or.inr (by omega)
  · dsimp only
    refine ⟨by decide, by decide, by decide, by decide, by decide, fun i hi => ?_⟩
    by_cases c : i < 1000
    · exact Or.inl ⟨Or.inr (Or.inr (Or.inr (Or.inr (Or.inl ⟨i, hi, rfl⟩)))), by show 9000 + i < 10000; omega⟩
    · exact Or.inr (by omega)
theorem row_lt {G : hG} {Z : hZ} {lr er b c : Nat} (h : liX G Z lr er b c) : c ≤ 40 := by
  rcases h.2.2 with ⟨h, -, -⟩ | ⟨-, -, h1, h2, -⟩ <;> omega
/-- a thing that stood keeps its cell -/
theorem hd_T {A : HA} {G : hG} {g : Nat → Nat} {Z Z' : hZ} {news : List Nat} {er r : Nat} (hA : okA A) (hJ : JZ A Z) (hX : JX A G Z) (hn : nwG A G g news er) (he : 10000 ≤ er) (hr : r ∈ Z.1) (hne : r ≠ er) (e1 : Z'.2.1 r = Z.2.1 r) (e2 : Z'.2.2.1 r = Z.2.2.1 r) (e3 : Z'.2.2.2 r = Z.2.2.2 r) : g r = G.2.1 r ∧ hd (wG G g) Z' r = hd G Z r := by
  have c20 := hA.1
  have c12 := hA.2.2.1
  have c13 := hA.2.2.2.2.1
  have c14 := hA.2.2.2.2.2.2.1
  have c15 := hA.2.2.2.2.2.2.2.2.1
  have ht := hX.1 r hr
  refine ⟨?_, hd_e e1 e2 e3 (fun h1 => ?_) (fun h1 => ?_) (fun h1 => ?_) (fun h1 j => ?_) ?_⟩
  · by_cases c : r < 10000
    · exact hn.told he ht c
    · exact hn.row (by omega) hne
  · obtain ⟨s, hs, h2⟩ : ∃ s, s < nS_ A ∧ r = 1000 + s := by
      rcases ht with ⟨s, hs, h2⟩ | ⟨k, hk, h2⟩ | ⟨k, hk, h2⟩ | ⟨x, hx, h2⟩ | ⟨i, hi, h2⟩ | h2
      · exact ⟨s, hs, by omega⟩
      all_goals omega
    subst h2
    exact ⟨hn.told he (Or.inl ⟨s, hs, by omega⟩) (by omega), hn.told he (Or.inl ⟨s, hs, by omega⟩) (by omega)⟩
  · have hk : (∃ k, k < nL_ A ∧ r = 4000 + k) ∨ (∃ k, k < nG_ A ∧ r = 5000 + k) := by
      rcases ht with ⟨s, hs, h2⟩ | ⟨k, hk, h2⟩ | ⟨k, hk, h2⟩ | ⟨x, hx, h2⟩ | ⟨i, hi, h2⟩ | h2
      · omega
      · exact Or.inl ⟨k, hk, by omega⟩
      · exact Or.inr ⟨k, hk, by omega⟩
      all_goals omega
    rcases hk with ⟨k, hk, rfl⟩ | ⟨k, hk, rfl⟩
    · exact hn.told he (Or.inr (Or.inl ⟨k, hk, by omega⟩)) (by omega)
    · exact hn.told he (Or.inr (Or.inr (Or.inl ⟨k, hk, by omega⟩))) (by omega)
  · obtain ⟨x, hx, h2⟩ : ∃ x, x < nK_ A ∧ r = 8000 + x := by
      rcases ht with ⟨s, hs, h2⟩ | ⟨k, hk, h2⟩ | ⟨k, hk, h2⟩ | ⟨x, hx, h2⟩ | ⟨i, hi, h2⟩ | h2
      · omega
      · omega
      · omega
      · exact ⟨x, hx, h2⟩
      all_goals omega
    subst h2
    obtain ⟨-, t0, t2, t3, -⟩ := hJ.2.2.2.1.2 x hx
    have hk := hA.2.2.2.2.2.2.2.1 x hx
    rw [t0, t2, t3]
    exact ⟨congrArg some (hn.told he (Or.inl ⟨_, hk.1, Or.inl rfl⟩) (by omega)), congrArg some (hn.told he (Or.inr (Or.inl ⟨_, hk.2.1, Or.inl rfl⟩)) (by omega)), congrArg some (hn.told he (Or.inr (Or.inr (Or.inl ⟨_, hk.2.2.1, Or.inl rfl⟩))) (by omega))⟩
  · have hq : ∃ q ∈ liL A, r = q.2.1 := by
      have h2 : 10000 ≤ r ∧ r ≤ 10004 := by
        rcases ht with ⟨s, hs, h2⟩ | ⟨k, hk, h2⟩ | ⟨k, hk, h2⟩ | ⟨x, hx, h2⟩ | ⟨i, hi, h2⟩ | h2
        all_goals omega
      have h3 : r = 10000 ∨ r = 10001 ∨ r = 10002 ∨ r = 10003 ∨ r = 10004 := by omega
      rcases h3 with rfl | rfl | rfl | rfl | rfl
      · exact ⟨(38, 10000, 1000, nS_ A), by simp [liL], rfl⟩
      · exact ⟨(39, 10001, 4000, nL_ A), by simp [liL], rfl⟩
      · exact ⟨(40, 10002, 5000, nG_ A), by simp [liL], rfl⟩
      · exact ⟨(41, 10003, 8000, nK_ A), by simp [liL], rfl⟩
      · exact ⟨(42, 10004, 9000, nN_ A), by simp [liL], rfl⟩
    obtain ⟨q, hq, rfl⟩ := hq
    have hl := hX.li q hq
    have hc := row_lt hl
    have ht := liL_told q hq
    rcases hl.2.2 with ⟨-, h2, -⟩ | ⟨-, -, -, -, h5⟩
    · exact absurd hr h2
    · rw [h5 j]
      by_cases c : j < q.2.2.2
      · rw [if_pos c]
        rcases ht.2.2.2.2.2 j c with h6 | h6
        · exact congrArg some (hn.told he h6.1 h6.2)
        · omega
      · rw [if_neg c]; rfl
  · rcases ht with ⟨s, hs, h2⟩ | ⟨k, hk, h2⟩ | ⟨k, hk, h2⟩ | ⟨x, hx, h2⟩ | ⟨i, hi, h2⟩ | h2
    all_goals omega
/-- the other lists stand -/
theorem liE_T {A : HA} {G : hG} {g : Nat → Nat} {Z Z' : hZ} {news : List Nat} {er : Nat} (hX : JX A G Z) (hn : nwG A G g news er) (q : Nat × Nat × Nat × Nat) (hq : q ∈ liL A) (hne : q.2.1 ≠ er) (e1 : Z'.2.2.1 q.1 = Z.2.2.1 q.1) (e2 : Z'.2.2.2 q.1 = Z.2.2.2 q.1) : liE (wG G g) Z' q.1 = liE G Z q.1 := by
  have hl := hX.li q hq
  have ht := liL_told q hq
  unfold liE
  rw [e1, e2, hl.2.1]
  show (Sum.inr (0, [_, va_rf (some (g q.2.1)), _]) : va_E) = Sum.inr (0, [_, va_rf (some (G.2.1 q.2.1)), _])
  rw [hn.row ht.1 hne]
/-- a thing more: the world -/
theorem T_join {A : HA} {G : hG} {g : Nat → Nat} {Z : hZ} {Y : va_W} {σ : hSt} {news : List Nat} {ln : Nat → Nat} {ii : Nat → Nat → Int32} {rr : Nat → Nat → Option Nat} (q : Nat × Nat × Nat × Nat) (hq : q ∈ liL A) (hA : okA A) (hJ : JZ A Z) (hX : JX A G Z) (hn : nwG A G g news q.2.1) (hr : RF A σ) (hag : ∀ r, r ∉ news → ln r = Z.2.1 r ∧ ii r = Z.2.2.1 r ∧ rr r = Z.2.2.2 r) {E' n' : Nat} {Nw : va_W} (hN : Nw = news.map (fun r => (g r, hd (wG G g) (zT Z news ln ii rr q.1 q.2.1 q.2.2.1 q.2.2.2 n') r))) (hE' : E' = g q.2.1) {v : Nat} (hv : v = g (q.2.2.1 + q.2.2.2)) :
    ((G.2.1 q.1, lE (Z.2.2.1 q.1 0 + 1) E' (q.2.2.2 + 1)) :: (E', rE G n' (rowN G q.2.2.1 q.2.2.2 v)) :: (Nw ++ hR G Z Y σ q.1 q.2.1)).Perm (hW (wG G g) (zT Z news ln ii rr q.1 q.2.1 q.2.2.1 q.2.2.2 n') Y σ) := by
  have hl := hX.li q hq
  have ht := liL_told q hq
  have hne : q.1 ≠ q.2.1 := by omega
  have hnl : ∀ r, r < 1000 → r ∉ news := fun r h1 h2 => by have := (hn.1 r h2).1; omega
  have hnr : ∀ r, 10000 ≤ r → r ∉ news := fun r h1 h2 => by have := (hn.1 r h2).2.1; omega
  refine l_join (md := Z.2.2.1 q.1 0 + 1) (c := q.2.2.2 + 1) ⟨ht.2.2.2.1, ht.2.2.2.2.1⟩ (fun r h1 => hn.low ht.1 (by omega)) (RF_g hn ht.1 hr) (fun x hx hx2 => ?_) rfl (fun r h1 => ?_) hN ?_ hE' ?_
  · have hxq : ∃ q2 ∈ liL A, q2.1 = x := by
      rcases li_c hx with rfl | rfl | rfl | rfl | rfl
      · exact ⟨(38, 10000, 1000, nS_ A), by simp [liL], rfl⟩
      · exact ⟨(39, 10001, 4000, nL_ A), by simp [liL], rfl⟩
      · exact ⟨(40, 10002, 5000, nG_ A), by simp [liL], rfl⟩
      · exact ⟨(41, 10003, 8000, nK_ A), by simp [liL], rfl⟩
      · exact ⟨(42, 10004, 9000, nN_ A), by simp [liL], rfl⟩
    obtain ⟨q2, hq2, rfl⟩ := hxq
    have ht2 := liL_told q2 hq2
    have h3 := hag q2.1 (hnl _ (by omega))
    have h4 := ag_T (Z := Z) (news := news) (ln := ln) (ii := ii) (rr := rr) (lr := q.1) (er := q.2.1) (base := q.2.2.1) (c := q.2.2.2) (n' := n') (r := q2.1) (by omega) hx2 h3.1 h3.2.1 h3.2.2
    exact liE_T hX hn q2 hq2 (by omega) h4.2.2.1 h4.2.2.2
  · have hm := (List.Nodup.mem_erase_iff hX.2.1).mp h1
    have htd := hX.1 r hm.2
    have hrn : r ∉ news := fun h2 => (hn.1 r h2).2.2 htd
    have h3 := hag r hrn
    have hr1 : r ≠ q.1 := by
      have h2 : 1000 ≤ r := by
        rcases htd with ⟨s, hs, h2⟩ | ⟨k, hk, h2⟩ | ⟨k, hk, h2⟩ | ⟨x, hx, h2⟩ | ⟨i, hi, h2⟩ | h2
        all_goals omega
      omega
    have h4 := ag_T (Z := Z) (news := news) (ln := ln) (ii := ii) (rr := rr) (lr := q.1) (er := q.2.1) (base := q.2.2.1) (c := q.2.2.2) (n' := n') (r := r) hm.1 hr1 h3.1 h3.2.1 h3.2.2
    exact hd_T hA hJ hX hn ht.1 hm.2 hm.1 h4.2.1 h4.2.2.1 h4.2.2.2
  · have k0 : (zT Z news ln ii rr q.1 q.2.1 q.2.2.1 q.2.2.2 n').2.2.1 q.1 0 = Z.2.2.1 q.1 0 + 1 := by
      show (if q.1 = q.1 then (if 0 = 0 then _ else _) else _) = _
      rw [if_pos rfl, if_pos rfl]
    have k2 : (zT Z news ln ii rr q.1 q.2.1 q.2.2.1 q.2.2.2 n').2.2.1 q.1 2 = i32 ((q.2.2.2 + 1 : Nat) : Int) := by
      show (if q.1 = q.1 then (if 2 = 0 then _ else if 2 = 2 then _ else _) else _) = _
      rw [if_pos rfl, if_neg (by decide), if_pos rfl]
    have k1 : (zT Z news ln ii rr q.1 q.2.1 q.2.2.1 q.2.2.2 n').2.2.2 q.1 1 = some q.2.1 := by
      show (if q.1 = q.1 then (if 1 = 1 then _ else _) else _) = _
      rw [if_pos rfl, if_pos rfl]
    unfold liE
    rw [k0, k1, k2]
    show lE _ E' _ = (Sum.inr (0, [_, va_rf (some (g q.2.1)), _]) : va_E)
    rw [← hE']
    rfl
  · rw [hd_row _ _ (show q.2.1 / 1000 = 10 by omega)]
    have e1 : (zT Z news ln ii rr q.1 q.2.1 q.2.2.1 q.2.2.2 n').2.1 q.2.1 = n' := by
      show (if q.2.1 = q.2.1 then n' else _) = n'
      rw [if_pos rfl]
    have e2 : rowN G q.2.2.1 q.2.2.2 v = fun i => ((zT Z news ln ii rr q.1 q.2.1 q.2.2.1 q.2.2.2 n').2.2.2 q.2.1 i).map (wG G g).2.1 := by
      funext i
      show rowN G q.2.2.1 q.2.2.2 v i = ((if q.2.1 = q.1 then _ else if q.2.1 = q.2.1 then (if i < q.2.2.2 + 1 then some (q.2.2.1 + i) else none) else _ : Option Nat)).map g
      rw [if_neg (fun h => hne h.symm), if_pos rfl]
      have hc := row_lt hl
      unfold rowN
      by_cases c1 : i < q.2.2.2
      · rw [if_pos c1, if_pos (by omega)]
        rcases ht.2.2.2.2.2 i c1 with h6 | h6
        · exact congrArg some (hn.told ht.1 h6.1 h6.2).symm
        · omega
      · rw [if_neg c1]
        by_cases c2 : i = q.2.2.2
        · rw [if_pos c2, if_pos (by omega), c2, hv]
          rfl
        · rw [if_neg c2, if_neg (by omega)]
          rfl
    rw [e1, ← e2]
