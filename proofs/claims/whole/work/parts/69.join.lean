/-! a thing is told: its list in front, and all together again -/
abbrev wG (G : hG) (g : Nat → Nat) : hG := (G.1, g, G.2.2)
def liE (G : hG) (Z : hZ) (lr : Nat) : va_E := .inr (0, [.int (Z.2.2.1 lr 0), va_rf ((Z.2.2.2 lr 1).map G.2.1), .int (Z.2.2.1 lr 2)])
def hZ0 : hZ := ([], fun _ => 0, fun _ _ => 0, fun _ _ => none)
def hfA (G : hG) (σ : hSt) : va_W := (hfix G hZ0 σ).take 38
def hfB (G : hG) (σ : hSt) : va_W := (hfix G hZ0 σ).drop 43
theorem hfix_eq (G : hG) (Z : hZ) (σ : hSt) : hfix G Z σ = hfA G σ ++ ([(G.2.1 38, liE G Z 38), (G.2.1 39, liE G Z 39), (G.2.1 40, liE G Z 40), (G.2.1 41, liE G Z 41), (G.2.1 42, liE G Z 42)] ++ hfB G σ) := rfl
theorem li_c {lr : Nat} (h : 38 ≤ lr ∧ lr ≤ 42) : lr = 38 ∨ lr = 39 ∨ lr = 40 ∨ lr = 41 ∨ lr = 42 := by omega
theorem hfix_at (G : hG) (Z : hZ) (σ : hSt) {lr : Nat} (h : 38 ≤ lr ∧ lr ≤ 42) : (hfix G Z σ)[lr]? = some (G.2.1 lr, liE G Z lr) := by
  rcases li_c h with rfl | rfl | rfl | rfl | rfl <;> rfl
/-- the references that a state keeps -/
def rfP : List (Nat × Nat) := [(12, 2), (12, 3), (14, 7), (14, 8), (15, 7), (15, 8)]
theorem e6_g {G : hG} {g : Nat → Nat} (hg : ∀ r, r < 900 → g r = G.2.1 r) {a : Nat} (ha : a ≤ 800) : (fun i => if i < 6 then some (g (a + i)) else none) = (fun i => if i < 6 then some (G.2.1 (a + i)) else none) := by
  funext i
  by_cases c : i < 6
  · rw [if_pos c, if_pos c, hg _ (by omega)]
  · rw [if_neg c, if_neg c]
set_option maxRecDepth 100000 in
theorem hfA_g {G : hG} {g : Nat → Nat} {σ : hSt} (hg : ∀ r, r < 900 → g r = G.2.1 r) (hr : ∀ q ∈ rfP, (σ.2.2 q.1 q.2).map g = (σ.2.2 q.1 q.2).map G.2.1) : hfA (wG G g) σ = hfA G σ := by
  have r1 := hr (12, 2) (by decide)
  have r2 := hr (12, 3) (by decide)
  have r3 := hr (14, 7) (by decide)
  have r4 := hr (14, 8) (by decide)
  have r5 := hr (15, 7) (by decide)
  have r6 := hr (15, 8) (by decide)
  dsimp only at r1 r2 r3 r4 r5 r6
  have e1 := e6_g hg (a := 24) (by decide)
  have e2 := e6_g hg (a := 30) (by decide)
  have e0 : hfix (wG G g) hZ0 σ = hfix G hZ0 σ := by
    unfold hfix wG hZ0
    simp (disch := decide) only [r1, r2, r3, r4, r5, r6, e1, e2, hg, Option.map_none]
  unfold hfA
  rw [e0]
set_option maxRecDepth 100000 in
theorem hfB_g {G : hG} {g : Nat → Nat} {σ : hSt} (hg : ∀ r, r < 900 → g r = G.2.1 r) : hfB (wG G g) σ = hfB G σ := by
  show [(g 43, _), (g 44, _)] = [(G.2.1 43, _), (G.2.1 44, _)]
  rw [hg 43 (by decide), hg 44 (by decide)]
theorem hfix_er {G : hG} {g : Nat → Nat} {Z Z' : hZ} {σ : hSt} {lr : Nat} (h38 : 38 ≤ lr ∧ lr ≤ 42) (hg : ∀ r, r < 900 → g r = G.2.1 r) (hr : ∀ q ∈ rfP, (σ.2.2 q.1 q.2).map g = (σ.2.2 q.1 q.2).map G.2.1) (hl : ∀ x, 38 ≤ x ∧ x ≤ 42 → x ≠ lr → liE (wG G g) Z' x = liE G Z x) : (hfix (wG G g) Z' σ).eraseIdx lr = (hfix G Z σ).eraseIdx lr := by
  have a := hfA_g hg hr
  have b := hfB_g (σ := σ) hg
  have g38 : (wG G g).2.1 38 = G.2.1 38 := hg 38 (by decide)
  have g39 : (wG G g).2.1 39 = G.2.1 39 := hg 39 (by decide)
  have g40 : (wG G g).2.1 40 = G.2.1 40 := hg 40 (by decide)
  have g41 : (wG G g).2.1 41 = G.2.1 41 := hg 41 (by decide)
  have g42 : (wG G g).2.1 42 = G.2.1 42 := hg 42 (by decide)
  rcases li_c h38 with rfl | rfl | rfl | rfl | rfl
  · show hfA (wG G g) σ ++ ([((wG G g).2.1 39, liE (wG G g) Z' 39), ((wG G g).2.1 40, liE (wG G g) Z' 40), ((wG G g).2.1 41, liE (wG G g) Z' 41), ((wG G g).2.1 42, liE (wG G g) Z' 42)] ++ hfB (wG G g) σ) = hfA G σ ++ ([(G.2.1 39, liE G Z 39), (G.2.1 40, liE G Z 40), (G.2.1 41, liE G Z 41), (G.2.1 42, liE G Z 42)] ++ hfB G σ)
    rw [a, b, g39, g40, g41, g42, hl 39 (by decide) (by decide), hl 40 (by decide) (by decide), hl 41 (by decide) (by decide), hl 42 (by decide) (by decide)]
  · show hfA (wG G g) σ ++ ([((wG G g).2.1 38, liE (wG G g) Z' 38), ((wG G g).2.1 40, liE (wG G g) Z' 40), ((wG G g).2.1 41, liE (wG G g) Z' 41), ((wG G g).2.1 42, liE (wG G g) Z' 42)] ++ hfB (wG G g) σ) = hfA G σ ++ ([(G.2.1 38, liE G Z 38), (G.2.1 40, liE G Z 40), (G.2.1 41, liE G Z 41), (G.2.1 42, liE G Z 42)] ++ hfB G σ)
    rw [a, b, g38, g40, g41, g42, hl 38 (by decide) (by decide), hl 40 (by decide) (by decide), hl 41 (by decide) (by decide), hl 42 (by decide) (by decide)]
  · show hfA (wG G g) σ ++ ([((wG G g).2.1 38, liE (wG G g) Z' 38), ((wG G g).2.1 39, liE (wG G g) Z' 39), ((wG G g).2.1 41, liE (wG G g) Z' 41), ((wG G g).2.1 42, liE (wG G g) Z' 42)] ++ hfB (wG G g) σ) = hfA G σ ++ ([(G.2.1 38, liE G Z 38), (G.2.1 39, liE G Z 39), (G.2.1 41, liE G Z 41), (G.2.1 42, liE G Z 42)] ++ hfB G σ)
    rw [a, b, g38, g39, g41, g42, hl 38 (by decide) (by decide), hl 39 (by decide) (by decide), hl 41 (by decide) (by decide), hl 42 (by decide) (by decide)]
  · show hfA (wG G g) σ ++ ([((wG G g).2.1 38, liE (wG G g) Z' 38), ((wG G g).2.1 39, liE (wG G g) Z' 39), ((wG G g).2.1 40, liE (wG G g) Z' 40), ((wG G g).2.1 42, liE (wG G g) Z' 42)] ++ hfB (wG G g) σ) = hfA G σ ++ ([(G.2.1 38, liE G Z 38), (G.2.1 39, liE G Z 39), (G.2.1 40, liE G Z 40), (G.2.1 42, liE G Z 42)] ++ hfB G σ)
    rw [a, b, g38, g39, g40, g42, hl 38 (by decide) (by decide), hl 39 (by decide) (by decide), hl 40 (by decide) (by decide), hl 42 (by decide) (by decide)]
  · show hfA (wG G g) σ ++ ([((wG G g).2.1 38, liE (wG G g) Z' 38), ((wG G g).2.1 39, liE (wG G g) Z' 39), ((wG G g).2.1 40, liE (wG G g) Z' 40), ((wG G g).2.1 41, liE (wG G g) Z' 41)] ++ hfB (wG G g) σ) = hfA G σ ++ ([(G.2.1 38, liE G Z 38), (G.2.1 39, liE G Z 39), (G.2.1 40, liE G Z 40), (G.2.1 41, liE G Z 41)] ++ hfB G σ)
    rw [a, b, g38, g39, g40, g41, hl 38 (by decide) (by decide), hl 39 (by decide) (by decide), hl 40 (by decide) (by decide), hl 41 (by decide) (by decide)]
/-- the hall without a list and its row -/
def hR (G : hG) (Z : hZ) (Y : va_W) (σ : hSt) (lr er : Nat) : va_W := (hfix G Z σ).eraseIdx lr ++ ((Z.1.erase er).map (fun r => (G.2.1 r, hd G Z r)) ++ Y)
theorem l_split (G : hG) (Z : hZ) (Y : va_W) (σ : hSt) {lr er : Nat} (h38 : 38 ≤ lr ∧ lr ≤ 42) : (hW G Z Y σ).Perm ((G.2.1 lr, liE G Z lr) :: ((if er ∈ Z.1 then [(G.2.1 er, hd G Z er)] else []) ++ hR G Z Y σ lr er)) := by
  have h1 := pget (hfix_at G Z σ h38)
  unfold hW hR
  refine (h1.append_right _).trans ?_
  show ((G.2.1 lr, liE G Z lr) :: ((hfix G Z σ).eraseIdx lr ++ (hdyn G Z ++ Y))).Perm _
  refine List.Perm.cons _ ?_
  by_cases c : er ∈ Z.1
  · rw [if_pos c]
    have h2 : (hdyn G Z).Perm ((G.2.1 er, hd G Z er) :: (Z.1.erase er).map (fun r => (G.2.1 r, hd G Z r))) := (List.perm_cons_erase c).map _
    exact ((h2.append_right Y).append_left _).trans List.perm_middle
  · rw [if_neg c, List.erase_of_not_mem c]
    exact List.Perm.refl _
theorem pdrop {D : va_G} {cl : List vw_C} {x : Nat × va_E} {w : va_W} {H : Heap} (h : va_P D cl (x :: w) H) : va_P D cl w H := fun k q hk => h (k + 1) q hk
theorem ddrop {A : Nat → Prop} {x : Nat × va_E} {w : va_W} (h : va_D A (x :: w)) : va_D A w := ⟨fun i j p q hi hj e => Nat.succ.inj (h.1 (i + 1) (j + 1) p q hi hj e), fun k q hk => h.2 (k + 1) q hk⟩
/-- a list and its row, as they stand after c things from base on -/
def liX (G : hG) (Z : hZ) (lr er base c : Nat) : Prop := Z.2.2.1 lr 2 = i32 (c : Int) ∧ Z.2.2.2 lr 1 = some er ∧ ((c = 0 ∧ er ∉ Z.1 ∧ G.2.1 er = G.2.2 200) ∨ (1 ≤ c ∧ er ∈ Z.1 ∧ c ≤ Z.2.1 er ∧ Z.2.1 er ≤ 40 ∧ ∀ i, Z.2.2.2 er i = if i < c then some (base + i) else none))
def rowN (G : hG) (base c v : Nat) : Nat → Option Nat := fun i => if i < c then some (G.2.1 (base + i)) else if i = c then some v else none
theorem hd_row (G : hG) (Z : hZ) {r : Nat} (h : r / 1000 = 10) : hd G Z r = rE G (Z.2.1 r) (fun i => (Z.2.2.2 r i).map G.2.1) := by
  unfold hd
  rw [if_neg (by omega), if_neg (by omega), if_neg (by omega), if_neg (by omega), if_neg (by omega)]
theorem liE_l {G : hG} {Z : hZ} {lr er base c : Nat} (h : liX G Z lr er base c) : liE G Z lr = lE (Z.2.2.1 lr 0) (G.2.1 er) c := by
  unfold liE
  rw [h.1, h.2.1]
  rfl
/-- the row's length after one more -/
def capN (n c : Nat) : Nat := if c = 0 then 10 else if c = n then nlL c else n
theorem capN_ok {G : hG} {Z : hZ} {lr er base c : Nat} (h : liX G Z lr er base c) (hc : c ≤ 25) : c < capN (Z.2.1 er) c ∧ capN (Z.2.1 er) c ≤ 40 := by
  unfold capN
  rcases h.2.2 with ⟨rfl, -, -⟩ | ⟨h1, -, h2, h3, -⟩
  · rw [if_pos rfl]; omega
  · rw [if_neg (by omega)]
    by_cases c1 : c = Z.2.1 er
    · rw [if_pos c1]; unfold nlL; omega
    · rw [if_neg c1]; omega
section CADD
variable {p : Program} {l : Launch} {e : Env} {R : Room} {s : State} {m : MethodId} {args : Array Value} {below : List Frame} {meth : Method} {c_ : Code} {H : Heap} {locs : List Loc} {cells slots : Nat} {Q : State → Prop}
variable {pc : Nat} {ls : Array Slot} {rest : List Value} {A0 : Nat → Prop} {D : va_G} {G : hG} {Z : hZ} {Y : va_W} {σ : hSt} {cc : ByteArray} {nL : Nat}
theorem cl_add {lr er base c qv ci cj kv : Nat} {Nw : va_W} {vs : List Value} {qc : vw_C} (S5 : CallFix p m c_ cc nL s args hU RX11) (hts : ∀ w ∈ hU, w.before args s = true) (hK : va_K D vwCl (tysG G) s) (hE : sE G A0 s s.heap) (hA : ∀ q : Nat, s.heap.size ≤ q → A0 q) (hP : va_P D vwCl (Nw ++ hW G Z Y σ) H) (hD : va_D A0 (Nw ++ hW G Z Y σ)) (hS : va_S A0 s.heap H locs)
    (h38 : 38 ≤ lr ∧ lr ≤ 42) (he : er / 1000 = 10) (hX : liX G Z lr er base c) (hc25 : c ≤ 25) (hcl : vwCl[ci]? = some qc) (hj : castL[cj]? = some (qc.1, "java/lang/Object")) (hel : ∀ i, i < c → base + i ∈ Z.1 ∧ base + i ≠ er ∧ ∃ vs', hd G Z (base + i) = .inr (ci, vs')) (hv : Nw[kv]? = some (qv, .inr (ci, vs)))
    (hsize : ls.size = nL) (hWd : (rest.map fun v => v.category).sum ≤ 8) (hdg : decode cc pc = .ok (.invokevirtual 142, 3)) (hRm : rm_aG.frames + 1 ≤ R.frames ∧ 8 + (2 + 11) + rm_aG.locals ≤ R.locals) (hf : cells + 1 ≤ R.cells ∧ slots + 40 ≤ R.slots)
    (kk : ∀ (E' : Nat) (H1 : Heap) (locs1 : List Loc), va_P D vwCl ((G.2.1 lr, lE (Z.2.2.1 lr 0 + 1) E' (c + 1)) :: (E', rE G (capN (Z.2.1 er) c) (rowN G base c qv)) :: (Nw ++ hR G Z Y σ lr er)) H1 → va_D A0 ((G.2.1 lr, lE (Z.2.2.1 lr 0 + 1) E' (c + 1)) :: (E', rE G (capN (Z.2.1 er) c) (rowN G base c qv)) :: (Nw ++ hR G Z Y σ lr er)) → va_S A0 s.heap H1 locs1 →
      W p l e R s m args below meth c_ H1 locs1 (cells + 1) (slots + 40) Q (F0 m (pc + 3) ls (.int 1 :: rest))) : W p l e R s m args below meth c_ H locs cells slots Q (F0 m pc ls (.ref qv :: .ref (G.2.1 lr) :: rest)) := by
  have hp0 : (Nw ++ hW G Z Y σ).Perm ((G.2.1 lr, lE (Z.2.2.1 lr 0) (G.2.1 er) c) :: ((if er ∈ Z.1 then [(G.2.1 er, hd G Z er)] else []) ++ (Nw ++ hR G Z Y σ lr er))) := by
    have h1 := (l_split G Z Y σ (er := er) h38).append_left Nw
    rw [liE_l hX] at h1
    refine h1.trans (List.perm_middle.trans (List.Perm.cons _ ?_))
    by_cases cm : er ∈ Z.1
    · rw [if_pos cm]
      exact List.perm_middle
    · rw [if_neg cm]
      exact List.Perm.refl _
  have hP := pperm hp0 hP
  have hD := dperm hp0 hD
  have hin : ∀ i, i < c → ∃ (j : Nat) (vs : List Value), (Nw ++ hR G Z Y σ lr er)[j]? = some (G.2.1 (base + i), .inr (ci, vs)) := by
    intro i hi
    obtain ⟨a1, a2, vs', a3⟩ := hel i hi
    have hm : (G.2.1 (base + i), hd G Z (base + i)) ∈ Nw ++ hR G Z Y σ lr er := by
      refine List.mem_append_right _ (List.mem_append_right _ (List.mem_append_left _ ?_))
      exact List.mem_map.mpr ⟨base + i, (List.mem_erase_of_ne a2).mpr a1, rfl⟩
    obtain ⟨j, hj⟩ := List.getElem?_of_mem hm
    exact ⟨j, vs', by rw [hj, a3]⟩
  have hkv : (Nw ++ hR G Z Y σ lr er)[kv]? = some (qv, .inr (ci, vs)) := by
    rw [List.getElem?_append_left (List.getElem?_eq_some_iff.mp hv).1]
    exact hv
  have cw : CallW R s args RX11 RJx4a65c 142 yJx4a65c_add_9ea2d cJx4a65c_add_9ea2d 2 (some .boolean) (wU yJx4a65c_add_9ea2d cJx4a65c_add_9ea2d 2 (some .boolean)) rm_aG 1 40 1 := cwV 1 hts (gwV wd_600 wd_601 wd_602 wd_10 wd_603) rfl rfl rfl hd_Jx4a65c_add_9ea2d hRm
  rcases hX.2.2 with ⟨rfl, hni, h200⟩ | ⟨h1, hmi, h2, h3, h4⟩
  · rw [if_neg hni, h200] at hP hD
    refine cl_VE (C := RJx4a65c) (w := (G.2.1 lr, lE (Z.2.2.1 lr 0) (G.2.2 200) 0) :: (Nw ++ hR G Z Y σ lr er)) (As := [.ref qv]) (rest := rest) (stk := fun _ => .int 1 :: rest) S5 hK hE hA hP hD hS (e_add l D G (G.2.1 lr) (G.2.2 200) 0 qv (Z.2.2.1 lr 0) (Nw ++ hR G Z Y σ lr er) ci cj kv 10 (fun _ => none) vs qc hcl hj (Or.inr ⟨rfl, rfl, rfl, rfl⟩) hkv) cw (q0 := 0) rfl rfl rfl rfl hsize rfl hWd hdg hf (fun _ => rfl) (fun q H1 locs1 hP1 hD1 hS1 => ?_)
    have e0 : va_up (fun _ => none) 0 (some qv) = rowN G base 0 qv := by
      funext i
      unfold va_up rowN
      rw [if_neg (Nat.not_lt_zero i)]
    rw [e0] at hP1 hD1
    exact kk (q 0) H1 locs1 (pperm (List.Perm.swap _ _ _) hP1) (dperm (List.Perm.swap _ _ _) hD1) hS1
  · rw [if_pos hmi, hd_row G Z he] at hP hD
    have hf0 : (fun i => (Z.2.2.2 er i).map G.2.1) = fun i => if i < c then some (G.2.1 (base + i)) else none := by
      funext i
      rw [h4 i]
      by_cases ci : i < c
      · rw [if_pos ci, if_pos ci]; rfl
      · rw [if_neg ci, if_neg ci]; rfl
    rw [hf0] at hP hD
    by_cases cf : c = Z.2.1 er
    · rw [← cf] at hP hD
      have hb : inR (Nw ++ hR G Z Y σ lr er) ci c (fun i => if i < c then some (G.2.1 (base + i)) else none) := by
        intro i hi y hy
        dsimp only at hy
        rw [if_pos hi] at hy
        cases hy
        exact hin i hi
      have hnl : c < nlL c ∧ nlL c ≤ 40 := by unfold nlL; omega
      refine cl_VE (C := RJx4a65c) (w := (G.2.1 lr, lE (Z.2.2.1 lr 0) (G.2.1 er) c) :: ((G.2.1 er, rE G c (fun i => if i < c then some (G.2.1 (base + i)) else none)) :: (Nw ++ hR G Z Y σ lr er))) (As := [.ref qv]) (rest := rest) (stk := fun _ => .int 1 :: rest) S5 hK hE hA hP hD hS (e_add l D G (G.2.1 lr) (G.2.1 er) c qv (Z.2.2.1 lr 0) ((G.2.1 er, rE G c (fun i => if i < c then some (G.2.1 (base + i)) else none)) :: (Nw ++ hR G Z Y σ lr er)) ci cj (kv + 1) (nlL c) _ vs qc hcl hj (Or.inl ⟨_, _, rfl, hb, h1, hc25, rfl, rfl⟩) hkv) cw (q0 := 0) rfl rfl rfl rfl hsize rfl hWd hdg hf (fun _ => rfl) (fun q H1 locs1 hP1 hD1 hS1 => ?_)
      have e0 : va_up (va_cpy (fun i => if i < c then some (G.2.1 (base + i)) else none) (fun _ => none) 0 0 c) c (some qv) = rowN G base c qv := by
        funext i
        unfold va_up rowN va_cpy
        by_cases c1 : i = c
        · rw [if_pos c1, if_neg (by omega), if_pos c1]
        · rw [if_neg c1]
          by_cases c2 : i < c
          · rw [if_pos ⟨Nat.zero_le _, by omega⟩, if_pos c2]
            show (if 0 + (i - 0) < c then some (G.2.1 (base + (0 + (i - 0)))) else none) = _
            rw [show 0 + (i - 0) = i by omega, if_pos c2]
          · rw [if_neg (by omega), if_neg c2, if_neg c1]
      rw [e0] at hP1 hD1
      have hp1 : ((q 0, rE G (nlL c) (rowN G base c qv)) :: (G.2.1 lr, lE (Z.2.2.1 lr 0 + 1) (q 0) (c + 1)) :: (G.2.1 er, rE G c (fun i => if i < c then some (G.2.1 (base + i)) else none)) :: (Nw ++ hR G Z Y σ lr er)).Perm ((G.2.1 er, rE G c (fun i => if i < c then some (G.2.1 (base + i)) else none)) :: (G.2.1 lr, lE (Z.2.2.1 lr 0 + 1) (q 0) (c + 1)) :: (q 0, rE G (nlL c) (rowN G base c qv)) :: (Nw ++ hR G Z Y σ lr er)) :=
        ((List.Perm.swap _ _ _).cons _).trans ((List.Perm.swap _ _ _).trans ((List.Perm.swap _ _ _).cons _))
      have ec : capN (Z.2.1 er) c = nlL c := by unfold capN; rw [if_neg (by omega), if_pos cf]
      rw [ec] at kk
      exact kk (q 0) H1 locs1 (pdrop (pperm hp1 hP1)) (ddrop (dperm hp1 hD1)) hS1
    · refine cl_VE (C := RJx4a65c) (w := (G.2.1 lr, lE (Z.2.2.1 lr 0) (G.2.1 er) c) :: ((G.2.1 er, rE G (Z.2.1 er) (fun i => if i < c then some (G.2.1 (base + i)) else none)) :: (Nw ++ hR G Z Y σ lr er))) (As := [.ref qv]) (rest := rest) (stk := fun _ => .int 1 :: rest) S5 hK hE hA hP hD hS (e_addN l D G (G.2.1 lr) (G.2.1 er) c qv (Z.2.2.1 lr 0) (Nw ++ hR G Z Y σ lr er) ci cj kv (Z.2.1 er) _ vs qc hcl hj (by omega) h3 hkv) cw (q0 := 0) rfl rfl rfl rfl hsize rfl hWd hdg hf (fun _ => rfl) (fun q H1 locs1 hP1 hD1 hS1 => ?_)
      have e0 : va_up (fun i => if i < c then some (G.2.1 (base + i)) else none) c (some qv) = rowN G base c qv := by
        funext i
        unfold va_up rowN
        by_cases c1 : i = c
        · rw [if_pos c1, if_neg (by omega), if_pos c1]
        · rw [if_neg c1]
          show (if i < c then some (G.2.1 (base + i)) else none) = _
          by_cases c2 : i < c
          · rw [if_pos c2, if_pos c2]
          · rw [if_neg c2, if_neg c2, if_neg c1]
      rw [e0] at hP1 hD1
      have ec : capN (Z.2.1 er) c = Z.2.1 er := by unfold capN; rw [if_neg (by omega), if_neg cf]
      rw [ec] at kk
      exact kk (G.2.1 er) H1 locs1 hP1 hD1 hS1
end CADD
theorem l_join {G : hG} {g : Nat → Nat} {Z Z' : hZ} {Y : va_W} {σ : hSt} {lr er c E' n' : Nat} {md : Int32} {f : Nat → Option Nat} {Nw : va_W} {news : List Nat} (h38 : 38 ≤ lr ∧ lr ≤ 42) (hg : ∀ r, r < 900 → g r = G.2.1 r) (hr : ∀ q ∈ rfP, (σ.2.2 q.1 q.2).map g = (σ.2.2 q.1 q.2).map G.2.1) (hl : ∀ x, 38 ≤ x ∧ x ≤ 42 → x ≠ lr → liE (wG G g) Z' x = liE G Z x) (hZ1 : Z'.1 = er :: (news ++ Z.1.erase er)) (hq : ∀ r ∈ Z.1.erase er, g r = G.2.1 r ∧ hd (wG G g) Z' r = hd G Z r) (hN : Nw = news.map (fun r => (g r, hd (wG G g) Z' r))) (hL : lE md E' c = liE (wG G g) Z' lr) (hE' : E' = g er) (hrow : rE G n' f = hd (wG G g) Z' er) : ((G.2.1 lr, lE md E' c) :: (E', rE G n' f) :: (Nw ++ hR G Z Y σ lr er)).Perm (hW (wG G g) Z' Y σ) := by
  refine List.Perm.symm ((l_split (wG G g) Z' Y σ (er := er) h38).trans ?_)
  have hm : er ∈ Z'.1 := by rw [hZ1]; exact List.mem_cons_self
  rw [if_pos hm, ← hL, ← hrow]
  have e1 : (wG G g).2.1 lr = G.2.1 lr := hg lr (by omega)
  have e2 : (wG G g).2.1 er = E' := hE'.symm
  rw [e1, e2]
  refine List.Perm.cons _ (List.Perm.cons _ ?_)
  show ([] ++ hR (wG G g) Z' Y σ lr er).Perm _
  rw [List.nil_append]
  unfold hR
  rw [hfix_er h38 hg hr hl, hZ1, List.erase_cons_head, List.map_append, hN]
  have e3 : (Z.1.erase er).map (fun r => ((wG G g).2.1 r, hd (wG G g) Z' r)) = (Z.1.erase er).map (fun r => (G.2.1 r, hd G Z r)) := by
    refine List.map_congr_left (fun r hr' => ?_)
    obtain ⟨a1, a2⟩ := hq r hr'
    show (g r, hd (wG G g) Z' r) = _
    rw [a1, a2]
  rw [e3, List.append_assoc]
  have h1 : ∀ (a b d : va_W), (a ++ (b ++ d)).Perm (b ++ (a ++ d)) := fun a b d => by
    rw [← List.append_assoc, ← List.append_assoc]
    exact List.perm_append_comm.append_right d
  exact h1 _ _ _
