/-! a LAW is told: the class's side -/
def nwW (k : Nat) : List Nat := [4000 + k, 6000 + k]
def zWl (Z : hZ) (k len : Nat) : Nat → Nat := fun r => if r = 6000 + k then len else Z.2.1 r
def zWi (Z : hZ) (k : Nat) (f : Nat → Int32) : Nat → Nat → Int32 := fun r j => if r = 6000 + k then f j else Z.2.2.1 r j
def zW2 (Z : hZ) (k len : Nat) (f : Nat → Int32) (n' : Nat) : hZ := zT Z (nwW k) (zWl Z k len) (zWi Z k f) Z.2.2.2 39 10001 4000 k n'
theorem zW_off (Z : hZ) (k len : Nat) (f : Nat → Int32) : ∀ r, r ∉ nwW k → zWl Z k len r = Z.2.1 r ∧ zWi Z k f r = Z.2.2.1 r ∧ Z.2.2.2 r = Z.2.2.2 r := by
  intro r hr
  have h1 : r ≠ 4000 + k ∧ r ≠ 6000 + k := by
    simp only [nwW, List.mem_cons, List.not_mem_nil, or_false, not_or] at hr
    exact hr
  refine ⟨?_, ?_, rfl⟩
  · unfold zWl
    rw [if_neg h1.2]
  · funext j
    unfold zWi
    rw [if_neg h1.2]
theorem nwW_c {k r : Nat} (h : r ∈ nwW k) : r = 4000 + k ∨ r = 6000 + k := by
  simpa only [nwW, List.mem_cons, List.not_mem_nil, or_false] using h
theorem nwW_nt {A : HA} (hA : okA A) (hs : nL_ A < 12) : ∀ r ∈ nwW (nL_ A), 1000 ≤ r ∧ r < 10000 ∧ ¬ told A r := by
  intro r hr
  have c11 := hA.1
  have c12 := hA.2.2.1
  have c13 := hA.2.2.2.2.1
  have c14 := hA.2.2.2.2.2.2.1
  have c15 := hA.2.2.2.2.2.2.2.2.1
  rcases nwW_c hr with rfl | rfl
  all_goals
    refine ⟨by omega, by omega, fun ht => ?_⟩
    rcases ht with ⟨s, hs, h2⟩ | ⟨k, hk, h2⟩ | ⟨k, hk, h2⟩ | ⟨x, hx, h2⟩ | ⟨i, hi, h2⟩ | h2
    all_goals omega
theorem p_cW {A : HA} {Z : hZ} {σ τ : hSt} {F : Nat} (hF : 50000 ≤ F) (h : J A Z σ τ) (hd : txF (aT A).1 (aT A).2 0 = none) : ∃ (σ1 : hSt), f_X10_read F Z σ 5 = some (-1, σ1) ∧ (flat (tZc (aT A).1 (aT A).2 0)).length ≤ 400 ∧ σ1.1 1 5 = i32 ((flat (tZc (aT A).1 (aT A).2 0)).length : Int) ∧ (∀ j, j < (flat (tZc (aT A).1 (aT A).2 0)).length → σ1.1 3 j = i32 ((flat (tZc (aT A).1 (aT A).2 0)).getD j 0)) ∧ fr WT σ σ1 := by
  have s1 := h.2.2.1.1
  obtain ⟨σ1, a1, a2, a3⟩ := p_readT (Z := Z) (F := F) (g := 0) (by omega) (by omega) s1
  obtain ⟨a4, a5⟩ := a3 hd
  obtain ⟨b1, -, b3, -⟩ := tZ_flat (g := 0) (by omega) s1.1 (fun j hj => (s1.2.2 j hj).2) hd
  rw [hd] at a1
  rw [b1] at a4 a5
  exact ⟨σ1, a1, b3, a4, fun j hj => by have := a5 j hj; rw [Nat.zero_add] at this; exact this, a2⟩
theorem fW_old {A : HA} {t : TXT} {k : Nat} (h : k < nL_ A) : fL (upW A t) k = fL A k := if_neg (by omega)
theorem fW_new {A : HA} {t : TXT} : fL (upW A t) (nL_ A) = t := if_pos rfl
theorem okA_W {A : HA} {t : TXT} (h : okA A) (hs : nL_ A < 12) (ht : okX 0 t) : okA (upW A t) := by
  obtain ⟨h1, h2, h3, h4, h5, h6, h7, h8, h9⟩ := h
  have hk : ∀ k, k < nL_ (upW A t) → okX 0 (fL (upW A t) k) := fun k hk => by
    have hk : k < nL_ A + 1 := hk
    by_cases c : k = nL_ A
    · rw [c, fW_new]; exact ht
    · rw [fW_old (by omega)]; exact h4 k (by omega)
  have hn : nL_ (upW A t) ≤ 12 := by show nL_ A + 1 ≤ 12; omega
  exact ⟨h1, h2, hn, hk, h5, h6, h7, fun x hx => by
    obtain ⟨a1, a2, a3, a4⟩ := h8 x hx
    exact ⟨a1, Nat.lt_succ_of_lt a2, a3, a4⟩, h9⟩
theorem tkA_W {A : HA} {t : TXT} {x : Nat} (h : (fK A x).2.2.1 < nL_ A) : tkA (upW A t) x = tkA A x := by
  have e : fL (upW A t) (fK A x).2.2.1 = fL A (fK A x).2.2.1 := fW_old h
  show (nmL (fS A (fK A x).1), (fK A x).2.1, (fun j => (cnL j (fS A (fK A x).1) : Int)), cf (fS A (fK A x).1), (fS A (fK A x).1).length, coL (fS A (fK A x).1), tZc (fL (upW A t) (fK A x).2.2.1).1 (fL (upW A t) (fK A x).2.2.1).2 0, tZc (fG (upW A t) (fK A x).2.2.2).1 (fG (upW A t) (fK A x).2.2.2).2 1) = tkA A x
  rw [e]
  rfl
theorem JSt_W {A : HA} {Z : hZ} {G : hG} {σ σ2 τ : hSt} {t : TXT} {k len n' : Nat} {f : Nat → Int32} (h : J A Z σ τ) (hX : JX A G Z) (h2 : fr WT σ σ2) : JS (upW A t) (zW2 Z k len f n') (sI σ2 1 2 0) := by
  have hS : JS A Z σ2 := JS_w h.2.2.1 h.1 h.2.2.2.2 h2 (by decide) (by decide) (by decide) (by decide)
  have f3 : fr [10102] σ2 (sI σ2 1 2 0) := fr_sI _ _ (by decide)
  obtain ⟨a, b, c, d, e, g⟩ := hS
  have hmem : ∀ r ∈ Z.1, r < 10000 → r ∈ (zW2 Z k len f n').1 := fun r hr hr2 => List.mem_cons_of_mem _ (List.mem_append_right _ ((List.mem_erase_of_ne (by omega)).mpr hr))
  have htk : ∀ x, x < nK_ A → tkA (upW A t) x = tkA A x := fun x hx => tkA_W (h.1.2.2.2.2.2.2.2.1 x hx).2.1
  refine ⟨tpH_0 (sI_t _ _ ⟨rfl, rfl⟩), JP_W b f3 (by decide) (by decide), z13_W c f3 (by decide), caS_up (caS_W (Or.inl rfl) d f3 (by decide) (by decide)) hX h.1 hmem htk, caS_up (caS_W (Or.inr rfl) e f3 (by decide) (by decide)) hX h.1 hmem htk, ?_⟩
  show JLc A (sI σ2 1 2 0)
  unfold JLc at g ⊢
  cases ea : aL A with
  | none =>
    rw [ea] at g
    dsimp only at g ⊢
    exact ⟨by rw [f3.2.2.1 14 8 (by decide)]; exact g.1, by rw [f3.1 14 12 (by decide)]; exact g.2⟩
  | some L =>
    rw [ea] at g
    exact g
theorem JZ_W {A : HA} {Z : hZ} {G : hG} {g : Nat → Nat} {t : TXT} {n' : Nat} {f : Nat → Int32} (h : JZ A Z) (hA : okA A) (hX : JX A G Z) (hs : nL_ A < 12) (hf : ∀ j, j < (flat (tZc t.1 t.2 0)).length → f j = i32 ((flat (tZc t.1 t.2 0)).getD j 0)) (h1 : nL_ A < n') (h2 : n' ≤ 40) (hn : nwG A G g (nwW (nL_ A)) 10001) : JZ (upW A t) (zW2 Z (nL_ A) (flat (tZc t.1 t.2 0)).length f n') ∧ JX (upW A t) (wG G g) (zW2 Z (nL_ A) (flat (tZc t.1 t.2 0)).length f n') := by
  have c11 := hA.1
  have c12 := hA.2.2.1
  have c13 := hA.2.2.2.2.1
  have c14 := hA.2.2.2.2.2.2.1
  have c15 := hA.2.2.2.2.2.2.2.2.1
  generalize hlen : (flat (tZc t.1 t.2 0)).length = len at hf
  have hoff := zW_off Z (nL_ A) len f
  have agr : ∀ r, r ∉ nwW (nL_ A) → r ≠ 10001 → r ≠ 39 → ag Z (zW2 Z (nL_ A) len f n') r := fun r a b c => ag_T b c (hoff r a).1 (hoff r a).2.1 (hoff r a).2.2
  have agt : ∀ r, told A r → r < 10000 → ag Z (zW2 Z (nL_ A) len f n') r := fun r ht hr => agr r (fun q => (nwW_nt hA hs r q).2.2 ht) (by omega) (by
    rcases ht with ⟨s, hs, h2⟩ | ⟨k, hk, h2⟩ | ⟨k, hk, h2⟩ | ⟨x, hx, h2⟩ | ⟨i, hi, h2⟩ | h2
    all_goals omega)
  have hnn : ∀ r, (r < 1000 ∨ 10000 ≤ r) → r ∉ nwW (nL_ A) := fun r hr q => by have := nwW_nt hA hs r q; omega
  have X0 : liX (wG G g) (zW2 Z (nL_ A) len f n') 39 10001 4000 (nL_ A + 1) := liX_T (by decide) h1 h2
  have Xo : ∀ lr er b c, liX G Z lr er b c → lr < 1000 → lr ≠ 39 → 10000 ≤ er → er ≠ 10001 → liX (wG G g) (zW2 Z (nL_ A) len f n') lr er b c := fun lr er b c hl a1 a2 a3 a4 =>
    liX_e hl (agr lr (hnn _ (Or.inl a1)) (by omega) a2) (agr er (hnn _ (Or.inr a3)) a4 (by omega)) (fun q => e6_m (hnn _ (Or.inr a3)) a4 q) (hn.row a3 a4)
  obtain ⟨x1, x2, x3, x4, x5, x6, x7⟩ := hX
  have X1 := Xo 38 10000 1000 _ x3 (by decide) (by decide) (by decide) (by decide)
  have X2 := Xo 40 10002 5000 _ x5 (by decide) (by decide) (by decide) (by decide)
  have X3 := Xo 41 10003 8000 _ x6 (by decide) (by decide) (by decide) (by decide)
  have X4 := Xo 42 10004 9000 _ x7 (by decide) (by decide) (by decide) (by decide)
  have m0 : ∀ r ∈ nwW (nL_ A), r ∈ (zW2 Z (nL_ A) len f n').1 := fun r hr => List.mem_cons_of_mem _ (List.mem_append_left _ hr)
  obtain ⟨⟨y1, y2⟩, ⟨y3, y4⟩, ⟨y5, y6⟩, ⟨y7, y8⟩, y9, y10⟩ := h
  have hnew : ∀ k, k < nL_ A + 1 → teZ (zW2 Z (nL_ A) len f n') (4000 + k) 0 (fL (upW A t) k) := fun k hk => by
    by_cases c : k = nL_ A
    · rw [c, fW_new]
      have e1 : 4000 + nL_ A + 2000 = 6000 + nL_ A := by omega
      refine ⟨te_iff.mpr ⟨m0 _ (by simp [nwW]), by omega, m0 _ (by rw [e1]; simp [nwW])⟩, ?_, fun j hj => ?_⟩
      · rw [e1]
        show (if 6000 + nL_ A = 10001 then _ else if 6000 + nL_ A = 6000 + nL_ A then len else _) = _
        rw [if_neg (by omega), if_pos rfl, hlen]
      · rw [e1]
        show (if 6000 + nL_ A = 39 then _ else if 6000 + nL_ A = 6000 + nL_ A then f j else _) = _
        rw [if_neg (by omega), if_pos rfl]
        exact hf j (by rw [← hlen]; exact hj)
    · rw [fW_old (by omega)]
      have hk3 : k < nL_ A := by omega
      exact teZ_e (y4 k hk3) (agt _ (Or.inr (Or.inl ⟨k, hk3, by omega⟩)) (by omega)) (agt _ (Or.inr (Or.inl ⟨k, hk3, by omega⟩)) (by omega))
  refine ⟨⟨⟨liZ_X X1 (by decide), fun s hs2 => ?_⟩, ⟨liZ_X X0 (by decide), hnew⟩, ⟨liZ_X X2 (by decide), fun k hk => ?_⟩, ⟨liZ_X X3 (by decide), fun x hx => ?_⟩, ⟨liZ_X X4 (by decide), fun i hi => ?_⟩⟩, ⟨fun r hr => ?_, ?_, X1, X0, X2, X3, X4⟩⟩
  · have hs3 : s < nS_ A := hs2
    exact saZ_e (y2 s hs3) (agt _ (Or.inl ⟨s, hs3, by omega⟩) (by omega)) (agt _ (Or.inl ⟨s, hs3, by omega⟩) (by omega)) (agt _ (Or.inl ⟨s, hs3, by omega⟩) (by omega))
  · have hk3 : k < nG_ A := hk
    exact teZ_e (y6 k hk3) (agt _ (Or.inr (Or.inr (Or.inl ⟨k, hk3, by omega⟩))) (by omega)) (agt _ (Or.inr (Or.inr (Or.inl ⟨k, hk3, by omega⟩))) (by omega))
  · have hx3 : x < nK_ A := hx
    exact taZ_e (y8 x hx3) (agt _ (Or.inr (Or.inr (Or.inr (Or.inl ⟨x, hx3, rfl⟩)))) (by omega))
  · have hi3 : i < nN_ A := hi
    exact neZ_e (y10 i hi3) (agt _ (Or.inr (Or.inr (Or.inr (Or.inr (Or.inl ⟨i, hi3, rfl⟩))))) (by omega))
  · rcases List.mem_cons.mp hr with rfl | hr
    · exact Or.inr (Or.inr (Or.inr (Or.inr (Or.inr (by decide)))))
    · rcases List.mem_append.mp hr with hr | hr
      · exact Or.inr (Or.inl ⟨nL_ A, Nat.lt_succ_self _, nwW_c hr⟩)
      · rcases x1 r (List.mem_of_mem_erase hr) with h2 | ⟨k, hk, h2⟩ | ⟨k, hk, h2⟩ | h2
        · exact Or.inl h2
        · exact Or.inr (Or.inl ⟨k, Nat.lt_succ_of_lt hk, h2⟩)
        · exact Or.inr (Or.inr (Or.inl ⟨k, hk, h2⟩))
        · exact Or.inr (Or.inr (Or.inr h2))
  · refine List.nodup_cons.mpr ⟨fun q => ?_, List.nodup_append.mpr ⟨?_, x2.erase _, fun a ha b hb e => ?_⟩⟩
    · rcases List.mem_append.mp q with q | q
      · have := nwW_nt hA hs _ q; omega
      · exact absurd rfl ((List.Nodup.mem_erase_iff x2).mp q).1
    · simp only [nwW, List.nodup_cons, List.mem_cons, List.not_mem_nil, or_false, not_or, not_false_eq_true, List.nodup_nil, and_true]
      omega
    · subst e
      exact (nwW_nt hA hs a ha).2.2 (x1 a (List.mem_of_mem_erase hb))
/-! a GIANT is told: the class's side -/
def nwH (k : Nat) : List Nat := [5000 + k, 7000 + k]
def zHl (Z : hZ) (k len : Nat) : Nat → Nat := fun r => if r = 7000 + k then len else Z.2.1 r
def zHi (Z : hZ) (k : Nat) (f : Nat → Int32) : Nat → Nat → Int32 := fun r j => if r = 7000 + k then f j else Z.2.2.1 r j
def zH2 (Z : hZ) (k len : Nat) (f : Nat → Int32) (n' : Nat) : hZ := zT Z (nwH k) (zHl Z k len) (zHi Z k f) Z.2.2.2 40 10002 5000 k n'
theorem zH_off (Z : hZ) (k len : Nat) (f : Nat → Int32) : ∀ r, r ∉ nwH k → zHl Z k len r = Z.2.1 r ∧ zHi Z k f r = Z.2.2.1 r ∧ Z.2.2.2 r = Z.2.2.2 r := by
  intro r hr
  have h1 : r ≠ 5000 + k ∧ r ≠ 7000 + k := by
    simp only [nwH, List.mem_cons, List.not_mem_nil, or_false, not_or] at hr
    exact hr
  refine ⟨?_, ?_, rfl⟩
  · unfold zHl
    rw [if_neg h1.2]
  · funext j
    unfold zHi
    rw [if_neg h1.2]
theorem nwH_c {k r : Nat} (h : r ∈ nwH k) : r = 5000 + k ∨ r = 7000 + k := by
  simpa only [nwH, List.mem_cons, List.not_mem_nil, or_false] using h
theorem nwH_nt {A : HA} (hA : okA A) (hs : nG_ A < 12) : ∀ r ∈ nwH (nG_ A), 1000 ≤ r ∧ r < 10000 ∧ ¬ told A r := by
  intro r hr
  have c11 := hA.1
  have c12 := hA.2.2.1
  have c13 := hA.2.2.2.2.1
  have c14 := hA.2.2.2.2.2.2.1
  have c15 := hA.2.2.2.2.2.2.2.2.1
  rcases nwH_c hr with rfl | rfl
  all_goals
    refine ⟨by omega, by omega, fun ht => ?_⟩
    rcases ht with ⟨s, hs, h2⟩ | ⟨k, hk, h2⟩ | ⟨k, hk, h2⟩ | ⟨x, hx, h2⟩ | ⟨i, hi, h2⟩ | h2
    all_goals omega
theorem p_cH {A : HA} {Z : hZ} {σ τ : hSt} {F : Nat} (hF : 50000 ≤ F) (h : J A Z σ τ) (hd : txF (aT A).1 (aT A).2 1 = none) : ∃ (σ1 : hSt), f_X10_read F Z σ 6 = some (-1, σ1) ∧ (flat (tZc (aT A).1 (aT A).2 1)).length ≤ 400 ∧ σ1.1 1 5 = i32 ((flat (tZc (aT A).1 (aT A).2 1)).length : Int) ∧ (∀ j, j < (flat (tZc (aT A).1 (aT A).2 1)).length → σ1.1 3 j = i32 ((flat (tZc (aT A).1 (aT A).2 1)).getD j 0)) ∧ fr WT σ σ1 := by
  have s1 := h.2.2.1.1
  obtain ⟨σ1, a1, a2, a3⟩ := p_readT (Z := Z) (F := F) (g := 1) (by omega) (by omega) s1
  obtain ⟨a4, a5⟩ := a3 hd
  obtain ⟨b1, -, b3, -⟩ := tZ_flat (g := 1) (by omega) s1.1 (fun j hj => (s1.2.2 j hj).2) hd
  rw [hd] at a1
  rw [b1] at a4 a5
  exact ⟨σ1, a1, b3, a4, fun j hj => by have := a5 j hj; rw [Nat.zero_add] at this; exact this, a2⟩
theorem fH_old {A : HA} {t : TXT} {k : Nat} (h : k < nG_ A) : fG (upG A t) k = fG A k := if_neg (by omega)
theorem fH_new {A : HA} {t : TXT} : fG (upG A t) (nG_ A) = t := if_pos rfl
theorem okA_H {A : HA} {t : TXT} (h : okA A) (hs : nG_ A < 12) (ht : okX 1 t) : okA (upG A t) := by
  obtain ⟨h1, h2, h3, h4, h5, h6, h7, h8, h9⟩ := h
  have hk : ∀ k, k < nG_ (upG A t) → okX 1 (fG (upG A t) k) := fun k hk => by
    have hk : k < nG_ A + 1 := hk
    by_cases c : k = nG_ A
    · rw [c, fH_new]; exact ht
    · rw [fH_old (by omega)]; exact h6 k (by omega)
  have hn : nG_ (upG A t) ≤ 12 := by show nG_ A + 1 ≤ 12; omega
  exact ⟨h1, h2, h3, h4, hn, hk, h7, fun x hx => by
    obtain ⟨a1, a2, a3, a4⟩ := h8 x hx
    exact ⟨a1, a2, Nat.lt_succ_of_lt a3, a4⟩, h9⟩
theorem tkA_H {A : HA} {t : TXT} {x : Nat} (h : (fK A x).2.2.2 < nG_ A) : tkA (upG A t) x = tkA A x := by
  have e : fG (upG A t) (fK A x).2.2.2 = fG A (fK A x).2.2.2 := fH_old h
  show (nmL (fS A (fK A x).1), (fK A x).2.1, (fun j => (cnL j (fS A (fK A x).1) : Int)), cf (fS A (fK A x).1), (fS A (fK A x).1).length, coL (fS A (fK A x).1), tZc (fL (upG A t) (fK A x).2.2.1).1 (fL (upG A t) (fK A x).2.2.1).2 0, tZc (fG (upG A t) (fK A x).2.2.2).1 (fG (upG A t) (fK A x).2.2.2).2 1) = tkA A x
  rw [e]
  rfl
theorem JSt_H {A : HA} {Z : hZ} {G : hG} {σ σ2 τ : hSt} {t : TXT} {k len n' : Nat} {f : Nat → Int32} (h : J A Z σ τ) (hX : JX A G Z) (h2 : fr WT σ σ2) : JS (upG A t) (zH2 Z k len f n') (sI σ2 1 2 0) := by
  have hS : JS A Z σ2 := JS_w h.2.2.1 h.1 h.2.2.2.2 h2 (by decide) (by decide) (by decide) (by decide)
  have f3 : fr [10102] σ2 (sI σ2 1 2 0) := fr_sI _ _ (by decide)
  obtain ⟨a, b, c, d, e, g⟩ := hS
  have hmem : ∀ r ∈ Z.1, r < 10000 → r ∈ (zH2 Z k len f n').1 := fun r hr hr2 => List.mem_cons_of_mem _ (List.mem_append_right _ ((List.mem_erase_of_ne (by omega)).mpr hr))
  have htk : ∀ x, x < nK_ A → tkA (upG A t) x = tkA A x := fun x hx => tkA_H (h.1.2.2.2.2.2.2.2.1 x hx).2.2.1
  refine ⟨tpH_0 (sI_t _ _ ⟨rfl, rfl⟩), JP_W b f3 (by decide) (by decide), z13_W c f3 (by decide), caS_up (caS_W (Or.inl rfl) d f3 (by decide) (by decide)) hX h.1 hmem htk, caS_up (caS_W (Or.inr rfl) e f3 (by decide) (by decide)) hX h.1 hmem htk, ?_⟩
  show JLc A (sI σ2 1 2 0)
  unfold JLc at g ⊢
  cases ea : aL A with
  | none =>
    rw [ea] at g
    dsimp only at g ⊢
    exact ⟨by rw [f3.2.2.1 14 8 (by decide)]; exact g.1, by rw [f3.1 14 12 (by decide)]; exact g.2⟩
  | some L =>
    rw [ea] at g
    exact g
theorem JZ_H {A : HA} {Z : hZ} {G : hG} {g : Nat → Nat} {t : TXT} {n' : Nat} {f : Nat → Int32} (h : JZ A Z) (hA : okA A) (hX : JX A G Z) (hs : nG_ A < 12) (hf : ∀ j, j < (flat (tZc t.1 t.2 1)).length → f j = i32 ((flat (tZc t.1 t.2 1)).getD j 0)) (h1 : nG_ A < n') (h2 : n' ≤ 40) (hn : nwG A G g (nwH (nG_ A)) 10002) : JZ (upG A t) (zH2 Z (nG_ A) (flat (tZc t.1 t.2 1)).length f n') ∧ JX (upG A t) (wG G g) (zH2 Z (nG_ A) (flat (tZc t.1 t.2 1)).length f n') := by
  have c11 := hA.1
  have c12 := hA.2.2.1
  have c13 := hA.2.2.2.2.1
  have c14 := hA.2.2.2.2.2.2.1
  have c15 := hA.2.2.2.2.2.2.2.2.1
  generalize hlen : (flat (tZc t.1 t.2 1)).length = len at hf
  have hoff := zH_off Z (nG_ A) len f
  have agr : ∀ r, r ∉ nwH (nG_ A) → r ≠ 10002 → r ≠ 40 → ag Z (zH2 Z (nG_ A) len f n') r := fun r a b c => ag_T b c (hoff r a).1 (hoff r a).2.1 (hoff r a).2.2
  have agt : ∀ r, told A r → r < 10000 → ag Z (zH2 Z (nG_ A) len f n') r := fun r ht hr => agr r (fun q => (nwH_nt hA hs r q).2.2 ht) (by omega) (by
    rcases ht with ⟨s, hs, h2⟩ | ⟨k, hk, h2⟩ | ⟨k, hk, h2⟩ | ⟨x, hx, h2⟩ | ⟨i, hi, h2⟩ | h2
    all_goals omega)
  have hnn : ∀ r, (r < 1000 ∨ 10000 ≤ r) → r ∉ nwH (nG_ A) := fun r hr q => by have := nwH_nt hA hs r q; omega
  have X0 : liX (wG G g) (zH2 Z (nG_ A) len f n') 40 10002 5000 (nG_ A + 1) := liX_T (by decide) h1 h2
  have Xo : ∀ lr er b c, liX G Z lr er b c → lr < 1000 → lr ≠ 40 → 10000 ≤ er → er ≠ 10002 → liX (wG G g) (zH2 Z (nG_ A) len f n') lr er b c := fun lr er b c hl a1 a2 a3 a4 =>
    liX_e hl (agr lr (hnn _ (Or.inl a1)) (by omega) a2) (agr er (hnn _ (Or.inr a3)) a4 (by omega)) (fun q => e6_m (hnn _ (Or.inr a3)) a4 q) (hn.row a3 a4)
  obtain ⟨x1, x2, x3, x4, x5, x6, x7⟩ := hX
  have X1 := Xo 38 10000 1000 _ x3 (by decide) (by decide) (by decide) (by decide)
  have X2 := Xo 39 10001 4000 _ x4 (by decide) (by decide) (by decide) (by decide)
  have X3 := Xo 41 10003 8000 _ x6 (by decide) (by decide) (by decide) (by decide)
  have X4 := Xo 42 10004 9000 _ x7 (by decide) (by decide) (by decide) (by decide)
  have m0 : ∀ r ∈ nwH (nG_ A), r ∈ (zH2 Z (nG_ A) len f n').1 := fun r hr => List.mem_cons_of_mem _ (List.mem_append_left _ hr)
  obtain ⟨⟨y1, y2⟩, ⟨y3, y4⟩, ⟨y5, y6⟩, ⟨y7, y8⟩, y9, y10⟩ := h
  have hnew : ∀ k, k < nG_ A + 1 → teZ (zH2 Z (nG_ A) len f n') (5000 + k) 1 (fG (upG A t) k) := fun k hk => by
    by_cases c : k = nG_ A
    · rw [c, fH_new]
      have e1 : 5000 + nG_ A + 2000 = 7000 + nG_ A := by omega
      refine ⟨te_iff.mpr ⟨m0 _ (by simp [nwH]), by omega, m0 _ (by rw [e1]; simp [nwH])⟩, ?_, fun j hj => ?_⟩
      · rw [e1]
        show (if 7000 + nG_ A = 10002 then _ else if 7000 + nG_ A = 7000 + nG_ A then len else _) = _
        rw [if_neg (by omega), if_pos rfl, hlen]
      · rw [e1]
        show (if 7000 + nG_ A = 40 then _ else if 7000 + nG_ A = 7000 + nG_ A then f j else _) = _
        rw [if_neg (by omega), if_pos rfl]
        exact hf j (by rw [← hlen]; exact hj)
    · rw [fH_old (by omega)]
      have hk3 : k < nG_ A := by omega
      exact teZ_e (y6 k hk3) (agt _ (Or.inr (Or.inr (Or.inl ⟨k, hk3, by omega⟩))) (by omega)) (agt _ (Or.inr (Or.inr (Or.inl ⟨k, hk3, by omega⟩))) (by omega))
  refine ⟨⟨⟨liZ_X X1 (by decide), fun s hs2 => ?_⟩, ⟨liZ_X X2 (by decide), fun k hk => ?_⟩, ⟨liZ_X X0 (by decide), hnew⟩, ⟨liZ_X X3 (by decide), fun x hx => ?_⟩, ⟨liZ_X X4 (by decide), fun i hi => ?_⟩⟩, ⟨fun r hr => ?_, ?_, X1, X2, X0, X3, X4⟩⟩
  · have hs3 : s < nS_ A := hs2
    exact saZ_e (y2 s hs3) (agt _ (Or.inl ⟨s, hs3, by omega⟩) (by omega)) (agt _ (Or.inl ⟨s, hs3, by omega⟩) (by omega)) (agt _ (Or.inl ⟨s, hs3, by omega⟩) (by omega))
  · have hk3 : k < nL_ A := hk
    exact teZ_e (y4 k hk3) (agt _ (Or.inr (Or.inl ⟨k, hk3, by omega⟩)) (by omega)) (agt _ (Or.inr (Or.inl ⟨k, hk3, by omega⟩)) (by omega))
  · have hx3 : x < nK_ A := hx
    exact taZ_e (y8 x hx3) (agt _ (Or.inr (Or.inr (Or.inr (Or.inl ⟨x, hx3, rfl⟩)))) (by omega))
  · have hi3 : i < nN_ A := hi
    exact neZ_e (y10 i hi3) (agt _ (Or.inr (Or.inr (Or.inr (Or.inr (Or.inl ⟨i, hi3, rfl⟩))))) (by omega))
  · rcases List.mem_cons.mp hr with rfl | hr
    · exact Or.inr (Or.inr (Or.inr (Or.inr (Or.inr (by decide)))))
    · rcases List.mem_append.mp hr with hr | hr
      · exact Or.inr (Or.inr (Or.inl ⟨nG_ A, Nat.lt_succ_self _, nwH_c hr⟩))
      · rcases x1 r (List.mem_of_mem_erase hr) with h2 | ⟨k, hk, h2⟩ | ⟨k, hk, h2⟩ | h2
        · exact Or.inl h2
        · exact Or.inr (Or.inl ⟨k, hk, h2⟩)
        · exact Or.inr (Or.inr (Or.inl ⟨k, Nat.lt_succ_of_lt hk, h2⟩))
        · exact Or.inr (Or.inr (Or.inr h2))
  · refine List.nodup_cons.mpr ⟨fun q => ?_, List.nodup_append.mpr ⟨?_, x2.erase _, fun a ha b hb e => ?_⟩⟩
    · rcases List.mem_append.mp q with q | q
      · have := nwH_nt hA hs _ q; omega
      · exact absurd rfl ((List.Nodup.mem_erase_iff x2).mp q).1
    · simp only [nwH, List.nodup_cons, List.mem_cons, List.not_mem_nil, or_false, not_or, not_false_eq_true, List.nodup_nil, and_true]
      omega
    · subst e
      exact (nwH_nt hA hs a ha).2.2 (x1 a (List.mem_of_mem_erase hb))
