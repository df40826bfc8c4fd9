/-! a SAYING is told: the class's side -/
def zSl (Z : hZ) (s len : Nat) : Nat → Nat := fun r => if r = 2000 + s then len else if r = 3000 + s then 6 else Z.2.1 r
def zSi (Z : hZ) (s : Nat) (nm wk v : Int32) (f st : Nat → Int32) : Nat → Nat → Int32 := fun r j => if r = 1000 + s then (if j = 2 then nm else if j = 3 then wk else if j = 4 then v else 0) else if r = 2000 + s then f j else if r = 3000 + s then st j else Z.2.2.1 r j
def nwS (s : Nat) : List Nat := [1000 + s, 2000 + s, 3000 + s]
/-- it stands, and isn't told yet -/
def zS1 (Z : hZ) (s len : Nat) (nm wk v : Int32) (f st : Nat → Int32) : hZ := (nwS s ++ Z.1, zSl Z s len, zSi Z s nm wk v f st, Z.2.2.2)
def zS2 (Z : hZ) (s len : Nat) (nm wk v : Int32) (f st : Nat → Int32) (n' : Nat) : hZ := zT Z (nwS s) (zSl Z s len) (zSi Z s nm wk v f st) Z.2.2.2 38 10000 1000 s n'
theorem zS_off (Z : hZ) (s len : Nat) (nm wk v : Int32) (f st : Nat → Int32) : ∀ r, r ∉ nwS s → zSl Z s len r = Z.2.1 r ∧ zSi Z s nm wk v f st r = Z.2.2.1 r ∧ Z.2.2.2 r = Z.2.2.2 r := by
  intro r hr
  have h1 : r ≠ 1000 + s ∧ r ≠ 2000 + s ∧ r ≠ 3000 + s := by
    simp only [nwS, List.mem_cons, List.not_mem_nil, or_false, not_or] at hr
    exact hr
  refine ⟨?_, ?_, rfl⟩
  · unfold zSl
    rw [if_neg h1.2.1, if_neg h1.2.2]
  · funext j
    unfold zSi
    rw [if_neg h1.1, if_neg h1.2.1, if_neg h1.2.2]
theorem nwS_c {s r : Nat} (h : r ∈ nwS s) : r = 1000 + s ∨ r = 2000 + s ∨ r = 3000 + s := by
  simpa only [nwS, List.mem_cons, List.not_mem_nil, or_false] using h
theorem nwS_nt {A : HA} (hs : nS_ A < 20) : ∀ r ∈ nwS (nS_ A), 1000 ≤ r ∧ r < 10000 ∧ ¬ told A r := by
  intro r hr
  rcases nwS_c hr with rfl | rfl | rfl
  all_goals
    refine ⟨by omega, by omega, fun ht => ?_⟩
    rcases ht with ⟨s, hs, h2⟩ | ⟨k, hk, h2⟩ | ⟨k, hk, h2⟩ | ⟨x, hx, h2⟩ | ⟨i, hi, h2⟩ | h2
    all_goals omega
theorem p_csay {A : HA} {Z : hZ} {σ τ : hSt} {F : Nat} (hF : 50000 ≤ F) (h : J A Z σ τ) (hs : nS_ A < 20) (hd : sayF (aT A).1 (aT A).2 = none) : ∃ (C : List Int) (σ1 : hSt), C = (sayO (aT A).1 (aT A).2 8 0).2.2 ∧ okC C ∧ f_X5_read F Z σ = some (-1, σ1) ∧ σ1.1 1 5 = i32 (C.length : Int) ∧ (∀ j, j < C.length → σ1.1 3 j = i32 (C.getD j 0)) ∧ fr WT σ σ1 ∧ ∀ (f st : Nat → Int32), (∀ j, j < C.length → f j = i32 (C.getD j 0)) → ∃ σ2, f_X3_overCorners F (zS1 Z (nS_ A) C.length (i32 (nmL C : Int)) (i32 (wkL C : Int)) 0 f st) σ1 (1000 + nS_ A) 0 1000000007 = some (i64 (coL C), σ2) ∧ fr [8, 9] σ1 σ2 := by
  have s1 := h.2.2.1.1
  obtain ⟨σ1, a1, a2, a3⟩ := p_readS (Z := Z) (F := F) (by omega) s1
  obtain ⟨a4, a5⟩ := a3 hd
  have hw := say_wf s1.1 (sayF_ok hd)
  have hC : okC (sayO (aT A).1 (aT A).2 8 0).2.2 := ⟨hw.1, hw⟩
  rw [hd] at a1
  refine ⟨_, σ1, rfl, hC, a1, a4, fun j hj => by have := a5 j hj; rw [Nat.zero_add] at this; exact this, a2, fun f st hf => ?_⟩
  have hsg : sgn (zS1 Z (nS_ A) (sayO (aT A).1 (aT A).2 8 0).2.2.length (i32 (nmL (sayO (aT A).1 (aT A).2 8 0).2.2 : Int)) (i32 (wkL (sayO (aT A).1 (aT A).2 8 0).2.2 : Int)) 0 f st) (1000 + nS_ A) (cf (sayO (aT A).1 (aT A).2 8 0).2.2) (sayO (aT A).1 (aT A).2 8 0).2.2.length := by
    refine ⟨?_, fun j hj => ?_⟩
    · show (if 1000 + nS_ A + 1000 = 2000 + nS_ A then _ else _) = _
      rw [if_pos (by omega)]
    · show (if 1000 + nS_ A + 1000 = 1000 + nS_ A then _ else if 1000 + nS_ A + 1000 = 2000 + nS_ A then f j else _) = _
      rw [if_neg (by omega), if_pos (by omega)]
      exact hf j hj
  have hnm : (zS1 Z (nS_ A) (sayO (aT A).1 (aT A).2 8 0).2.2.length (i32 (nmL (sayO (aT A).1 (aT A).2 8 0).2.2 : Int)) (i32 (wkL (sayO (aT A).1 (aT A).2 8 0).2.2 : Int)) 0 f st).2.2.1 (1000 + nS_ A) 2 = i32 (nmL (sayO (aT A).1 (aT A).2 8 0).2.2 : Int) := by
    show (if 1000 + nS_ A = 1000 + nS_ A then (if 2 = 2 then _ else _) else _) = _
    rw [if_pos rfl, if_pos rfl]
  obtain ⟨σ2, c1, c2, -⟩ := pg_over (F := F) (i := 0) (p := 1000000007) (pt := fun _ => 0) (by omega) hsg hnm hw (nmB_of hw) (by decide) (fun i _ => ⟨by show (0 : Int) ≤ 0; decide, by show (0 : Int) < 1000000007; decide⟩) (Nat.zero_le _) σ1 (fun i hi => absurd hi (Nat.not_lt_zero i))
  exact ⟨σ2, c1, c2⟩
theorem fS_old {A : HA} {C : List Int} {s : Nat} (h : s < nS_ A) : fS (upS A C) s = fS A s := if_neg (by omega)
theorem fS_new {A : HA} {C : List Int} : fS (upS A C) (nS_ A) = C := if_pos rfl
theorem okA_S {A : HA} {C : List Int} (h : okA A) (hs : nS_ A < 20) (hC : okC C) : okA (upS A C) := by
  obtain ⟨h1, h2, h3, h4, h5, h6, h7, h8, h9⟩ := h
  refine ⟨?_, fun s hs2 => ?_, h3, h4, h5, h6, h7, fun x hx => ?_, h9⟩
  · show nS_ A + 1 ≤ 20; omega
  · have hs2 : s < nS_ A + 1 := hs2
    by_cases c : s = nS_ A
    · rw [c, fS_new]; exact hC
    · rw [fS_old (by omega)]; exact h2 s (by omega)
  · obtain ⟨a1, a2, a3, a4, a5, a6⟩ := h8 x hx
    refine ⟨Nat.lt_succ_of_lt a1, a2, a3, a4, a5, fun j hj => ?_⟩
    show (cnL j (fS (upS A C) (fK A x).1) : Int) < _
    rw [fS_old a1]
    exact a6 j hj
theorem tkA_S {A : HA} {C : List Int} {x : Nat} (h : (fK A x).1 < nS_ A) : tkA (upS A C) x = tkA A x := by
  unfold tkA
  have e : fS (upS A C) (fK (upS A C) x).1 = fS A (fK A x).1 := fS_old h
  rw [e]
  rfl
theorem JLo_S {A : HA} {C : List Int} (h : JLo A) (hA : okA A) : JLo (upS A C) := by
  unfold JLo at h ⊢
  have ea : aL (upS A C) = aL A := rfl
  rw [ea]
  cases e : aL A with
  | none => trivial
  | some L =>
    rw [e] at h
    dsimp only at h ⊢
    obtain ⟨a1, a2, a3, a4⟩ := h
    refine ⟨a1, a2, ?_, a4⟩
    have es : fS (upS A C) (fK (upS A C) L.1).1 = fS A (fK A L.1).1 := fS_old (hA.2.2.2.2.2.2.2.1 L.1 a1).1
    rw [es]; exact a3
theorem JLc_S {A : HA} {σ : hSt} {C : List Int} (h : JLc A σ) (ho : JLo A) (hA : okA A) : JLc (upS A C) σ := by
  unfold JLc at h ⊢
  unfold JLo at ho
  have ea : aL (upS A C) = aL A := rfl
  rw [ea]
  cases e : aL A with
  | none => rw [e] at h; exact h
  | some L =>
    rw [e] at h ho
    dsimp only at h ho ⊢
    refine ⟨h.1, fun x hx q hq => h.2 x hx q ?_⟩
    have es : fS (upS A C) (fK (upS A C) L.1).1 = fS A (fK A L.1).1 := fS_old (hA.2.2.2.2.2.2.2.1 L.1 ho.1).1
    rw [es] at hq
    exact hq
/-- what a course holds stands when more is told -/
theorem caS_up {A A' : HA} {Z Z' : hZ} {G : hG} {r0 : Nat} {σ : hSt} (h : caS Z (tfA A) r0 σ) (hX : JX A G Z) (hA : okA A) (h1 : ∀ r ∈ Z.1, r < 10000 → r ∈ Z'.1) (h2 : ∀ x, x < nK_ A → tkA A' x = tkA A x) : caS Z' (tfA A') r0 σ := by
  intro r1 hr
  have c11 := hA.1
  have c12 := hA.2.2.1
  have c13 := hA.2.2.2.2.1
  have c14 := hA.2.2.2.2.2.2.1
  have c15 := hA.2.2.2.2.2.2.2.2.1
  obtain ⟨a1, a2⟩ := h r1 hr
  have a1 := ta_iff.mp a1
  obtain ⟨x, hx, rfl⟩ : ∃ x, x < nK_ A ∧ r1 = 8000 + x := by
    rcases hX.1 r1 a1.1 with ⟨s, hs, h2⟩ | ⟨k, hk, h2⟩ | ⟨k, hk, h2⟩ | ⟨x, hx, h2⟩ | ⟨i, hi, h2⟩ | h2
    · omega
    · omega
    · omega
    · exact ⟨x, hx, h2⟩
    all_goals omega
  refine ⟨ta_iff.mpr ⟨h1 _ a1.1 (by omega), a1.2⟩, ?_⟩
  have et : tfA A' (8000 + x) = tfA A (8000 + x) := by
    unfold tfA
    rw [show 8000 + x - 8000 = x by omega]
    exact h2 x hx
  rw [et]
  exact a2
theorem JS_say {A : HA} {Z : hZ} {G : hG} {σ σ2 τ : hSt} {C : List Int} {s len n' : Nat} {nm wk v : Int32} {f st : Nat → Int32} (h : J A Z σ τ) (hX : JX A G Z) (h2 : fr [3, 8, 9, 10103, 10104, 10105] σ σ2) : JS (upS A C) (zS2 Z s len nm wk v f st n') (sI σ2 1 2 0) := by
  have hS : JS A Z σ2 := JS_w h.2.2.1 h.1 h.2.2.2.2 h2 (by decide) (by decide) (by decide) (by decide)
  have f3 : fr [10102] σ2 (sI σ2 1 2 0) := fr_sI _ _ (by decide)
  obtain ⟨a, b, c, d, e, g⟩ := hS
  have hmem : ∀ r ∈ Z.1, r < 10000 → r ∈ (zS2 Z s len nm wk v f st n').1 := fun r hr hr2 => List.mem_cons_of_mem _ (List.mem_append_right _ ((List.mem_erase_of_ne (by omega)).mpr hr))
  have htk : ∀ x, x < nK_ A → tkA (upS A C) x = tkA A x := fun x hx => tkA_S (h.1.2.2.2.2.2.2.2.1 x hx).1
  refine ⟨tpH_0 (sI_t _ _ ⟨rfl, rfl⟩), JP_W b f3 (by decide) (by decide), z13_W c f3 (by decide), caS_up (caS_W (Or.inl rfl) d f3 (by decide) (by decide)) hX h.1 hmem htk, caS_up (caS_W (Or.inr rfl) e f3 (by decide) (by decide)) hX h.1 hmem htk, ?_⟩
  refine JLc_S ?_ h.2.2.2.2 h.1
  unfold JLc at g ⊢
  cases ea : aL A with
  | none =>
    rw [ea] at g
    dsimp only at g ⊢
    exact ⟨by rw [f3.2.2.1 14 8 (by decide)]; exact g.1, by rw [f3.1 14 12 (by decide)]; exact g.2⟩
  | some L =>
    rw [ea] at g
    exact g
theorem JZ_say {A : HA} {Z : hZ} {G : hG} {g : Nat → Nat} {C : List Int} {n' : Nat} {f : Nat → Int32} (h : JZ A Z) (hA : okA A) (hX : JX A G Z) (hs : nS_ A < 20) (hC : okC C) (hf : ∀ j, j < C.length → f j = i32 (C.getD j 0)) (h1 : nS_ A < n') (h2 : n' ≤ 40) (hn : nwG A G g (nwS (nS_ A)) 10000) : JZ (upS A C) (zS2 Z (nS_ A) C.length (i32 (nmL C : Int)) (i32 (wkL C : Int)) (i32 (coL C)) f (stpF C C.length) n') ∧ JX (upS A C) (wG G g) (zS2 Z (nS_ A) C.length (i32 (nmL C : Int)) (i32 (wkL C : Int)) (i32 (coL C)) f (stpF C C.length) n') := by
  have c12 := hA.2.2.1
  have c13 := hA.2.2.2.2.1
  have c14 := hA.2.2.2.2.2.2.1
  have c15 := hA.2.2.2.2.2.2.2.2.1
  have hoff := zS_off Z (nS_ A) C.length (i32 (nmL C : Int)) (i32 (wkL C : Int)) (i32 (coL C)) f (stpF C C.length)
  have agr : ∀ r, r ∉ nwS (nS_ A) → r ≠ 10000 → r ≠ 38 → ag Z (zS2 Z (nS_ A) C.length (i32 (nmL C : Int)) (i32 (wkL C : Int)) (i32 (coL C)) f (stpF C C.length) n') r := fun r a b c => ag_T b c (hoff r a).1 (hoff r a).2.1 (hoff r a).2.2
  have agt : ∀ r, told A r → r < 10000 → ag Z (zS2 Z (nS_ A) C.length (i32 (nmL C : Int)) (i32 (wkL C : Int)) (i32 (coL C)) f (stpF C C.length) n') r := fun r ht hr => agr r (fun q => (nwS_nt hs r q).2.2 ht) (by omega) (by
    rcases ht with ⟨s, hs, h2⟩ | ⟨k, hk, h2⟩ | ⟨k, hk, h2⟩ | ⟨x, hx, h2⟩ | ⟨i, hi, h2⟩ | h2
    all_goals omega)
  have hnn : ∀ r, (r < 1000 ∨ 10000 ≤ r) → r ∉ nwS (nS_ A) := fun r hr q => by have := nwS_nt hs r q; omega
  have X0 : liX (wG G g) (zS2 Z (nS_ A) C.length (i32 (nmL C : Int)) (i32 (wkL C : Int)) (i32 (coL C)) f (stpF C C.length) n') 38 10000 1000 (nS_ A + 1) := liX_T (by decide) h1 h2
  have Xo : ∀ lr er b c, liX G Z lr er b c → lr < 1000 → lr ≠ 38 → 10000 < er → liX (wG G g) (zS2 Z (nS_ A) C.length (i32 (nmL C : Int)) (i32 (wkL C : Int)) (i32 (coL C)) f (stpF C C.length) n') lr er b c := fun lr er b c hl a1 a2 a3 =>
    liX_e hl (agr lr (hnn _ (Or.inl a1)) (by omega) a2) (agr er (hnn _ (Or.inr (by omega))) (by omega) (by omega)) (fun q => e6_m (hnn _ (Or.inr (by omega))) (by omega) q) (hn.row (by omega) (by omega))
  obtain ⟨x1, x2, x3, x4, x5, x6, x7⟩ := hX
  have X1 := Xo 39 10001 4000 _ x4 (by decide) (by decide) (by decide)
  have X2 := Xo 40 10002 5000 _ x5 (by decide) (by decide) (by decide)
  have X3 := Xo 41 10003 8000 _ x6 (by decide) (by decide) (by decide)
  have X4 := Xo 42 10004 9000 _ x7 (by decide) (by decide) (by decide)
  have m0 : ∀ r ∈ nwS (nS_ A), r ∈ (zS2 Z (nS_ A) C.length (i32 (nmL C : Int)) (i32 (wkL C : Int)) (i32 (coL C)) f (stpF C C.length) n').1 := fun r hr => List.mem_cons_of_mem _ (List.mem_append_left _ hr)
  obtain ⟨⟨y1, y2⟩, ⟨y3, y4⟩, ⟨y5, y6⟩, ⟨y7, y8⟩, y9, y10⟩ := h
  refine ⟨⟨⟨liZ_X X0 (by decide), fun s hs2 => ?_⟩, ⟨liZ_X X1 (by decide), fun k hk => ?_⟩, ⟨liZ_X X2 (by decide), fun k hk => ?_⟩, ⟨liZ_X X3 (by decide), fun x hx => ?_⟩, ⟨liZ_X X4 (by decide), fun i hi => ?_⟩⟩, ⟨fun r hr => ?_, ?_, X0, X1, X2, X3, X4⟩⟩
  · have hs2 : s < nS_ A + 1 := hs2
    by_cases c : s = nS_ A
    · rw [c, fS_new]
      have q0 : zSi Z (nS_ A) (i32 (nmL C : Int)) (i32 (wkL C : Int)) (i32 (coL C)) f (stpF C C.length) (1000 + nS_ A) = fun j => if j = 2 then i32 (nmL C : Int) else if j = 3 then i32 (wkL C : Int) else if j = 4 then i32 (coL C) else 0 := by
        funext j; unfold zSi; rw [if_pos rfl]
      have q1 : zSi Z (nS_ A) (i32 (nmL C : Int)) (i32 (wkL C : Int)) (i32 (coL C)) f (stpF C C.length) (2000 + nS_ A) = f := by
        funext j; unfold zSi; rw [if_neg (by omega), if_pos rfl]
      have q2 : zSi Z (nS_ A) (i32 (nmL C : Int)) (i32 (wkL C : Int)) (i32 (coL C)) f (stpF C C.length) (3000 + nS_ A) = stpF C C.length := by
        funext j; unfold zSi; rw [if_neg (by omega), if_neg (by omega), if_pos rfl]
      have fI : ∀ r, r ≠ 38 → (zS2 Z (nS_ A) C.length (i32 (nmL C : Int)) (i32 (wkL C : Int)) (i32 (coL C)) f (stpF C C.length) n').2.2.1 r = zSi Z (nS_ A) (i32 (nmL C : Int)) (i32 (wkL C : Int)) (i32 (coL C)) f (stpF C C.length) r := fun r hr => by
        funext j
        show (if r = 38 then _ else _) = _
        rw [if_neg hr]
      have fL : ∀ r, r ≠ 10000 → (zS2 Z (nS_ A) C.length (i32 (nmL C : Int)) (i32 (wkL C : Int)) (i32 (coL C)) f (stpF C C.length) n').2.1 r = zSl Z (nS_ A) C.length r := fun r hr => by
        show (if r = 10000 then _ else _) = _
        rw [if_neg hr]
      have e1 : 1000 + nS_ A + 1000 = 2000 + nS_ A := by omega
      have e2 : 1000 + nS_ A + 2000 = 3000 + nS_ A := by omega
      refine ⟨sa_iff.mpr ⟨m0 _ (by simp [nwS]), by omega, m0 _ (by rw [e1]; simp [nwS]), m0 _ (by rw [e2]; simp [nwS])⟩, ⟨?_, fun j hj => ?_⟩, ?_, ?_, ?_, ?_, fun j hj => ?_⟩
      · rw [e1, fL _ (by omega)]
        unfold zSl; rw [if_pos rfl]
      · rw [e1, fI _ (by omega), q1]; exact hf j hj
      · rw [fI _ (by omega), q0]; rfl
      · rw [fI _ (by omega), q0]; rfl
      · rw [fI _ (by omega), q0]; rfl
      · rw [e2, fL _ (by omega)]
        unfold zSl; rw [if_neg (by omega), if_pos rfl]
      · rw [e2, fI _ (by omega), q2, stpF_at (fun j hj => (hC.2.2.1 j hj).1) C.length (Nat.le_refl _) j hj, List.take_length]
    · rw [fS_old (by omega)]
      have hs3 : s < nS_ A := by omega
      exact saZ_e (y2 s hs3) (agt _ (Or.inl ⟨s, hs3, by omega⟩) (by omega)) (agt _ (Or.inl ⟨s, hs3, by omega⟩) (by omega)) (agt _ (Or.inl ⟨s, hs3, by omega⟩) (by omega))
  · exact teZ_e (y4 k hk) (agt _ (Or.inr (Or.inl ⟨k, hk, by omega⟩)) (by have : k < nL_ A := hk; omega)) (agt _ (Or.inr (Or.inl ⟨k, hk, by omega⟩)) (by have : k < nL_ A := hk; omega))
  · exact teZ_e (y6 k hk) (agt _ (Or.inr (Or.inr (Or.inl ⟨k, hk, by omega⟩))) (by have : k < nG_ A := hk; omega)) (agt _ (Or.inr (Or.inr (Or.inl ⟨k, hk, by omega⟩))) (by have : k < nG_ A := hk; omega))
  · exact taZ_e (y8 x hx) (agt _ (Or.inr (Or.inr (Or.inr (Or.inl ⟨x, hx, rfl⟩)))) (by have : x < nK_ A := hx; omega))
  · exact neZ_e (y10 i hi) (agt _ (Or.inr (Or.inr (Or.inr (Or.inr (Or.inl ⟨i, hi, rfl⟩))))) (by have : i < nN_ A := hi; omega))
  · rcases List.mem_cons.mp hr with rfl | hr
    · exact Or.inr (Or.inr (Or.inr (Or.inr (Or.inr (by decide)))))
    · rcases List.mem_append.mp hr with hr | hr
      · exact Or.inl ⟨nS_ A, Nat.lt_succ_self _, nwS_c hr⟩
      · rcases x1 r (List.mem_of_mem_erase hr) with ⟨s, hs, h2⟩ | h2
        · exact Or.inl ⟨s, Nat.lt_succ_of_lt hs, h2⟩
        · exact Or.inr h2
  · refine List.nodup_cons.mpr ⟨fun q => ?_, List.nodup_append.mpr ⟨?_, x2.erase _, fun a ha b hb e => ?_⟩⟩
    · rcases List.mem_append.mp q with q | q
      · have := nwS_nt hs _ q; omega
      · exact absurd rfl ((List.Nodup.mem_erase_iff x2).mp q).1
    · simp only [nwS, List.nodup_cons, List.mem_cons, List.not_mem_nil, or_false, not_or, not_false_eq_true, List.nodup_nil, and_true]
      omega
    · subst e
      exact (nwS_nt hs a ha).2.2 (x1 a (List.mem_of_mem_erase hb))
