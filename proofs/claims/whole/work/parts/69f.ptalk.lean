/-! a TALK is told: the class's side -/
def nwK (k : Nat) : List Nat := [8000 + k]
def zKi (Z : hZ) (k : Nat) (t : Nat × Int × Nat × Nat) : Nat → Nat → Int32 := fun r j => if r = 8000 + k then (if j = 1 then i32 t.2.1 else Z.2.2.1 r j) else Z.2.2.1 r j
def zKr (Z : hZ) (k : Nat) (t : Nat × Int × Nat × Nat) : Nat → Nat → Option Nat := fun r j => if r = 8000 + k then (if j = 0 then some (1000 + t.1) else if j = 2 then some (4000 + t.2.2.1) else if j = 3 then some (5000 + t.2.2.2) else none) else Z.2.2.2 r j
def zK2 (Z : hZ) (k : Nat) (t : Nat × Int × Nat × Nat) (n' : Nat) : hZ := zT Z (nwK k) Z.2.1 (zKi Z k t) (zKr Z k t) 41 10003 8000 k n'
theorem zK_off (Z : hZ) (k : Nat) (t : Nat × Int × Nat × Nat) : ∀ r, r ∉ nwK k → Z.2.1 r = Z.2.1 r ∧ zKi Z k t r = Z.2.2.1 r ∧ (zKr Z k t) r = Z.2.2.2 r := by
  intro r hr
  have h1 : r ≠ 8000 + k := by
    simpa only [nwK, List.mem_cons, List.not_mem_nil, or_false] using hr
  refine ⟨rfl, ?_, ?_⟩
  · funext j
    unfold zKi
    rw [if_neg h1]
  · funext j
    unfold zKr
    rw [if_neg h1]
theorem nwK_c {k r : Nat} (h : r ∈ nwK k) : r = 8000 + k := by
  simpa only [nwK, List.mem_cons, List.not_mem_nil, or_false] using h
theorem nwK_nt {A : HA} (hA : okA A) (hs : nK_ A < 12) : ∀ r ∈ nwK (nK_ A), 1000 ≤ r ∧ r < 10000 ∧ ¬ told A r := by
  intro r hr
  have c11 := hA.1
  have c12 := hA.2.2.1
  have c13 := hA.2.2.2.2.1
  have c14 := hA.2.2.2.2.2.2.1
  have c15 := hA.2.2.2.2.2.2.2.2.1
  rcases nwK_c hr with rfl
  refine ⟨by omega, by omega, fun ht => ?_⟩
  rcases ht with ⟨s, hs, h2⟩ | ⟨k, hk, h2⟩ | ⟨k, hk, h2⟩ | ⟨x, hx, h2⟩ | ⟨i, hi, h2⟩ | h2
  all_goals omega
theorem fK_old {A : HA} {t : Nat × Int × Nat × Nat} {k : Nat} (h : k < nK_ A) : fK (upK A t) k = fK A k := if_neg (by omega)
theorem fK_new {A : HA} {t : Nat × Int × Nat × Nat} : fK (upK A t) (nK_ A) = t := if_pos rfl
theorem okA_K {A : HA} {t : Nat × Int × Nat × Nat} (h : okA A) (hs : nK_ A < 12) (ht : (t.1 < nS_ A ∧ t.2.2.1 < nL_ A ∧ t.2.2.2 < nG_ A ∧ (3 ≤ t.2.1 ∧ t.2.1 ≤ 1000000007) ∧ nPr t.2.1.toNat ∧ ∀ j, j < 6 → (cnL j (fS A t.1) : Int) < t.2.1)) : okA (upK A t) := by
  have hn : nK_ (upK A t) ≤ 12 := by show nK_ A + 1 ≤ 12; omega
  have hk : ∀ k, k < nK_ (upK A t) → ((fK (upK A t) k).1 < nS_ A ∧ (fK (upK A t) k).2.2.1 < nL_ A ∧ (fK (upK A t) k).2.2.2 < nG_ A ∧ (3 ≤ (fK (upK A t) k).2.1 ∧ (fK (upK A t) k).2.1 ≤ 1000000007) ∧ nPr (fK (upK A t) k).2.1.toNat ∧ ∀ j, j < 6 → (cnL j (fS A (fK (upK A t) k).1) : Int) < (fK (upK A t) k).2.1) := fun k hk => by
    have hk : k < nK_ A + 1 := hk
    by_cases c : k = nK_ A
    · rw [c, fK_new]; exact ht
    · rw [fK_old (by omega)]; exact h.2.2.2.2.2.2.2.1 k (by omega)
  obtain ⟨h1, h2, h3, h4, h5, h6, h7, h8, h9⟩ := h
  exact ⟨h1, h2, h3, h4, h5, h6, hn, hk, h9⟩
theorem tkA_K {A : HA} {t : Nat × Int × Nat × Nat} {x : Nat} (h : x < nK_ A) : tkA (upK A t) x = tkA A x := by
  have e : fK (upK A t) x = fK A x := fK_old h
  unfold tkA
  rw [e]
  rfl
theorem JSt_K {A : HA} {Z : hZ} {G : hG} {σ τ : hSt} {t : Nat × Int × Nat × Nat} {k n' : Nat} (h : J A Z σ τ) (hX : JX A G Z) : JS (upK A t) (zK2 Z k t n') σ := by
  obtain ⟨a, b, c, d, e, g⟩ := h.2.2.1
  have hmem : ∀ r ∈ Z.1, r < 10000 → r ∈ (zK2 Z k t n').1 := fun r hr hr2 => List.mem_cons_of_mem _ (List.mem_append_right _ ((List.mem_erase_of_ne (by omega)).mpr hr))
  have htk : ∀ x, x < nK_ A → tkA (upK A t) x = tkA A x := fun x hx => tkA_K hx
  refine ⟨a, b, c, caS_up d hX h.1 hmem htk, caS_up e hX h.1 hmem htk, ?_⟩
  have ho := h.2.2.2.2
  unfold JLc at g ⊢
  unfold JLo at ho
  have ea : aL (upK A t) = aL A := rfl
  rw [ea]
  cases e : aL A with
  | none => rw [e] at g; exact g
  | some L =>
    rw [e] at g ho
    dsimp only at g ho ⊢
    refine ⟨g.1, fun x hx q hq => g.2 x hx q ?_⟩
    have es : fS (upK A t) (fK (upK A t) L.1).1 = fS A (fK A L.1).1 := by rw [fK_old ho.1]; rfl
    rw [es] at hq
    exact hq
theorem JZ_K {A : HA} {Z : hZ} {G : hG} {g : Nat → Nat} {t : Nat × Int × Nat × Nat} {n' : Nat} (h : JZ A Z) (hA : okA A) (hX : JX A G Z) (hs : nK_ A < 12) (ht : (t.1 < nS_ A ∧ t.2.2.1 < nL_ A ∧ t.2.2.2 < nG_ A ∧ (3 ≤ t.2.1 ∧ t.2.1 ≤ 1000000007) ∧ nPr t.2.1.toNat ∧ ∀ j, j < 6 → (cnL j (fS A t.1) : Int) < t.2.1)) (h1 : nK_ A < n') (h2 : n' ≤ 40) (hn : nwG A G g (nwK (nK_ A)) 10003) : JZ (upK A t) (zK2 Z (nK_ A) t n') ∧ JX (upK A t) (wG G g) (zK2 Z (nK_ A) t n') := by
  have c11 := hA.1
  have c12 := hA.2.2.1
  have c13 := hA.2.2.2.2.1
  have c14 := hA.2.2.2.2.2.2.1
  have c15 := hA.2.2.2.2.2.2.2.2.1
  have hoff := zK_off Z (nK_ A) t
  have agr : ∀ r, r ∉ nwK (nK_ A) → r ≠ 10003 → r ≠ 41 → ag Z (zK2 Z (nK_ A) t n') r := fun r a b c => ag_T b c (hoff r a).1 (hoff r a).2.1 (hoff r a).2.2
  have agt : ∀ r, told A r → r < 10000 → ag Z (zK2 Z (nK_ A) t n') r := fun r ht hr => agr r (fun q => (nwK_nt hA hs r q).2.2 ht) (by omega) (by
    rcases ht with ⟨s, hs, h2⟩ | ⟨k, hk, h2⟩ | ⟨k, hk, h2⟩ | ⟨x, hx, h2⟩ | ⟨i, hi, h2⟩ | h2
    all_goals omega)
  have hnn : ∀ r, (r < 1000 ∨ 10000 ≤ r) → r ∉ nwK (nK_ A) := fun r hr q => by have := nwK_nt hA hs r q; omega
  have X0 : liX (wG G g) (zK2 Z (nK_ A) t n') 41 10003 8000 (nK_ A + 1) := liX_T (by decide) h1 h2
  have Xo : ∀ lr er b c, liX G Z lr er b c → lr < 1000 → lr ≠ 41 → 10000 ≤ er → er ≠ 10003 → liX (wG G g) (zK2 Z (nK_ A) t n') lr er b c := fun lr er b c hl a1 a2 a3 a4 =>
    liX_e hl (agr lr (hnn _ (Or.inl a1)) (by omega) a2) (agr er (hnn _ (Or.inr a3)) a4 (by omega)) (fun q => e6_m (hnn _ (Or.inr a3)) a4 q) (hn.row a3 a4)
  obtain ⟨x1, x2, x3, x4, x5, x6, x7⟩ := hX
  have X1 := Xo 38 10000 1000 _ x3 (by decide) (by decide) (by decide) (by decide)
  have X2 := Xo 39 10001 4000 _ x4 (by decide) (by decide) (by decide) (by decide)
  have X3 := Xo 40 10002 5000 _ x5 (by decide) (by decide) (by decide) (by decide)
  have X4 := Xo 42 10004 9000 _ x7 (by decide) (by decide) (by decide) (by decide)
  have m0 : ∀ r ∈ nwK (nK_ A), r ∈ (zK2 Z (nK_ A) t n').1 := fun r hr => List.mem_cons_of_mem _ (List.mem_append_left _ hr)
  obtain ⟨⟨y1, y2⟩, ⟨y3, y4⟩, ⟨y5, y6⟩, ⟨y7, y8⟩, y9, y10⟩ := h
  have hnew : ∀ k, k < nK_ A + 1 → taZ (zK2 Z (nK_ A) t n') (8000 + k) (fK (upK A t) k) := fun k hk => by
    by_cases c : k = nK_ A
    · rw [c, fK_new]
      refine ⟨ta_iff.mpr ⟨m0 _ (by simp [nwK]), by omega⟩, ?_, ?_, ?_, ?_⟩
      · show (if 8000 + nK_ A = 41 then _ else if 8000 + nK_ A = 10003 then _ else if 8000 + nK_ A = 8000 + nK_ A then (if 0 = 0 then _ else _) else _) = _
        rw [if_neg (by omega), if_neg (by omega), if_pos rfl, if_pos rfl]
      · show (if 8000 + nK_ A = 41 then _ else if 8000 + nK_ A = 10003 then _ else if 8000 + nK_ A = 8000 + nK_ A then (if 2 = 0 then _ else if 2 = 2 then _ else _) else _) = _
        rw [if_neg (by omega), if_neg (by omega), if_pos rfl, if_neg (by decide), if_pos rfl]
      · show (if 8000 + nK_ A = 41 then _ else if 8000 + nK_ A = 10003 then _ else if 8000 + nK_ A = 8000 + nK_ A then (if 3 = 0 then _ else if 3 = 2 then _ else if 3 = 3 then _ else _) else _) = _
        rw [if_neg (by omega), if_neg (by omega), if_pos rfl, if_neg (by decide), if_neg (by decide), if_pos rfl]
      · show (if 8000 + nK_ A = 41 then _ else if 8000 + nK_ A = 8000 + nK_ A then (if 1 = 1 then _ else _) else _) = _
        rw [if_neg (by omega), if_pos rfl, if_pos rfl]
    · rw [fK_old (by omega)]
      have hk3 : k < nK_ A := by omega
      exact taZ_e (y8 k hk3) (agt _ (Or.inr (Or.inr (Or.inr (Or.inl ⟨k, hk3, rfl⟩)))) (by omega))
  refine ⟨⟨⟨liZ_X X1 (by decide), fun s hs2 => ?_⟩, ⟨liZ_X X2 (by decide), fun k hk => ?_⟩, ⟨liZ_X X3 (by decide), fun k hk => ?_⟩, ⟨liZ_X X0 (by decide), hnew⟩, ⟨liZ_X X4 (by decide), fun k hk => ?_⟩⟩, ⟨fun r hr => ?_, ?_, X1, X2, X3, X0, X4⟩⟩
  · have hs3 : s < nS_ A := hs2
    exact saZ_e (y2 s hs3) (agt _ (Or.inl ⟨s, hs3, by omega⟩) (by omega)) (agt _ (Or.inl ⟨s, hs3, by omega⟩) (by omega)) (agt _ (Or.inl ⟨s, hs3, by omega⟩) (by omega))
  · have hk3 : k < nL_ A := hk
    exact teZ_e (y4 k hk3) (agt _ (Or.inr (Or.inl ⟨k, hk3, by omega⟩)) (by omega)) (agt _ (Or.inr (Or.inl ⟨k, hk3, by omega⟩)) (by omega))
  · have hk3 : k < nG_ A := hk
    exact teZ_e (y6 k hk3) (agt _ (Or.inr (Or.inr (Or.inl ⟨k, hk3, by omega⟩))) (by omega)) (agt _ (Or.inr (Or.inr (Or.inl ⟨k, hk3, by omega⟩))) (by omega))
  · have hk3 : k < nN_ A := hk
    exact neZ_e (y10 k hk3) (agt _ (Or.inr (Or.inr (Or.inr (Or.inr (Or.inl ⟨k, hk3, rfl⟩))))) (by omega))
  · rcases List.mem_cons.mp hr with rfl | hr
    · exact Or.inr (Or.inr (Or.inr (Or.inr (Or.inr (by decide)))))
    · rcases List.mem_append.mp hr with hr | hr
      · exact Or.inr (Or.inr (Or.inr (Or.inl ⟨nK_ A, Nat.lt_succ_self _, nwK_c hr⟩)))
      · rcases x1 r (List.mem_of_mem_erase hr) with h2 | h2 | h2 | ⟨k, hk, h2⟩ | ⟨k, hk, h2⟩ | h2
        · exact Or.inl h2
        · exact Or.inr (Or.inl h2)
        · exact Or.inr (Or.inr (Or.inl h2))
        · exact Or.inr (Or.inr (Or.inr (Or.inl ⟨k, Nat.lt_succ_of_lt hk, h2⟩)))
        · exact Or.inr (Or.inr (Or.inr (Or.inr (Or.inl ⟨k, hk, h2⟩))))
        · exact Or.inr (Or.inr (Or.inr (Or.inr (Or.inr h2))))
  · refine List.nodup_cons.mpr ⟨fun q => ?_, List.nodup_append.mpr ⟨?_, x2.erase _, fun a ha b hb e => ?_⟩⟩
    · rcases List.mem_append.mp q with q | q
      · have := nwK_nt hA hs _ q; omega
      · exact absurd rfl ((List.Nodup.mem_erase_iff x2).mp q).1
    · simp [nwK]
    · subst e
      exact (nwK_nt hA hs a ha).2.2 (x1 a (List.mem_of_mem_erase hb))
theorem JLo_K {A : HA} {t : Nat × Int × Nat × Nat} (h : JLo A) : JLo (upK A t) := by
  unfold JLo at h ⊢
  have ea : aL (upK A t) = aL A := rfl
  rw [ea]
  cases e : aL A with
  | none => trivial
  | some L =>
    rw [e] at h
    dsimp only at h ⊢
    obtain ⟨a1, a2, a3, a4⟩ := h
    have es : fS (upK A t) (fK (upK A t) L.1).1 = fS A (fK A L.1).1 := by rw [fK_old a1]; rfl
    exact ⟨Nat.lt_succ_of_lt a1, a2, by rw [es]; exact a3, a4⟩
/-! a net is told: the class's side -/
def nwN (k : Nat) : List Nat := [9000 + k]
def zNi (Z : hZ) (k : Nat) (t : Nat × Nat) : Nat → Nat → Int32 := fun r j => if r = 9000 + k then (if j = 0 then i32 (t.1 : Int) else if j = 1 then i32 (t.2 : Int) else Z.2.2.1 r j) else Z.2.2.1 r j
def zN2 (Z : hZ) (k : Nat) (t : Nat × Nat) (n' : Nat) : hZ := zT Z (nwN k) Z.2.1 (zNi Z k t) Z.2.2.2 42 10004 9000 k n'
theorem zN_off (Z : hZ) (k : Nat) (t : Nat × Nat) : ∀ r, r ∉ nwN k → Z.2.1 r = Z.2.1 r ∧ zNi Z k t r = Z.2.2.1 r ∧ Z.2.2.2 r = Z.2.2.2 r := by
  intro r hr
  have h1 : r ≠ 9000 + k := by
    simpa only [nwN, List.mem_cons, List.not_mem_nil, or_false] using hr
  refine ⟨rfl, ?_, rfl⟩
  funext j
  unfold zNi
  rw [if_neg h1]
theorem nwN_c {k r : Nat} (h : r ∈ nwN k) : r = 9000 + k := by
  simpa only [nwN, List.mem_cons, List.not_mem_nil, or_false] using h
theorem nwN_nt {A : HA} (hA : okA A) (hs : nN_ A < 12) : ∀ r ∈ nwN (nN_ A), 1000 ≤ r ∧ r < 10000 ∧ ¬ told A r := by
  intro r hr
  have c11 := hA.1
  have c12 := hA.2.2.1
  have c13 := hA.2.2.2.2.1
  have c14 := hA.2.2.2.2.2.2.1
  have c15 := hA.2.2.2.2.2.2.2.2.1
  rcases nwN_c hr with rfl
  refine ⟨by omega, by omega, fun ht => ?_⟩
  rcases ht with ⟨s, hs, h2⟩ | ⟨k, hk, h2⟩ | ⟨k, hk, h2⟩ | ⟨x, hx, h2⟩ | ⟨i, hi, h2⟩ | h2
  all_goals omega
theorem fN_old {A : HA} {t : Nat × Nat} {k : Nat} (h : k < nN_ A) : fN (upN A t) k = fN A k := if_neg (by omega)
theorem fN_new {A : HA} {t : Nat × Nat} : fN (upN A t) (nN_ A) = t := if_pos rfl
theorem okA_N {A : HA} {t : Nat × Nat} (h : okA A) (hs : nN_ A < 12) (ht : (2 ≤ t.1 ∧ t.1 ≤ 6 ∧ t.2 < 32768)) : okA (upN A t) := by
  have hn : nN_ (upN A t) ≤ 12 := by show nN_ A + 1 ≤ 12; omega
  have hk : ∀ k, k < nN_ (upN A t) → (2 ≤ (fN (upN A t) k).1 ∧ (fN (upN A t) k).1 ≤ 6 ∧ (fN (upN A t) k).2 < 32768) := fun k hk => by
    have hk : k < nN_ A + 1 := hk
    by_cases c : k = nN_ A
    · rw [c, fN_new]; exact ht
    · rw [fN_old (by omega)]; exact h.2.2.2.2.2.2.2.2.2.1 k (by omega)
  obtain ⟨h1, h2, h3, h4, h5, h6, h7, h8, h9, h10, h11⟩ := h
  exact ⟨h1, h2, h3, h4, h5, h6, h7, h8, hn, hk, h11⟩
theorem tkA_N {A : HA} {t : Nat × Nat} {x : Nat} (h : x < nK_ A) : tkA (upN A t) x = tkA A x := by
  rfl
  
  
  
theorem JSt_N {A : HA} {Z : hZ} {G : hG} {σ τ : hSt} {t : Nat × Nat} {k n' : Nat} (h : J A Z σ τ) (hX : JX A G Z) : JS (upN A t) (zN2 Z k t n') σ := by
  obtain ⟨a, b, c, d, e, g⟩ := h.2.2.1
  have hmem : ∀ r ∈ Z.1, r < 10000 → r ∈ (zN2 Z k t n').1 := fun r hr hr2 => List.mem_cons_of_mem _ (List.mem_append_right _ ((List.mem_erase_of_ne (by omega)).mpr hr))
  have htk : ∀ x, x < nK_ A → tkA (upN A t) x = tkA A x := fun x hx => tkA_N hx
  refine ⟨a, b, c, caS_up d hX h.1 hmem htk, caS_up e hX h.1 hmem htk, ?_⟩
  exact g
theorem JZ_N {A : HA} {Z : hZ} {G : hG} {g : Nat → Nat} {t : Nat × Nat} {n' : Nat} (h : JZ A Z) (hA : okA A) (hX : JX A G Z) (hs : nN_ A < 12) (ht : (2 ≤ t.1 ∧ t.1 ≤ 6 ∧ t.2 < 32768)) (h1 : nN_ A < n') (h2 : n' ≤ 40) (hn : nwG A G g (nwN (nN_ A)) 10004) : JZ (upN A t) (zN2 Z (nN_ A) t n') ∧ JX (upN A t) (wG G g) (zN2 Z (nN_ A) t n') := by
  have c11 := hA.1
  have c12 := hA.2.2.1
  have c13 := hA.2.2.2.2.1
  have c14 := hA.2.2.2.2.2.2.1
  have c15 := hA.2.2.2.2.2.2.2.2.1
  have hoff := zN_off Z (nN_ A) t
  have agr : ∀ r, r ∉ nwN (nN_ A) → r ≠ 10004 → r ≠ 42 → ag Z (zN2 Z (nN_ A) t n') r := fun r a b c => ag_T b c (hoff r a).1 (hoff r a).2.1 (hoff r a).2.2
  have agt : ∀ r, told A r → r < 10000 → ag Z (zN2 Z (nN_ A) t n') r := fun r ht hr => agr r (fun q => (nwN_nt hA hs r q).2.2 ht) (by omega) (by
    rcases ht with ⟨s, hs, h2⟩ | ⟨k, hk, h2⟩ | ⟨k, hk, h2⟩ | ⟨x, hx, h2⟩ | ⟨i, hi, h2⟩ | h2
    all_goals omega)
  have hnn : ∀ r, (r < 1000 ∨ 10000 ≤ r) → r ∉ nwN (nN_ A) := fun r hr q => by have := nwN_nt hA hs r q; omega
  have X0 : liX (wG G g) (zN2 Z (nN_ A) t n') 42 10004 9000 (nN_ A + 1) := liX_T (by decide) h1 h2
  have Xo : ∀ lr er b c, liX G Z lr er b c → lr < 1000 → lr ≠ 42 → 10000 ≤ er → er ≠ 10004 → liX (wG G g) (zN2 Z (nN_ A) t n') lr er b c := fun lr er b c hl a1 a2 a3 a4 =>
    liX_e hl (agr lr (hnn _ (Or.inl a1)) (by omega) a2) (agr er (hnn _ (Or.inr a3)) a4 (by omega)) (fun q => e6_m (hnn _ (Or.inr a3)) a4 q) (hn.row a3 a4)
  obtain ⟨x1, x2, x3, x4, x5, x6, x7⟩ := hX
  have X1 := Xo 38 10000 1000 _ x3 (by decide) (by decide) (by decide) (by decide)
  have X2 := Xo 39 10001 4000 _ x4 (by decide) (by decide) (by decide) (by decide)
  have X3 := Xo 40 10002 5000 _ x5 (by decide) (by decide) (by decide) (by decide)
  have X4 := Xo 41 10003 8000 _ x6 (by decide) (by decide) (by decide) (by decide)
  have m0 : ∀ r ∈ nwN (nN_ A), r ∈ (zN2 Z (nN_ A) t n').1 := fun r hr => List.mem_cons_of_mem _ (List.mem_append_left _ hr)
  obtain ⟨⟨y1, y2⟩, ⟨y3, y4⟩, ⟨y5, y6⟩, ⟨y7, y8⟩, y9, y10⟩ := h
  have hnew : ∀ k, k < nN_ A + 1 → neZ (zN2 Z (nN_ A) t n') (9000 + k) (fN (upN A t) k) := fun k hk => by
    by_cases c : k = nN_ A
    · rw [c, fN_new]
      refine ⟨ne_iff.mpr ⟨m0 _ (by simp [nwN]), by omega⟩, ht.1, ht.2.1, ht.2.2, ?_, ?_⟩
      · show (if 9000 + nN_ A = 42 then _ else if 9000 + nN_ A = 9000 + nN_ A then (if 0 = 0 then _ else _) else _) = _
        rw [if_neg (by omega), if_pos rfl, if_pos rfl]
      · show (if 9000 + nN_ A = 42 then _ else if 9000 + nN_ A = 9000 + nN_ A then (if 1 = 0 then _ else if 1 = 1 then _ else _) else _) = _
        rw [if_neg (by omega), if_pos rfl, if_neg (by decide), if_pos rfl]
    · rw [fN_old (by omega)]
      have hk3 : k < nN_ A := by omega
      exact neZ_e (y10 k hk3) (agt _ (Or.inr (Or.inr (Or.inr (Or.inr (Or.inl ⟨k, hk3, rfl⟩))))) (by omega))
  refine ⟨⟨⟨liZ_X X1 (by decide), fun s hs2 => ?_⟩, ⟨liZ_X X2 (by decide), fun k hk => ?_⟩, ⟨liZ_X X3 (by decide), fun k hk => ?_⟩, ⟨liZ_X X4 (by decide), fun k hk => ?_⟩, ⟨liZ_X X0 (by decide), hnew⟩⟩, ⟨fun r hr => ?_, ?_, X1, X2, X3, X4, X0⟩⟩
  · have hs3 : s < nS_ A := hs2
    exact saZ_e (y2 s hs3) (agt _ (Or.inl ⟨s, hs3, by omega⟩) (by omega)) (agt _ (Or.inl ⟨s, hs3, by omega⟩) (by omega)) (agt _ (Or.inl ⟨s, hs3, by omega⟩) (by omega))
  · have hk3 : k < nL_ A := hk
    exact teZ_e (y4 k hk3) (agt _ (Or.inr (Or.inl ⟨k, hk3, by omega⟩)) (by omega)) (agt _ (Or.inr (Or.inl ⟨k, hk3, by omega⟩)) (by omega))
  · have hk3 : k < nG_ A := hk
    exact teZ_e (y6 k hk3) (agt _ (Or.inr (Or.inr (Or.inl ⟨k, hk3, by omega⟩))) (by omega)) (agt _ (Or.inr (Or.inr (Or.inl ⟨k, hk3, by omega⟩))) (by omega))
  · have hk3 : k < nK_ A := hk
    exact taZ_e (y8 k hk3) (agt _ (Or.inr (Or.inr (Or.inr (Or.inl ⟨k, hk3, rfl⟩)))) (by omega))
  · rcases List.mem_cons.mp hr with rfl | hr
    · exact Or.inr (Or.inr (Or.inr (Or.inr (Or.inr (by decide)))))
    · rcases List.mem_append.mp hr with hr | hr
      · exact Or.inr (Or.inr (Or.inr (Or.inr (Or.inl ⟨nN_ A, Nat.lt_succ_self _, nwN_c hr⟩))))
      · rcases x1 r (List.mem_of_mem_erase hr) with h2 | h2 | h2 | ⟨k, hk, h2⟩ | ⟨k, hk, h2⟩ | h2
        · exact Or.inl h2
        · exact Or.inr (Or.inl h2)
        · exact Or.inr (Or.inr (Or.inl h2))
        · exact Or.inr (Or.inr (Or.inr (Or.inl ⟨k, hk, h2⟩)))
        · exact Or.inr (Or.inr (Or.inr (Or.inr (Or.inl ⟨k, Nat.lt_succ_of_lt hk, h2⟩))))
        · exact Or.inr (Or.inr (Or.inr (Or.inr (Or.inr h2))))
  · refine List.nodup_cons.mpr ⟨fun q => ?_, List.nodup_append.mpr ⟨?_, x2.erase _, fun a ha b hb e => ?_⟩⟩
    · rcases List.mem_append.mp q with q | q
      · have := nwN_nt hA hs _ q; omega
      · exact absurd rfl ((List.Nodup.mem_erase_iff x2).mp q).1
    · simp [nwN]
    · subst e
      exact (nwN_nt hA hs a ha).2.2 (x1 a (List.mem_of_mem_erase hb))
