/-! what is told anew: the hall's things (class) -/
def ag (Z Z' : hZ) (r : Nat) : Prop := (r ∈ Z.1 → r ∈ Z'.1) ∧ Z'.2.1 r = Z.2.1 r ∧ Z'.2.2.1 r = Z.2.2.1 r ∧ Z'.2.2.2 r = Z.2.2.2 r
theorem sa_iff {Z : hZ} {r : Nat} : isSa Z r = true ↔ r ∈ Z.1 ∧ r / 1000 = 1 ∧ r + 1000 ∈ Z.1 ∧ r + 2000 ∈ Z.1 := by
  simp only [isSa, Bool.and_eq_true, decide_eq_true_eq, beq_iff_eq, and_assoc]
theorem te_iff {Z : hZ} {r : Nat} : isTe Z r = true ↔ r ∈ Z.1 ∧ (r / 1000 = 4 ∨ r / 1000 = 5) ∧ r + 2000 ∈ Z.1 := by
  simp only [isTe, Bool.and_eq_true, Bool.or_eq_true, decide_eq_true_eq, beq_iff_eq, and_assoc]
theorem ta_iff {Z : hZ} {r : Nat} : isTa Z r = true ↔ r ∈ Z.1 ∧ r / 1000 = 8 := by
  simp only [isTa, Bool.and_eq_true, decide_eq_true_eq, beq_iff_eq]
theorem ne_iff {Z : hZ} {r : Nat} : isNe Z r = true ↔ r ∈ Z.1 ∧ r / 1000 = 9 := by
  simp only [isNe, Bool.and_eq_true, decide_eq_true_eq, beq_iff_eq]
theorem el_iff {Z : hZ} {r : Nat} : isEl Z r = true ↔ r ∈ Z.1 ∧ r / 1000 = 10 := by
  simp only [isEl, Bool.and_eq_true, decide_eq_true_eq, beq_iff_eq]
theorem saZ_e {Z Z' : hZ} {r : Nat} {C : List Int} (h : saZ Z r C) (e0 : ag Z Z' r) (e1 : ag Z Z' (r + 1000)) (e2 : ag Z Z' (r + 2000)) : saZ Z' r C := by
  obtain ⟨h1, ⟨h2, h3⟩, h4, h5, h6, h7, h8⟩ := h
  have h1 := sa_iff.mp h1
  refine ⟨sa_iff.mpr ⟨e0.1 h1.1, h1.2.1, e1.1 h1.2.2.1, e2.1 h1.2.2.2⟩, ⟨by rw [e1.2.1]; exact h2, fun j hj => by rw [e1.2.2.1]; exact h3 j hj⟩, by rw [e0.2.2.1]; exact h4, by rw [e0.2.2.1]; exact h5, by rw [e0.2.2.1]; exact h6, by rw [e2.2.1]; exact h7, fun j hj => by rw [e2.2.2.1]; exact h8 j hj⟩
theorem teZ_e {Z Z' : hZ} {r g : Nat} {t : TXT} (h : teZ Z r g t) (e0 : ag Z Z' r) (e1 : ag Z Z' (r + 2000)) : teZ Z' r g t := by
  obtain ⟨h1, h2, h3⟩ := h
  have h1 := te_iff.mp h1
  exact ⟨te_iff.mpr ⟨e0.1 h1.1, h1.2.1, e1.1 h1.2.2⟩, by rw [e1.2.1]; exact h2, fun j hj => by rw [e1.2.2.1]; exact h3 j hj⟩
theorem taZ_e {Z Z' : hZ} {r : Nat} {t : Nat × Int × Nat × Nat} (h : taZ Z r t) (e0 : ag Z Z' r) : taZ Z' r t := by
  obtain ⟨h1, h2, h3, h4, h5⟩ := h
  have h1 := ta_iff.mp h1
  exact ⟨ta_iff.mpr ⟨e0.1 h1.1, h1.2⟩, by rw [e0.2.2.2]; exact h2, by rw [e0.2.2.2]; exact h3, by rw [e0.2.2.2]; exact h4, by rw [e0.2.2.1]; exact h5⟩
theorem neZ_e {Z Z' : hZ} {r : Nat} {t : Nat × Nat} (h : neZ Z r t) (e0 : ag Z Z' r) : neZ Z' r t := by
  obtain ⟨h1, h2, h3, h4, h5, h6⟩ := h
  have h1 := ne_iff.mp h1
  exact ⟨ne_iff.mpr ⟨e0.1 h1.1, h1.2⟩, h2, h3, h4, by rw [e0.2.2.1]; exact h5, by rw [e0.2.2.1]; exact h6⟩
/-- what may stand: the things told, and the lists' rows -/
def told (A : HA) (r : Nat) : Prop := (∃ s, s < nS_ A ∧ (r = 1000 + s ∨ r = 2000 + s ∨ r = 3000 + s)) ∨ (∃ k, k < nL_ A ∧ (r = 4000 + k ∨ r = 6000 + k)) ∨ (∃ k, k < nG_ A ∧ (r = 5000 + k ∨ r = 7000 + k)) ∨ (∃ x, x < nK_ A ∧ r = 8000 + x) ∨ (∃ i, i < nN_ A ∧ r = 9000 + i) ∨ (10000 ≤ r ∧ r ≤ 10004)
/-- the hall's things and lists, exactly -/
def JX (A : HA) (G : hG) (Z : hZ) : Prop := (∀ r ∈ Z.1, told A r) ∧ Z.1.Nodup ∧ liX G Z 38 10000 1000 (nS_ A) ∧ liX G Z 39 10001 4000 (nL_ A) ∧ liX G Z 40 10002 5000 (nG_ A) ∧ liX G Z 41 10003 8000 (nK_ A) ∧ liX G Z 42 10004 9000 (nN_ A)
theorem liZ_X {G : hG} {Z : hZ} {lr er b n : Nat} (h : liX G Z lr er b n) (he : er / 1000 = 10) : liZ Z lr n b := by
  refine ⟨h.1, fun hn => ⟨er, h.2.1, ?_⟩⟩
  rcases h.2.2 with ⟨rfl, -, -⟩ | ⟨h1, h2, h3, h4, h5⟩
  · omega
  · exact ⟨el_iff.mpr ⟨h2, he⟩, h3, by omega, fun i hi => by rw [h5 i, if_pos hi]⟩
/-- a list that isn't spoken of stands -/
theorem liX_e {G : hG} {g : Nat → Nat} {Z Z' : hZ} {lr er b n : Nat} (h : liX G Z lr er b n) (e0 : ag Z Z' lr) (e1 : ag Z Z' er) (e2 : er ∈ Z'.1 → er ∈ Z.1) (hg : g er = G.2.1 er) : liX (wG G g) Z' lr er b n := by
  refine ⟨by rw [e0.2.2.1]; exact h.1, by rw [e0.2.2.2]; exact h.2.1, ?_⟩
  rcases h.2.2 with ⟨h1, h2, h3⟩ | ⟨h1, h2, h3, h4, h5⟩
  · exact Or.inl ⟨h1, fun q => h2 (e2 q), by show g er = _; rw [hg]; exact h3⟩
  · exact Or.inr ⟨h1, e1.1 h2, by rw [e1.2.1]; exact h3, by rw [e1.2.1]; exact h4, fun i => by rw [e1.2.2.2]; exact h5 i⟩
/-- a thing more: in front of the things stand the row and the new ones -/
def zT (Z : hZ) (news : List Nat) (ln : Nat → Nat) (ii : Nat → Nat → Int32) (rr : Nat → Nat → Option Nat) (lr er base c n' : Nat) : hZ :=
  (er :: (news ++ Z.1.erase er), fun r => if r = er then n' else ln r, fun r j => if r = lr then (if j = 0 then Z.2.2.1 lr 0 + 1 else if j = 2 then i32 ((c + 1 : Nat) : Int) else Z.2.2.1 lr j) else ii r j, fun r j => if r = lr then (if j = 1 then some er else Z.2.2.2 lr j) else if r = er then (if j < c + 1 then some (base + j) else none) else rr r j)
theorem liX_T {G : hG} {g : Nat → Nat} {Z : hZ} {news : List Nat} {ln : Nat → Nat} {ii : Nat → Nat → Int32} {rr : Nat → Nat → Option Nat} {lr er base c n' : Nat} (hle : lr ≠ er) (h1 : c < n') (h2 : n' ≤ 40) : liX (wG G g) (zT Z news ln ii rr lr er base c n') lr er base (c + 1) := by
  refine ⟨?_, ?_, Or.inr ⟨by omega, List.mem_cons_self, ?_, ?_, fun i => ?_⟩⟩
  · show (if lr = lr then (if 2 = 0 then _ else if 2 = 2 then i32 ((c + 1 : Nat) : Int) else _) else _) = _
    rw [if_pos rfl, if_neg (by decide), if_pos rfl]
  · show (if lr = lr then (if 1 = 1 then some er else _) else _) = _
    rw [if_pos rfl, if_pos rfl]
  · show c + 1 ≤ if er = er then n' else _
    rw [if_pos rfl]; omega
  · show (if er = er then n' else _) ≤ 40
    rw [if_pos rfl]; exact h2
  · show (if er = lr then _ else if er = er then (if i < c + 1 then some (base + i) else none) else _) = _
    rw [if_neg (fun q => hle q.symm), if_pos rfl]
/-- what isn't the row, the list or new agrees -/
theorem ag_T {Z : hZ} {news : List Nat} {ln : Nat → Nat} {ii : Nat → Nat → Int32} {rr : Nat → Nat → Option Nat} {lr er base c n' r : Nat} (h1 : r ≠ er) (h2 : r ≠ lr) (h3 : ln r = Z.2.1 r) (h4 : ii r = Z.2.2.1 r) (h5 : rr r = Z.2.2.2 r) : ag Z (zT Z news ln ii rr lr er base c n') r := by
  refine ⟨fun h => List.mem_cons_of_mem _ (List.mem_append_right _ ((List.mem_erase_of_ne h1).mpr h)), ?_, ?_, ?_⟩
  · show (if r = er then n' else ln r) = _
    rw [if_neg h1, h3]
  · funext j
    show (if r = lr then _ else ii r j) = _
    rw [if_neg h2, h4]
  · funext j
    show (if r = lr then _ else if r = er then _ else rr r j) = _
    rw [if_neg h2, if_neg h1, h5]
theorem e6_m {Z : hZ} {news : List Nat} {ln : Nat → Nat} {ii : Nat → Nat → Int32} {rr : Nat → Nat → Option Nat} {lr er base c n' r : Nat} (hn : r ∉ news) (h1 : r ≠ er) (h : r ∈ (zT Z news ln ii rr lr er base c n').1) : r ∈ Z.1 := by
  rcases List.mem_cons.mp h with h | h
  · exact absurd h h1
  · rcases List.mem_append.mp h with h | h
    · exact absurd h hn
    · exact List.mem_of_mem_erase h
