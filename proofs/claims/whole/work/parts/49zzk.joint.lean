/-! both sides together -/
theorem cn_half {C : List Int} {k : Nat} (hk : k < 6) (hw : wf (cf C) C.length) : ∀ j, j ≤ C.length → 2 * cnL k (C.take j) ≤ j + hg (cf C) j := by
  intro j
  induction j with
  | zero => intro _; simp [cnL]
  | succ j ih =>
    intro hj
    have h1 := ih (by omega)
    have h2 := hw.2.1 j (by omega)
    have e : C.take (j + 1) = C.take j ++ [cf C j] := by
      rw [List.take_succ_eq_append_getElem (by omega)]
      congr 2
      unfold cf
      rw [List.getD_eq_getElem?_getD, List.getElem?_eq_getElem (by omega)]
      rfl
    rw [e, cnL_s, hg]
    by_cases c1 : cf C j < 6
    · rw [if_pos c1]
      by_cases c2 : cf C j = (k : Int)
      · rw [if_pos c2]; omega
      · rw [if_neg c2]; omega
    · rw [if_neg c1, if_neg (show ¬ cf C j = (k : Int) by omega)]
      by_cases c3 : cf C j = 6
      · rw [if_pos c3]; omega
      · rw [if_neg c3]
        have := h2.2.2.2 (by omega)
        omega
theorem cn_100 {C : List Int} {k : Nat} (hk : k < 6) (hw : wf (cf C) C.length) : cnL k C ≤ 100 := by
  have h := cn_half hk hw C.length (Nat.le_refl _)
  rw [List.take_length, hw.2.2.2] at h
  have := hw.1
  omega
abbrev TXT : Type := (Nat → Nat) × Nat
abbrev LT : Type := Nat × Int × Int × Nat × Int × Nat × (Nat → Nat → Int) × (Nat → Int)
/-- tape; sayings; laws; giants; talks; nets; point; latest -/
abbrev HA : Type := TXT × (Nat × (Nat → List Int)) × (Nat × (Nat → TXT)) × (Nat × (Nat → TXT)) × (Nat × (Nat → Nat × Int × Nat × Nat)) × (Nat × (Nat → Nat × Nat)) × (Nat × (Nat → Int)) × Option LT
def aT (A : HA) : TXT := A.1
def nS_ (A : HA) : Nat := A.2.1.1
def fS (A : HA) : Nat → List Int := A.2.1.2
def nL_ (A : HA) : Nat := A.2.2.1.1
def fL (A : HA) : Nat → TXT := A.2.2.1.2
def nG_ (A : HA) : Nat := A.2.2.2.1.1
def fG (A : HA) : Nat → TXT := A.2.2.2.1.2
def nK_ (A : HA) : Nat := A.2.2.2.2.1.1
def fK (A : HA) : Nat → Nat × Int × Nat × Nat := A.2.2.2.2.1.2
def nN_ (A : HA) : Nat := A.2.2.2.2.2.1.1
def fN (A : HA) : Nat → Nat × Nat := A.2.2.2.2.2.1.2
def nP_ (A : HA) : Nat := A.2.2.2.2.2.2.1.1
def fP (A : HA) : Nat → Int := A.2.2.2.2.2.2.1.2
def aL (A : HA) : Option LT := A.2.2.2.2.2.2.2
def coL (C : List Int) : Int := sumF 1000000007 (cf C) C.length (nmL C) 0 (fun _ => 0)
/-- what is told holds -/
def okC (C : List Int) : Prop := C.length ≤ 200 ∧ wf (cf C) C.length
def okX (g : Nat) (t : TXT) : Prop := t.2 ≤ 200 ∧ (∀ j, j < t.2 → 1 ≤ t.1 j ∧ t.1 j ≤ 255) ∧ txF t.1 t.2 g = none
def okA (A : HA) : Prop := nS_ A ≤ 20 ∧ (∀ s, s < nS_ A → okC (fS A s)) ∧ nL_ A ≤ 12 ∧ (∀ k, k < nL_ A → okX 0 (fL A k)) ∧ nG_ A ≤ 12 ∧ (∀ k, k < nG_ A → okX 1 (fG A k)) ∧ nK_ A ≤ 12 ∧ (∀ x, x < nK_ A → (fK A x).1 < nS_ A ∧ (fK A x).2.2.1 < nL_ A ∧ (fK A x).2.2.2 < nG_ A ∧ (3 ≤ (fK A x).2.1 ∧ (fK A x).2.1 ≤ 1000000007) ∧ nPr (fK A x).2.1.toNat ∧ ∀ j, j < 6 → (cnL j (fS A (fK A x).1) : Int) < (fK A x).2.1) ∧ nN_ A ≤ 12 ∧ (∀ i, i < nN_ A → 2 ≤ (fN A i).1 ∧ (fN A i).1 ≤ 6 ∧ (fN A i).2 < 32768) ∧ nP_ A ≤ 6 ∧ (∀ j, j < nP_ A → 0 ≤ fP A j ∧ fP A j ≤ 2147483647)
/-- the TALK x -/
def tkA (A : HA) (x : Nat) : TK := (nmL (fS A (fK A x).1), (fK A x).2.1, fun j => (cnL j (fS A (fK A x).1) : Int), cf (fS A (fK A x).1), (fS A (fK A x).1).length, coL (fS A (fK A x).1), tZc (fL A (fK A x).2.2.1).1 (fL A (fK A x).2.2.1).2 0, tZc (fG A (fK A x).2.2.2).1 (fG A (fK A x).2.2.2).2 1)
def tfA (A : HA) : Nat → TK := fun r => tkA A (r - 8000)
theorem coL_rg {C : List Int} (h : okC C) : 0 ≤ coL C ∧ coL C ≤ 64 := by
  have hn := (nmB_of h.2).1
  have h1 : coL C = sB (fun b => Wv 1000000007 (ptC (fun _ => 0) 0 (nmL C) b) (cf C) C.length) (2 ^ nmL C) % 1000000007 := sumF_B (by decide) h.2 _ _ _ (fun i _ => ⟨Int.le_refl _, by decide⟩)
  have h2 : ∀ m, 0 ≤ sB (fun b => Wv 1000000007 (ptC (fun _ => 0) 0 (nmL C) b) (cf C) C.length) m ∧ sB (fun b => Wv 1000000007 (ptC (fun _ => 0) 0 (nmL C) b) (cf C) C.length) m ≤ m := by
    intro m
    induction m with
    | zero => exact ⟨Int.le_refl _, Int.le_refl _⟩
    | succ m ih =>
      have h3 := Wv_01 (p := 1000000007) (pt := ptC (fun _ => 0) 0 (nmL C) m) (by decide) h.2 (ptC_in (by decide) (fun i _ => ⟨Int.le_refl _, by decide⟩))
      rw [sB]
      rcases h3 with e | e <;> rw [e] <;> omega
  have h3 := h2 (2 ^ nmL C)
  have h4 := pow_le6 hn
  rw [h1, Int.emod_eq_of_lt (by omega) (by omega)]
  omega
theorem tkA_ok {A : HA} {x : Nat} (h : okA A) (hx : x < nK_ A) : okT (tkA A x) := by
  obtain ⟨a1, a2, a3, a4, a5, a6, a7, a8, a9, a10, a11, a12⟩ := h
  obtain ⟨b1, b2, b3, b4, b5, b6⟩ := a8 x hx
  have c1 := a2 _ b1
  have c2 := a4 _ b2
  have c3 := a6 _ b3
  have c4 := nmB_of c1.2
  have c5 := coL_rg c1
  have t1 := tZ_flat (g := 0) (by omega) c2.1 c2.2.1 c2.2.2
  have t2 := tZ_flat (g := 1) (by omega) c3.1 c3.2.1 c3.2.2
  refine ⟨c4.1, b5, b4, c1.2, c4, fun j hj => ⟨by show (0 : Int) ≤ (cnL j _ : Int); omega, ?_, b6 j hj⟩, c5, rfl, ⟨t1.2.1, ?_⟩, t2.2.1, ?_⟩
  · have := cn_100 hj c1.2
    show (cnL j _ : Int) ≤ 100
    omega
  · have := t1.2.2.1
    show (flat (tZc _ _ 0)).length ≤ 800
    omega
  · have := t2.2.2.1
    show (flat (tZc _ _ 1)).length ≤ 800
    omega
/-- what the class has made -/
def liZ (Z : hZ) (r n b : Nat) : Prop := Z.2.2.1 r 2 = i32 (n : Int) ∧ (0 < n → ∃ e, Z.2.2.2 r 1 = some e ∧ isEl Z e = true ∧ n ≤ Z.2.1 e ∧ Z.2.1 e ≤ 1000 ∧ ∀ i, i < n → Z.2.2.2 e i = some (b + i))
def saZ (Z : hZ) (r : Nat) (C : List Int) : Prop := isSa Z r = true ∧ sgn Z r (cf C) C.length ∧ Z.2.2.1 r 2 = i32 (nmL C : Int) ∧ Z.2.2.1 r 3 = i32 (wkL C : Int) ∧ Z.2.2.1 r 4 = i32 (coL C) ∧ Z.2.1 (r + 2000) = 6 ∧ ∀ j, j < 6 → Z.2.2.1 (r + 2000) j = i32 (cnL j C : Int)
def teZ (Z : hZ) (r g : Nat) (t : TXT) : Prop := isTe Z r = true ∧ cdZ Z (r + 2000) (flat (tZc t.1 t.2 g))
def taZ (Z : hZ) (r : Nat) (t : Nat × Int × Nat × Nat) : Prop := isTa Z r = true ∧ Z.2.2.2 r 0 = some (1000 + t.1) ∧ Z.2.2.2 r 2 = some (4000 + t.2.2.1) ∧ Z.2.2.2 r 3 = some (5000 + t.2.2.2) ∧ Z.2.2.1 r 1 = i32 t.2.1
def neZ (Z : hZ) (r : Nat) (t : Nat × Nat) : Prop := isNe Z r = true ∧ netH Z r t.1 t.2
def JZ (A : HA) (Z : hZ) : Prop := (liZ Z 38 (nS_ A) 1000 ∧ ∀ s, s < nS_ A → saZ Z (1000 + s) (fS A s)) ∧ (liZ Z 39 (nL_ A) 4000 ∧ ∀ k, k < nL_ A → teZ Z (4000 + k) 0 (fL A k)) ∧ (liZ Z 40 (nG_ A) 5000 ∧ ∀ k, k < nG_ A → teZ Z (5000 + k) 1 (fG A k)) ∧ (liZ Z 41 (nK_ A) 8000 ∧ ∀ x, x < nK_ A → taZ Z (8000 + x) (fK A x)) ∧ (liZ Z 42 (nN_ A) 9000 ∧ ∀ i, i < nN_ A → neZ Z (9000 + i) (fN A i))
theorem tkZ_of {A : HA} {Z : hZ} {x : Nat} (h : okA A) (hz : JZ A Z) (hx : x < nK_ A) : tkZ Z (8000 + x) (1000 + (fK A x).1) (4000 + (fK A x).2.2.1) (5000 + (fK A x).2.2.2) (tfA A (8000 + x)) := by
  obtain ⟨b1, b2, b3, b4, b5, b6⟩ := h.2.2.2.2.2.2.2.1 x hx
  obtain ⟨⟨-, z1⟩, ⟨-, z2⟩, ⟨-, z3⟩, ⟨-, z4⟩, -⟩ := hz
  obtain ⟨s1, s2, s3, s4, s5, s6, s7⟩ := z1 _ b1
  obtain ⟨l1, l2⟩ := z2 _ b2
  obtain ⟨g1, g2⟩ := z3 _ b3
  obtain ⟨t1, t2, t3, t4, t5⟩ := z4 x hx
  have e : tfA A (8000 + x) = tkA A x := by unfold tfA; rw [Nat.add_sub_cancel_left]
  rw [e]
  exact ⟨t2, s1, t3, l1, t4, g1, t1, t5, s2, s3, s5, s6, s7, l2, g2⟩
/-- the class's cells -/
def lC (L : LT) (σ : hSt) : Prop := σ.2.2 14 8 = some (8000 + L.1) ∧ σ.2.1 14 9 = i64 L.2.1 ∧ σ.1 14 11 = i32 L.2.2.1 ∧ σ.1 14 12 = i32 (L.2.2.2.1 : Int) ∧ σ.2.1 14 10 = i64 L.2.2.2.2.1 ∧ σ.1 14 13 = i32 (L.2.2.2.2.2.1 : Int) ∧ (∀ q, q < L.2.2.2.1 → σ.2.1 18 q = i64 (L.2.2.2.2.2.2.2 q))
def lV (A : HA) (L : LT) (f : Nat → Nat → Int64) : Prop := ∀ x, x < L.2.2.2.2.2.1 → ∀ q : Nat, q ≤ cnL x (fS A (fK A L.1).1) → f x q = i64 (L.2.2.2.2.2.2.1 x q)
def okL (A : HA) (L : LT) : Prop := L.1 < nK_ A ∧ L.2.2.2.1 ≤ 6 ∧ L.2.2.2.2.2.1 ≤ nmL (fS A (fK A L.1).1) ∧ (∀ q, q < L.2.2.2.1 → 0 ≤ L.2.2.2.2.2.2.2 q ∧ L.2.2.2.2.2.2.2 q ≤ 1000000007)
def lM (L : LT) (τ : hSt) : Prop := τ.1 200 39 = 1 ∧ τ.1 200 48 = i32 (L.1 : Int) ∧ τ.2.1 200 52 = i64 L.2.1 ∧ τ.1 200 49 = i32 L.2.2.1 ∧ τ.1 200 50 = i32 (L.2.2.2.1 : Int) ∧ τ.2.1 200 53 = i64 L.2.2.2.2.1 ∧ τ.1 200 51 = i32 (L.2.2.2.2.2.1 : Int) ∧ (∀ q, q < L.2.2.2.1 → τ.2.1 221 q = i64 (L.2.2.2.2.2.2.2 q))
def JLc (A : HA) (σ : hSt) : Prop := match aL A with
  | none => σ.2.2 14 8 = none ∧ σ.1 14 12 = i32 0
  | some L => lC L σ ∧ lV A L (fun x q => σ.2.1 (24 + x) q)
def JLm (A : HA) (τ : hSt) : Prop := match aL A with
  | none => τ.1 200 39 = 0
  | some L => lM L τ ∧ lV A L (fun x q => τ.2.1 220 (201 * x + q))
def JLo (A : HA) : Prop := match aL A with
  | none => True
  | some L => okL A L
def z13 (σ : hSt) : Prop := ∀ j, j < 10 → j ≠ 4 → j ≠ 6 → j ≠ 7 → j ≠ 9 → σ.2.1 13 j = 0
def JP (A : HA) (σ : hSt) : Prop := σ.1 0 15 = i32 (nP_ A : Int) ∧ ∀ j, j < nP_ A → σ.1 43 j = i32 (fP A j)
def JS (A : HA) (Z : hZ) (σ : hSt) : Prop := tpH (aT A).1 (aT A).2 σ ∧ JP A σ ∧ z13 σ ∧ caS Z (tfA A) 14 σ ∧ caS Z (tfA A) 15 σ ∧ JLc A σ
def JM (A : HA) (τ : hSt) : Prop := tpM (aT A).1 (aT A).2 τ ∧ (τ.1 200 15 = i32 (nS_ A : Int) ∧ ∀ s, s < nS_ A → sgM τ s (fS A s)) ∧ (τ.1 200 25 = i32 (nL_ A : Int) ∧ ∀ k, k < nL_ A → kpM (fL A k).1 (fL A k).2 k τ) ∧ (τ.1 200 26 = i32 (nG_ A : Int) ∧ ∀ k, k < nG_ A → kpM (fG A k).1 (fG A k).2 (12 + k) τ) ∧ (τ.1 200 36 = i32 (nK_ A : Int) ∧ ∀ x, x < nK_ A → τ.1 214 x = i32 ((fK A x).1 : Int) ∧ τ.1 215 x = i32 (fK A x).2.1 ∧ τ.1 216 x = i32 ((fK A x).2.2.1 : Int) ∧ τ.1 217 x = i32 ((fK A x).2.2.2 : Int)) ∧ (τ.1 200 58 = i32 (nN_ A : Int) ∧ ∀ i, i < nN_ A → τ.1 222 i = i32 ((fN A i).1 : Int) ∧ τ.1 223 i = i32 ((fN A i).2 : Int)) ∧ (τ.1 200 20 = i32 (nP_ A : Int) ∧ ∀ j, j < nP_ A → τ.1 209 j = i32 (fP A j)) ∧ bdR τ ∧ JLm A τ
def J (A : HA) (Z : hZ) (σ τ : hSt) : Prop := okA A ∧ JZ A Z ∧ JS A Z σ ∧ JM A τ ∧ JLo A
/-- what calls that tell nothing may change, model -/
def WF_ : List Nat := [207, 208, 210, 213, 218, 219, 224, 225, 30000, 30002, 30004, 30005, 30006, 30007, 30008, 30009, 30016, 30027, 30028, 30029, 30030, 30031, 30041, 30042, 30043, 30044, 30045]
theorem tpM_W {W : List Nat} {B : Nat → Nat} {n : Nat} {τ υ : hSt} (h : tpM B n τ) (f : fr W τ υ) (n1 : 201 ∉ W) (n2 : 30003 ∉ W) : tpM B n υ := by
  obtain ⟨a, b, c⟩ := h
  exact ⟨a, by rw [f.1 200 3 n2]; exact b, fun j hj => by rw [fr_I f 201 rfl n1]; exact c j hj⟩
theorem tpH_W {W : List Nat} {B : Nat → Nat} {n : Nat} {τ υ : hSt} (h : tpH B n τ) (f : fr W τ υ) (n1 : 2 ∉ W) (n2 : 10102 ∉ W) : tpH B n υ := by
  obtain ⟨a, b, c⟩ := h
  exact ⟨a, by rw [f.1 1 2 n2]; exact b, fun j hj => by rw [fr_I f 2 rfl n1]; exact c j hj⟩
theorem sgM_W {W : List Nat} {R : Nat} {C : List Int} {τ υ : hSt} (h : sgM τ R C) (f : fr W τ υ) (n2 : 202 ∉ W) (n3 : 203 ∉ W) (n4 : 204 ∉ W) (n5 : 205 ∉ W) (n6 : 206 ∉ W) : sgM υ R C := by
  obtain ⟨a, b, c, d, e, g, i⟩ := h
  exact ⟨a, b, by rw [fr_I f 203 rfl n3]; exact c, fun i hi => by rw [fr_I f 202 rfl n2]; exact d i hi, by rw [fr_I f 204 rfl n4]; exact e, fun k hk => by rw [fr_I f 205 rfl n5]; exact g k hk, by rw [fr_I f 206 rfl n6]; exact i⟩
theorem kpM_W {W : List Nat} {B : Nat → Nat} {n k : Nat} {τ υ : hSt} (h : kpM B n k τ) (f : fr W τ υ) (n1 : 211 ∉ W) (n2 : 212 ∉ W) : kpM B n k υ := by
  obtain ⟨a, b, c, d⟩ := h
  exact ⟨a, b, by rw [fr_I f 212 rfl n2]; exact c, fun j hj => ⟨by rw [fr_I f 211 rfl n1]; exact (d j hj).1, (d j hj).2⟩⟩
theorem lM_W {W : List Nat} {L : LT} {τ υ : hSt} (h : lM L τ) (f : fr W τ υ) (n1 : 30039 ∉ W) (n2 : 30048 ∉ W) (n3 : 30049 ∉ W) (n4 : 30050 ∉ W) (n5 : 30051 ∉ W) (n6 : 30052 ∉ W) (n7 : 30053 ∉ W) (n8 : 221 ∉ W) : lM L υ := by
  obtain ⟨a, b, c, d, e, g, i, j⟩ := h
  refine ⟨by rw [f.1 200 39 n1]; exact a, by rw [f.1 200 48 n2]; exact b, by rw [f.2.1 200 52 n6]; exact c, by rw [f.1 200 49 n3]; exact d, by rw [f.1 200 50 n4]; exact e, by rw [f.2.1 200 53 n7]; exact g, by rw [f.1 200 51 n5]; exact i, fun q hq => by rw [fr_J f 221 rfl n8]; exact j q hq⟩
theorem JLm_W {A : HA} {τ υ : hSt} (h : JLm A τ) (f : fr WF_ τ υ) : JLm A υ := by
  unfold JLm at h ⊢
  cases e : aL A with
  | none =>
    rw [e] at h
    dsimp only at h ⊢
    rw [f.1 200 39 (by decide)]; exact h
  | some L =>
    rw [e] at h
    dsimp only at h ⊢
    refine ⟨lM_W h.1 f (by decide) (by decide) (by decide) (by decide) (by decide) (by decide) (by decide) (by decide), fun x hx q hq => ?_⟩
    dsimp only
    rw [fr_J f 220 rfl (by decide)]
    exact h.2 x hx q hq
theorem JM_W {A : HA} {τ υ : hSt} (h : JM A τ) (f : fr WF_ τ υ) : JM A υ := by
  obtain ⟨a, ⟨b1, b2⟩, ⟨c1, c2⟩, ⟨d1, d2⟩, ⟨e1, e2⟩, ⟨g1, g2⟩, ⟨i1, i2⟩, j, k⟩ := h
  refine ⟨tpM_W a f (by decide) (by decide), ⟨by rw [f.1 200 15 (by decide)]; exact b1, fun s hs => sgM_W (b2 s hs) f (by decide) (by decide) (by decide) (by decide) (by decide)⟩, ⟨by rw [f.1 200 25 (by decide)]; exact c1, fun k hk => kpM_W (c2 k hk) f (by decide) (by decide)⟩, ⟨by rw [f.1 200 26 (by decide)]; exact d1, fun k hk => kpM_W (d2 k hk) f (by decide) (by decide)⟩, ⟨by rw [f.1 200 36 (by decide)]; exact e1, fun x hx => ?_⟩, ⟨by rw [f.1 200 58 (by decide)]; exact g1, fun i hi => ?_⟩, ⟨by rw [f.1 200 20 (by decide)]; exact i1, fun j hj => ?_⟩, f.2.2.2 j, JLm_W k f⟩
  · rw [fr_I f 214 rfl (by decide), fr_I f 215 rfl (by decide), fr_I f 216 rfl (by decide), fr_I f 217 rfl (by decide)]
    exact e2 x hx
  · rw [fr_I f 222 rfl (by decide), fr_I f 223 rfl (by decide)]
    exact g2 i hi
  · rw [fr_I f 209 rfl (by decide)]
    exact i2 j hj
theorem th0 {τ : hSt} {v : Int32} : fr WF_ τ (sI τ 200 0 v) := fr_sI _ _ (by decide)
/-- what calls that tell nothing may change, class -/
def WC_ : List Nat := [3, 8, 9, 10, 11, 13, 17, 19, 21, 23, 30, 31, 32, 33, 34, 35, 44, 10103, 10104, 10105, 11202, 11203, 11204, 11205, 11206, 11507, 11508, 11509, 11510, 11511, 11512, 11513, 11514]
theorem JLc_W {A : HA} {σ υ : hSt} (h : JLc A σ) (f : fr WC_ σ υ) (ho : JLo A) (hk : ∀ L, aL A = some L → nmL (fS A (fK A L.1).1) ≤ 6) : JLc A υ := by
  unfold JLc at h ⊢
  unfold JLo at ho
  cases e : aL A with
  | none =>
    rw [e] at h
    dsimp only at h ⊢
    exact ⟨by rw [f.2.2.1 14 8 (by decide)]; exact h.1, by rw [f.1 14 12 (by decide)]; exact h.2⟩
  | some L =>
    rw [e] at h ho
    dsimp only at h ho ⊢
    have h6 := hk L e
    obtain ⟨⟨a1, a2, a3, a4, a5, a6, a7⟩, b⟩ := h
    refine ⟨⟨by rw [f.2.2.1 14 8 (by decide)]; exact a1, by rw [f.2.1 14 9 (by decide)]; exact a2, by rw [f.1 14 11 (by decide)]; exact a3, by rw [f.1 14 12 (by decide)]; exact a4, by rw [f.2.1 14 10 (by decide)]; exact a5, by rw [f.1 14 13 (by decide)]; exact a6, fun q hq => by rw [fr_J f 18 rfl (by decide)]; exact a7 q hq⟩, fun x hx q hq => ?_⟩
    have hx6 : x < 6 := by have := ho.2.2.1; omega
    dsimp only
    rw [fr_J f (24 + x) (ob_n (by omega)) (by
      have : ∀ x, x < 6 → 24 + x ∉ WC_ := by decide
      exact this x hx6)]
    exact b x hx q hq
theorem z13_W {W : List Nat} {σ υ : hSt} (h : z13 σ) (f : fr W σ υ) (n : 13 ∉ W) : z13 υ := fun j hj h4 h6 h7 h9 => by
  rw [fr_J f 13 rfl n]; exact h j hj h4 h6 h7 h9
theorem z13_s {Z : hZ} {σ : hSt} {s t : Nat} {N P : Int} {sp : Nat → Int} {cs : Cls} (h : sitH Z σ s t N P sp cs) : z13 σ := h.2.2.2.2.2.2.2.2.2.2.2.2.2
theorem okA_nm {A : HA} (h : okA A) (ho : JLo A) : ∀ L, aL A = some L → nmL (fS A (fK A L.1).1) ≤ 6 := by
  intro L e
  unfold JLo at ho
  rw [e] at ho
  exact (nmB_of (h.2.1 _ (h.2.2.2.2.2.2.2.1 L.1 ho.1).1).2).1
theorem JP_W {W : List Nat} {A : HA} {σ υ : hSt} (h : JP A σ) (f : fr W σ υ) (n1 : 43 ∉ W) (n2 : 10015 ∉ W) : JP A υ := ⟨by rw [f.1 0 15 n2]; exact h.1, fun j hj => by rw [fr_I f 43 rfl n1]; exact h.2 j hj⟩
/-- the class after a call that tells nothing: only what the asker and the second course hold is to be shown -/
theorem JS_W {A : HA} {Z : hZ} {σ υ : hSt} (h : JS A Z σ) (hA : okA A) (ho : JLo A) (f : fr WC_ σ υ) (hz : z13 υ) (hc : caS Z (tfA A) 15 υ) : JS A Z υ := by
  obtain ⟨a, b, c, d, e, g⟩ := h
  exact ⟨tpH_W a f (by decide) (by decide), JP_W b f (by decide) (by decide), hz, caS_W (Or.inl rfl) d f (by decide) (by decide), hc, JLc_W g f ho (okA_nm hA ho)⟩
theorem JS_w {W : List Nat} {A : HA} {Z : hZ} {σ υ : hSt} (h : JS A Z σ) (hA : okA A) (ho : JLo A) (f : fr W σ υ) (hs : ∀ x ∈ W, x ∈ WC_) (n1 : 13 ∉ W) (n2 : 11507 ∉ W) (n3 : 23 ∉ W) : JS A Z υ :=
  JS_W h hA ho (fr_mono f hs) (z13_W h.2.2.1 f n1) (caS_W (Or.inr rfl) h.2.2.2.2.1 f n2 n3)
theorem J_W {W V : List Nat} {A : HA} {Z : hZ} {σ τ σ' τ' : hSt} (h : J A Z σ τ) (f : fr W σ σ') (k : fr V τ τ') (hs : ∀ x ∈ W, x ∈ WC_) (n1 : 13 ∉ W) (n2 : 11507 ∉ W) (n3 : 23 ∉ W) (hm : ∀ x ∈ V, x ∈ WF_) : J A Z σ' τ' :=
  ⟨h.1, h.2.1, JS_w h.2.2.1 h.1 h.2.2.2.2 f hs n1 n2 n3, JM_W h.2.2.2.1 (fr_mono k hm), h.2.2.2.2⟩
