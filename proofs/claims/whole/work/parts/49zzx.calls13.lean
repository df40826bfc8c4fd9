/-! calls: fault; what the model tells anew -/
theorem JM_R {A : HA} {τ υ : hSt} (h : JM A τ) (f : fr WR τ υ) (p : pS (nS_ A) τ υ) (hA : okA A) : JM A υ := by
  obtain ⟨a, ⟨b1, b2⟩, ⟨c1, c2⟩, ⟨d1, d2⟩, ⟨e1, e2⟩, ⟨g1, g2⟩, ⟨i1, i2⟩, j, k⟩ := h
  obtain ⟨p1, p2, p3, p4, p5⟩ := p
  refine ⟨tpM_W a f (by decide) (by decide), ⟨by rw [f.1 200 15 (by decide)]; exact b1, fun s hs => ?_⟩, ⟨by rw [f.1 200 25 (by decide)]; exact c1, fun k hk => kpM_W (c2 k hk) f (by decide) (by decide)⟩, ⟨by rw [f.1 200 26 (by decide)]; exact d1, fun k hk => kpM_W (d2 k hk) f (by decide) (by decide)⟩, ⟨by rw [f.1 200 36 (by decide)]; exact e1, fun x hx => ?_⟩, ⟨by rw [f.1 200 58 (by decide)]; exact g1, fun i hi => ?_⟩, ⟨by rw [f.1 200 20 (by decide)]; exact i1, fun j hj => ?_⟩, f.2.2.2 j, JLm_X k f (by decide) (by decide) (by decide) (by decide) (by decide) (by decide) (by decide) (by decide) (by decide)⟩
  · obtain ⟨q1, q2, q3, q4, q5, q6, q7⟩ := b2 s hs
    have r := p4 s hs
    refine ⟨q1, q2, by rw [r.1]; exact q3, fun i hi => ?_, by rw [r.2.1]; exact q5, fun k hk => ?_, by rw [r.2.2]; exact q7⟩
    · rw [p3 _ (by have : 200 * s + 200 ≤ 200 * nS_ A := by omega
                   omega)]
      exact q4 i hi
    · rw [p5 _ (by omega)]
      exact q6 k hk
  · rw [fr_I f 214 rfl (by decide), fr_I f 215 rfl (by decide), fr_I f 216 rfl (by decide), fr_I f 217 rfl (by decide)]
    exact e2 x hx
  · rw [fr_I f 222 rfl (by decide), fr_I f 223 rfl (by decide)]
    exact g2 i hi
  · rw [fr_I f 209 rfl (by decide)]
    exact i2 j hj
theorem p_mrd {A : HA} {Z : hZ} {σ τ : hSt} {F : Nat} (hF : 50000 ≤ F) (h : J A Z σ τ) : ∃ υ, f_X12_readSaying F Z τ = some (if sayF (aT A).1 (aT A).2 = none then 1 else 0, υ) ∧ JM A υ ∧ υ.1 200 7 = i32 (oF (sayF (aT A).1 (aT A).2)) ∧ (sayF (aT A).1 (aT A).2 = none → sgM υ (nS_ A) (sayO (aT A).1 (aT A).2 8 0).2.2) := by
  have hn := h.1.1
  have m2 := h.2.2.2.1.2.1.1
  obtain ⟨υ, a1, a2, a3, a4⟩ := p_mreadS (Z := Z) (F := F) (R := nS_ A) (by omega) h.2.2.2.1.1 m2 (by omega)
  exact ⟨υ, a1, JM_R h.2.2.2.1 a2 (ps_read (by omega) m2 a1) h.1, a3, a4⟩
theorem p_mgt {A : HA} {Z : hZ} {σ τ : hSt} {F g : Nat} (hF : 50000 ≤ F) (hg : g ≤ 1) (h : J A Z σ τ) : ∃ υ, f_X12_goThrough F Z τ 201 0 (τ.1 200 3) (i32 (g : Int)) 0 = some ((), υ) ∧ fr WG τ υ ∧ υ.1 200 7 = i32 (oF (txF (aT A).1 (aT A).2 g)) := by
  obtain ⟨a1, a2, a3⟩ := h.2.2.2.1.1
  have hb := h.2.2.2.1.2.2.2.2.2.2.2.1
  obtain ⟨υ1, e1, e2, e3, e4⟩ := p_goThrough (Z := Z) (F := F) (r := 201) (bs := 0) (n := (aT A).2) (lab := 0) (by omega) hg (by decide) ⟨a1, rfl, by unfold blen; rw [if_pos rfl]; omega, fun j hj => by rw [Nat.zero_add]; exact a3 j hj⟩ (ltM_any hg hb)
  exact ⟨υ1, by rw [a2]; exact e1, e2, e3⟩
theorem WT_C : ∀ x ∈ WT, x ∈ WC_ := by decide
theorem q_fault {A : HA} {Z : hZ} {σ τ : hSt} {F : Nat} (hF : 50000 ≤ F) (h : J A Z σ τ) (x1 : Int32) : ∃ v σ' τ', f_X11_fault F Z σ x1 = some (v, σ') ∧ f_X12_fault F Z τ x1 = some (v, τ') ∧ J A Z σ' τ' := by
  obtain ⟨z, hz, rfl⟩ := ofx x1
  have t0 := J_0 h 0
  have s1 := h.2.2.1.1
  have m1 := h.2.2.2.1.1
  unfold f_X11_fault f_X12_fault
  rw [i32_l hz, show f_X12_isIn (i64 z) 0 2 = _ from p_isIn (a := 0) (b := 2) (by omega) (by omega) (by omega), obs]
  by_cases c0 : z = 0
  · subst c0
    obtain ⟨σ1, a1, a2, -⟩ := p_readS (Z := Z) (F := F) (by omega) s1
    obtain ⟨υ, b1, b2, b3, -⟩ := p_mrd hF t0
    have hJ : J A Z σ1 υ := ⟨h.1, h.2.1, JS_w h.2.2.1 h.1 h.2.2.2.2 a2 WT_C (by decide) (by decide) (by decide), b2, h.2.2.2.2⟩
    rw [if_pos (show i32 0 = 0 from rfl), a1, obs, decide_eq_true (by decide), b01t, if_neg n10, if_pos (show i32 0 = (0 : Int32) from rfl), b1, obs]
    dsimp only
    rw [b3]
    refine ⟨_, _, υ, rfl, ?_, hJ⟩
    by_cases q : sayF (aT A).1 (aT A).2 = none
    · rw [if_pos q, if_neg n10, if_pos (show i32 0 ≤ (0 : Int32) by decide)]
    · rw [if_neg q, if_pos rfl, if_pos (show i32 0 ≤ (0 : Int32) by decide)]
  · rw [if_neg (show ¬ i32 z = 0 from mt (eqI (b := 0) (by omega)).mp c0), if_neg (show ¬ i32 z = (0 : Int32) from mt (eqI (b := 0) (by omega)).mp c0)]
    have m3 : (sI τ 200 0 0).1 200 3 = τ.1 200 3 := sI_j _ _ (by omega)
    by_cases c1 : z = 1
    · subst c1
      obtain ⟨σ1, a1, a2, -⟩ := p_readT (Z := Z) (F := F) (g := 0) (by omega) (by omega) s1
      obtain ⟨υ, b1, b2, b3⟩ := p_mgt (g := 0) hF (by omega) t0
      rw [m3] at b1
      have b1' : f_X12_goThrough F Z (sI τ 200 0 0) 201 0 (τ.1 200 3) 0 0 = some ((), υ) := b1
      rw [if_pos (show i32 1 = 1 from rfl), show 5 + 0 = 5 from rfl] at *
      rw [a1, obs, decide_eq_true (by decide), b01t, if_neg n10, if_neg (show ¬ i32 1 ≤ (0 : Int32) by decide), if_neg (show ¬ i32 1 = (2 : Int32) by decide), b1', obs]
      dsimp only
      rw [b3]
      exact ⟨_, _, υ, rfl, rfl, J_W t0 a2 b2 WT_C (by decide) (by decide) (by decide) (by decide)⟩
    · rw [if_neg (show ¬ i32 z = 1 from mt (eqI (b := 1) (by omega)).mp c1)]
      by_cases c2 : z = 2
      · subst c2
        obtain ⟨σ1, a1, a2, -⟩ := p_readT (Z := Z) (F := F) (g := 1) (by omega) (by omega) s1
        obtain ⟨υ, b1, b2, b3⟩ := p_mgt (g := 1) hF (by omega) t0
        rw [m3] at b1
        have b1' : f_X12_goThrough F Z (sI τ 200 0 0) 201 0 (τ.1 200 3) 1 0 = some ((), υ) := b1
        have a1' : f_X10_read F Z σ 6 = some (i32 (oF (txF (aT A).1 (aT A).2 1)), σ1) := a1
        rw [if_pos (show i32 2 = 2 from rfl), a1', obs, decide_eq_true (by decide), b01t, if_neg n10, if_neg (show ¬ i32 2 ≤ (0 : Int32) by decide), if_pos (show i32 2 = (2 : Int32) from rfl), b1', obs]
        dsimp only
        rw [b3]
        exact ⟨_, _, υ, rfl, rfl, J_W t0 a2 b2 WT_C (by decide) (by decide) (by decide) (by decide)⟩
      · rw [if_neg (show ¬ i32 z = 2 from mt (eqI (b := 2) (by omega)).mp c2), decide_eq_false (by omega), b01f, if_pos rfl]
        exact ⟨_, _, _, rfl, rfl, t0⟩
/-! what is told anew -/
def e0T (A : HA) : TXT := ((aT A).1, 0)
def upS (A : HA) (C : List Int) : HA := (e0T A, (nS_ A + 1, fun s => if s = nS_ A then C else fS A s), A.2.2)
def upW (A : HA) (t : TXT) : HA := (e0T A, A.2.1, (nL_ A + 1, fun s => if s = nL_ A then t else fL A s), A.2.2.2)
def upG (A : HA) (t : TXT) : HA := (e0T A, A.2.1, A.2.2.1, (nG_ A + 1, fun s => if s = nG_ A then t else fG A s), A.2.2.2.2)
def upK (A : HA) (t : Nat × Int × Nat × Nat) : HA := (A.1, A.2.1, A.2.2.1, A.2.2.2.1, (nK_ A + 1, fun s => if s = nK_ A then t else fK A s), A.2.2.2.2.2)
def upN (A : HA) (t : Nat × Nat) : HA := (A.1, A.2.1, A.2.2.1, A.2.2.2.1, A.2.2.2.2.1, (nN_ A + 1, fun s => if s = nN_ A then t else fN A s), A.2.2.2.2.2.2)
theorem tpM_0 {B : Nat → Nat} {τ : hSt} (h : τ.1 200 3 = i32 0) : tpM B 0 τ := ⟨by omega, h, fun j hj => absurd hj (Nat.not_lt_zero j)⟩
theorem tpH_0 {B : Nat → Nat} {σ : hSt} (h : σ.1 1 2 = i32 0) : tpH B 0 σ := ⟨by omega, h, fun j hj => absurd hj (Nat.not_lt_zero j)⟩
/-- the lengths of what the latest run is of stand when a SAYING is added -/
theorem JLm_S {A : HA} {τ : hSt} {C : List Int} (h : JLm A τ) (ho : JLo A) (hA : okA A) : JLm (upS A C) τ := by
  unfold JLm at h ⊢
  unfold JLo at ho
  have ea : aL (upS A C) = aL A := rfl
  rw [ea]
  cases e : aL A with
  | none => rw [e] at h; exact h
  | some L =>
    rw [e] at h ho
    dsimp only at h ho ⊢
    refine ⟨h.1, fun x hx q hq => h.2 x hx q ?_⟩
    have hb := (hA.2.2.2.2.2.2.2.1 L.1 ho.1).1
    have es : fS (upS A C) (fK (upS A C) L.1).1 = fS A (fK A L.1).1 := by
      show (if (fK A L.1).1 = nS_ A then C else fS A (fK A L.1).1) = _
      rw [if_neg (by omega)]
    rw [es] at hq
    exact hq
theorem q_msay {A : HA} {Z : hZ} {σ τ : hSt} {F : Nat} (hF : 50000 ≤ F) (h : J A Z σ τ) : ((nS_ A = 20 ∨ ¬ sayF (aT A).1 (aT A).2 = none) → ∃ τ', f_X12_saying F Z τ = some (-1, τ') ∧ JM A τ') ∧ ((¬ nS_ A = 20 ∧ sayF (aT A).1 (aT A).2 = none) → ∃ τ', f_X12_saying F Z τ = some (i32 (nS_ A : Int), τ') ∧ JM (upS A (sayO (aT A).1 (aT A).2 8 0).2.2) τ') := by
  have hn := h.1.1
  have t0 := J_0 h 0
  have m2 := h.2.2.2.1.2.1.1
  obtain ⟨υ, b1, b2, b3, b4⟩ := p_mrd hF t0
  unfold f_X12_saying
  rw [m2, b1, obs]
  dsimp only
  constructor
  · intro c
    by_cases d : nS_ A = 20
    · rw [if_pos (show i32 (nS_ A : Int) = (20 : Int32) by rw [d]; rfl)]
      exact ⟨_, rfl, t0.2.2.2.1⟩
    · have c' : ¬ sayF (aT A).1 (aT A).2 = none := c.resolve_left d
      rw [if_neg (show ¬ i32 (nS_ A : Int) = (20 : Int32) from mt (eqI (b := 20) (by omega)).mp (by omega)), if_neg c', if_pos rfl]
      exact ⟨_, rfl, b2⟩
  · rintro ⟨c, d⟩
    have b4' := b4 d
    have u15 := b2.2.1.1
    rw [if_neg (show ¬ i32 (nS_ A : Int) = (20 : Int32) from mt (eqI (b := 20) (by omega)).mp (by omega)), if_pos d, if_neg n10, u15, ip1]
    have ev : i32 ((nS_ A + 1 : Nat) : Int) - (1 : Int32) = i32 (nS_ A : Int) := by rw [show (1 : Int32) = i32 1 from rfl, i32_sub]; congr 1; omega
    rw [ev]
    refine ⟨_, rfl, ?_⟩
    have f : fr [30003, 30015] υ (sI (sI υ 200 3 0) 200 15 (i32 ((nS_ A + 1 : Nat) : Int))) := fr_tr (fr_sI _ _ (by decide)) (fr_sI _ _ (by decide))
    obtain ⟨a, ⟨e1, e2⟩, ⟨c1, c2⟩, ⟨d1, d2⟩, ⟨k1, k2⟩, ⟨g1, g2⟩, ⟨i1, i2⟩, j, k⟩ := b2
    refine ⟨tpM_0 (by rw [sI_j _ _ (by omega), sI_t _ _ ⟨rfl, rfl⟩]; rfl), ⟨sI_t _ _ ⟨rfl, rfl⟩, fun s hs => ?_⟩, ⟨by rw [f.1 200 25 (by decide)]; exact c1, fun k hk => kpM_W (c2 k hk) f (by decide) (by decide)⟩, ⟨by rw [f.1 200 26 (by decide)]; exact d1, fun k hk => kpM_W (d2 k hk) f (by decide) (by decide)⟩, ⟨by rw [f.1 200 36 (by decide)]; exact k1, fun x hx => ?_⟩, ⟨by rw [f.1 200 58 (by decide)]; exact g1, fun i hi => ?_⟩, ⟨by rw [f.1 200 20 (by decide)]; exact i1, fun j hj => ?_⟩, f.2.2.2 j, JLm_S (JLm_X k f (by decide) (by decide) (by decide) (by decide) (by decide) (by decide) (by decide) (by decide) (by decide)) h.2.2.2.2 h.1⟩
    · have hs' : s < nS_ A + 1 := hs
      show sgM _ s (if s = nS_ A then _ else fS A s)
      by_cases q : s = nS_ A
      · rw [if_pos q, q]
        exact sgM_W b4' f (by decide) (by decide) (by decide) (by decide) (by decide)
      · rw [if_neg q]
        exact sgM_W (e2 s (by omega)) f (by decide) (by decide) (by decide) (by decide) (by decide)
    · rw [fr_I f 214 rfl (by decide), fr_I f 215 rfl (by decide), fr_I f 216 rfl (by decide), fr_I f 217 rfl (by decide)]
      exact k2 x hx
    · rw [fr_I f 222 rfl (by decide), fr_I f 223 rfl (by decide)]
      exact g2 i hi
    · rw [fr_I f 209 rfl (by decide)]
      exact i2 j hj
theorem q_mlaw {A : HA} {Z : hZ} {σ τ : hSt} {F : Nat} (hF : 50000 ≤ F) (h : J A Z σ τ) : ((nL_ A = 12 ∨ ¬ txF (aT A).1 (aT A).2 0 = none) → ∃ τ', f_X12_law F Z τ = some (-1, τ') ∧ JM A τ') ∧ ((¬ nL_ A = 12 ∧ txF (aT A).1 (aT A).2 0 = none) → ∃ τ', f_X12_law F Z τ = some (i32 (nL_ A : Int), τ') ∧ JM (upW A (aT A)) τ') := by
  have hn := h.1.2.2.1
  have t0 := J_0 h 0
  have m3 := h.2.2.2.1.2.2.1.1
  unfold f_X12_law
  rw [m3]
  constructor
  · intro c
    by_cases d : nL_ A = 12
    · rw [if_pos (show i32 (nL_ A : Int) = (12 : Int32) by rw [d]; rfl)]
      exact ⟨_, rfl, t0.2.2.2.1⟩
    · obtain ⟨b1, -⟩ := p_mkeeps (Z := Z) (F := F) (g := 0) (k := nL_ A) (by omega) (by omega) (by omega) t0.2.2.2.1.1 t0.2.2.2.1.2.2.2.2.2.2.2.1
      obtain ⟨υ, u1, u2⟩ := b1 (c.resolve_left d)
      have u1' : f_X12_keeps F Z (sI τ 200 0 0) (i32 (nL_ A : Int)) 0 = some (0, υ) := u1
      rw [if_neg (show ¬ i32 (nL_ A : Int) = (12 : Int32) from mt (eqI (b := 12) (by omega)).mp (by omega)), u1', obs, if_pos rfl]
      exact ⟨_, rfl, JM_W t0.2.2.2.1 (fr_mono u2 (by decide))⟩
  · rintro ⟨c, d⟩
    obtain ⟨-, b2⟩ := p_mkeeps (Z := Z) (F := F) (g := 0) (k := nL_ A) (by omega) (by omega) (by omega) t0.2.2.2.1.1 t0.2.2.2.1.2.2.2.2.2.2.2.1
    obtain ⟨υ, u1, u2, u3, u4, u5, u6⟩ := b2 d
    have u1' : f_X12_keeps F Z (sI τ 200 0 0) (i32 (nL_ A : Int)) 0 = some (1, υ) := u1
    have m25 : υ.1 200 25 = i32 (nL_ A : Int) := by rw [u2.1 200 25 (by decide)]; exact t0.2.2.2.1.2.2.1.1
    have ev : i32 ((nL_ A + 1 : Nat) : Int) - (1 : Int32) = i32 (nL_ A : Int) := by rw [show (1 : Int32) = i32 1 from rfl, i32_sub]; congr 1; omega
    rw [if_neg (show ¬ i32 (nL_ A : Int) = (12 : Int32) from mt (eqI (b := 12) (by omega)).mp (by omega)), u1', obs, if_neg n10]
    dsimp only
    rw [m25, ip1, ev]
    refine ⟨_, rfl, ?_⟩
    have f0 : fr [30025] υ (sI υ 200 25 (i32 ((nL_ A + 1 : Nat) : Int))) := fr_sI _ _ (by decide)
    have f : fr (30025 :: 211 :: 212 :: 30003 :: WG) (sI τ 200 0 0) (sI υ 200 25 (i32 ((nL_ A + 1 : Nat) : Int))) := fr_tr (fr_mono u2 (by decide)) (fr_mono f0 (by decide))
    have e211 : ∀ p, (sI υ 200 25 (i32 ((nL_ A + 1 : Nat) : Int))).1 211 p = υ.1 211 p := fun p => by rw [sI_r _ _ (by omega)]
    have e212 : ∀ p, (sI υ 200 25 (i32 ((nL_ A + 1 : Nat) : Int))).1 212 p = υ.1 212 p := fun p => by rw [sI_r _ _ (by omega)]
    obtain ⟨a, ⟨e1, e2⟩, ⟨c1, c2⟩, ⟨d1, d2⟩, ⟨k1, k2⟩, ⟨g1, g2⟩, ⟨i1, i2⟩, j, k⟩ := t0.2.2.2.1
    have kp : ∀ {B : Nat → Nat} {n k' : Nat}, k' ≠ nL_ A → kpM B n k' (sI τ 200 0 0) → kpM B n k' (sI υ 200 25 (i32 ((nL_ A + 1 : Nat) : Int))) := by
      intro B n k' hk' hq
      obtain ⟨q1, q2, q3, q4⟩ := hq
      refine ⟨q1, q2, by rw [e212, u6 _ hk']; exact q3, fun j hj => ⟨?_, (q4 j hj).2⟩⟩
      rw [e211, u5 _ (by omega)]
      exact (q4 j hj).1
    refine ⟨tpM_0 (by rw [sI_j _ _ (by omega)]; exact u4), ⟨by rw [f.1 200 15 (by decide)]; exact e1, fun s hs => sgM_W (e2 s hs) f (by decide) (by decide) (by decide) (by decide) (by decide)⟩, ⟨sI_t _ _ ⟨rfl, rfl⟩, fun k hk => ?_⟩, ⟨by rw [f.1 200 26 (by decide)]; exact d1, fun k hk => kp (by omega) (d2 k hk)⟩, ⟨by rw [f.1 200 36 (by decide)]; exact k1, fun x hx => ?_⟩, ⟨by rw [f.1 200 58 (by decide)]; exact g1, fun i hi => ?_⟩, ⟨by rw [f.1 200 20 (by decide)]; exact i1, fun j hj => ?_⟩, f.2.2.2 j, JLm_X k f (by decide) (by decide) (by decide) (by decide) (by decide) (by decide) (by decide) (by decide) (by decide)⟩
    · have hk' : k < nL_ A + 1 := hk
      show kpM (if k = nL_ A then aT A else fL A k).1 (if k = nL_ A then aT A else fL A k).2 k _
      by_cases q : k = nL_ A
      · rw [if_pos q, q]
        exact kpM_W u3 f0 (by decide) (by decide)
      · rw [if_neg q]
        exact kp q (c2 k (by omega))
    · rw [fr_I f 214 rfl (by decide), fr_I f 215 rfl (by decide), fr_I f 216 rfl (by decide), fr_I f 217 rfl (by decide)]
      exact k2 x hx
    · rw [fr_I f 222 rfl (by decide), fr_I f 223 rfl (by decide)]
      exact g2 i hi
    · rw [fr_I f 209 rfl (by decide)]
      exact i2 j hj
theorem q_mgiant {A : HA} {Z : hZ} {σ τ : hSt} {F : Nat} (hF : 50000 ≤ F) (h : J A Z σ τ) : ((nG_ A = 12 ∨ ¬ txF (aT A).1 (aT A).2 1 = none) → ∃ τ', f_X12_giant F Z τ = some (-1, τ') ∧ JM A τ') ∧ ((¬ nG_ A = 12 ∧ txF (aT A).1 (aT A).2 1 = none) → ∃ τ', f_X12_giant F Z τ = some (i32 (nG_ A : Int), τ') ∧ JM (upG A (aT A)) τ') := by
  have hn := h.1.2.2.2.2.1
  have hnL := h.1.2.2.1
  have t0 := J_0 h 0
  have m3 := h.2.2.2.1.2.2.2.1.1
  have e12 : (12 : Int32) + i32 (nG_ A : Int) = i32 ((12 + nG_ A : Nat) : Int) := by rw [show (12 : Int32) = i32 12 from rfl, i32_add]; rfl
  unfold f_X12_giant
  rw [m3, e12]
  constructor
  · intro c
    by_cases d : nG_ A = 12
    · rw [if_pos (show i32 (nG_ A : Int) = (12 : Int32) by rw [d]; rfl)]
      exact ⟨_, rfl, t0.2.2.2.1⟩
    · obtain ⟨b1, -⟩ := p_mkeeps (Z := Z) (F := F) (g := 1) (k := 12 + nG_ A) (by omega) (by omega) (by omega) t0.2.2.2.1.1 t0.2.2.2.1.2.2.2.2.2.2.2.1
      obtain ⟨υ, u1, u2⟩ := b1 (c.resolve_left d)
      have u1' : f_X12_keeps F Z (sI τ 200 0 0) (i32 ((12 + nG_ A : Nat) : Int)) 1 = some (0, υ) := u1
      rw [if_neg (show ¬ i32 (nG_ A : Int) = (12 : Int32) from mt (eqI (b := 12) (by omega)).mp (by omega)), u1', obs, if_pos rfl]
      exact ⟨_, rfl, JM_W t0.2.2.2.1 (fr_mono u2 (by decide))⟩
  · rintro ⟨c, d⟩
    obtain ⟨-, b2⟩ := p_mkeeps (Z := Z) (F := F) (g := 1) (k := 12 + nG_ A) (by omega) (by omega) (by omega) t0.2.2.2.1.1 t0.2.2.2.1.2.2.2.2.2.2.2.1
    obtain ⟨υ, u1, u2, u3, u4, u5, u6⟩ := b2 d
    have u1' : f_X12_keeps F Z (sI τ 200 0 0) (i32 ((12 + nG_ A : Nat) : Int)) 1 = some (1, υ) := u1
    have m26 : υ.1 200 26 = i32 (nG_ A : Int) := by rw [u2.1 200 26 (by decide)]; exact t0.2.2.2.1.2.2.2.1.1
    have ev : i32 ((nG_ A + 1 : Nat) : Int) - (1 : Int32) = i32 (nG_ A : Int) := by rw [show (1 : Int32) = i32 1 from rfl, i32_sub]; congr 1; omega
    rw [if_neg (show ¬ i32 (nG_ A : Int) = (12 : Int32) from mt (eqI (b := 12) (by omega)).mp (by omega)), u1', obs, if_neg n10]
    dsimp only
    rw [m26, ip1, ev]
    refine ⟨_, rfl, ?_⟩
    have f0 : fr [30026] υ (sI υ 200 26 (i32 ((nG_ A + 1 : Nat) : Int))) := fr_sI _ _ (by decide)
    have f : fr (30026 :: 211 :: 212 :: 30003 :: WG) (sI τ 200 0 0) (sI υ 200 26 (i32 ((nG_ A + 1 : Nat) : Int))) := fr_tr (fr_mono u2 (by decide)) (fr_mono f0 (by decide))
    have e211 : ∀ p, (sI υ 200 26 (i32 ((nG_ A + 1 : Nat) : Int))).1 211 p = υ.1 211 p := fun p => by rw [sI_r _ _ (by omega)]
    have e212 : ∀ p, (sI υ 200 26 (i32 ((nG_ A + 1 : Nat) : Int))).1 212 p = υ.1 212 p := fun p => by rw [sI_r _ _ (by omega)]
    obtain ⟨a, ⟨e1, e2⟩, ⟨c1, c2⟩, ⟨d1, d2⟩, ⟨k1, k2⟩, ⟨g1, g2⟩, ⟨i1, i2⟩, j, k⟩ := t0.2.2.2.1
    have kp : ∀ {B : Nat → Nat} {n k' : Nat}, k' ≠ 12 + nG_ A → kpM B n k' (sI τ 200 0 0) → kpM B n k' (sI υ 200 26 (i32 ((nG_ A + 1 : Nat) : Int))) := by
      intro B n k' hk' hq
      obtain ⟨q1, q2, q3, q4⟩ := hq
      refine ⟨q1, q2, by rw [e212, u6 _ hk']; exact q3, fun j hj => ⟨?_, (q4 j hj).2⟩⟩
      rw [e211, u5 _ (by omega)]
      exact (q4 j hj).1
    have ne12 : ∀ k, k < nL_ A → k ≠ 12 + nG_ A := fun k hk => by omega
    refine ⟨tpM_0 (by rw [sI_j _ _ (by omega)]; exact u4), ⟨by rw [f.1 200 15 (by decide)]; exact e1, fun s hs => sgM_W (e2 s hs) f (by decide) (by decide) (by decide) (by decide) (by decide)⟩, ⟨by rw [f.1 200 25 (by decide)]; exact c1, fun k hk => kp (ne12 k hk) (c2 k hk)⟩, ⟨sI_t _ _ ⟨rfl, rfl⟩, fun k hk => ?_⟩, ⟨by rw [f.1 200 36 (by decide)]; exact k1, fun x hx => ?_⟩, ⟨by rw [f.1 200 58 (by decide)]; exact g1, fun i hi => ?_⟩, ⟨by rw [f.1 200 20 (by decide)]; exact i1, fun j hj => ?_⟩, f.2.2.2 j, JLm_X k f (by decide) (by decide) (by decide) (by decide) (by decide) (by decide) (by decide) (by decide) (by decide)⟩
    · have hk' : k < nG_ A + 1 := hk
      show kpM (if k = nG_ A then aT A else fG A k).1 (if k = nG_ A then aT A else fG A k).2 (12 + k) _
      by_cases q : k = nG_ A
      · rw [if_pos q, q]
        exact kpM_W u3 f0 (by decide) (by decide)
      · rw [if_neg q]
        exact kp (by omega) (d2 k (by omega))
    · rw [fr_I f 214 rfl (by decide), fr_I f 215 rfl (by decide), fr_I f 216 rfl (by decide), fr_I f 217 rfl (by decide)]
      exact k2 x hx
    · rw [fr_I f 222 rfl (by decide), fr_I f 223 rfl (by decide)]
      exact g2 i hi
    · rw [fr_I f 209 rfl (by decide)]
      exact i2 j hj
