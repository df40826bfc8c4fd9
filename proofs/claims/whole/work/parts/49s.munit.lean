/-! rows of conditions, model -/
def lpC (B : Nat → Nat) (n r bs g dp c : Nat) (L : Nat → Int64) (u : hSt → Option (Int32 × hSt)) (op : Bool → Bool → Bool) (Lp : Nat → hSt → Int32 → Option (Int32 × hSt)) : Prop :=
  (∀ N τ p, okV B n r bs g L τ p dp → ∃ τ1, fr WV τ τ1 ∧ (if isC c (pk B n (sk B n p)) = true then okV B n r bs g L τ1 (sk B n p + 1) dp ∧ sk B n p < n ∧ ∀ b b2 υ, u τ1 = some (b01 b2, υ) → Lp (N + 1) τ (b01 b) = Lp N υ (b01 (op b b2)) else okV B n r bs g L τ1 (sk B n p) dp ∧ ∀ b, Lp (N + 1) τ (b01 b) = some (b01 b, τ1))) ∧
  (∀ N τ b, ¬ τ.1 200 7 = (-1 : Int32) → Lp (N + 1) τ (b01 b) = some (b01 b, τ)) ∧
  (∀ x y, wk (i32 (c : Int)) (bJ x) (bJ y) = bJ (op x y))
theorem p_chC {B : Nat → Nat} {n r bs g dp c : Nat} {L : Nat → Int64} {it : Nat → PR} {u : hSt → Option (Int32 × hSt)} {op : Bool → Bool → Bool} {Lp : Nat → hSt → Int32 → Option (Int32 × hSt)} (hc : c ≠ 0 ∧ c ≠ 33) (hl : lpC B n r bs g dp c L u op Lp) (hg : PG n it) (hu : ∀ τ p, okV B n r bs g L τ p dp → resC B n r bs g L τ dp (it p) (u τ)) :
    ∀ k p N (τ : hSt) b acc, k + 1 < N → n ≤ p + k → okV B n r bs g L τ p dp → (∀ s, evS L acc s = bJ b :: s) → resC B n r bs g L τ dp (chL B n (isC c) (fun _ => emC c) it k p acc) (Lp N τ (b01 b)) := by
  intro k
  induction k with
  | zero =>
    intro p N τ b acc hN hnp ho ha
    obtain ⟨N, rfl⟩ : ∃ q, N = q + 1 := ⟨N - 1, by omega⟩
    have hpn := ho.1.2.1
    obtain rfl : p = n := by omega
    obtain ⟨τ1, f1, h1⟩ := hl.1 N τ p ho
    have hc : ¬ isC c (pk B p (sk B p p)) = true := by
      rw [sk_n]
      unfold pk isC
      rw [if_neg (by omega)]
      intro z
      have := eq_of_beq z
      omega
    rw [if_neg hc, sk_n] at h1
    rw [chL]
    exact ⟨τ1, b, h1.2 b, f1, fun _ => ⟨h1.1, ha⟩, fun z => by cases z⟩
  | succ k ih =>
    intro p N τ b acc hN hnp ho ha
    obtain ⟨N, rfl⟩ : ∃ q, N = q + 1 := ⟨N - 1, by omega⟩
    have hs := sk_rg (B := B) ho.1.2.1
    obtain ⟨τ1, f1, h1⟩ := hl.1 N τ p ho
    rw [chL]
    by_cases q : isC c (pk B n (sk B n p)) = true
    · rw [if_pos q] at h1
      obtain ⟨h2, h3, h4⟩ := h1
      obtain ⟨υ, b2, b1, b3, b4, b5⟩ := hu τ1 _ h2
      obtain ⟨g1, g2⟩ := hg (sk B n p + 1) h3
      rw [if_pos q, h4 b b2 υ b1]
      by_cases d : (it (sk B n p + 1)).1 = true
      · obtain ⟨c1, c3⟩ := b4 d
        obtain ⟨g3, g4⟩ := g2 d
        have ha2 := evS_bin ha c3 hc.2
        rw [hl.2.2 b b2] at ha2
        rw [if_pos d]
        exact resC_pre (fr_tr f1 b3) (ih _ N υ _ _ (by omega) (by omega) c1 ha2)
      · have d2 : (it (sk B n p + 1)).1 = false := by cases h : (it (sk B n p + 1)).1 with
          | false => rfl
          | true => exact absurd h d
        have hf := b5 d2
        obtain ⟨N, rfl⟩ : ∃ q, N = q + 1 := ⟨N - 1, by omega⟩
        have hn := ho.1.1
        rw [if_neg d, hl.2.1 N υ _ (f_ne (by omega) hf)]
        exact resC_0 rfl (fr_tr f1 b3) hf
    · rw [if_neg q] at h1
      rw [if_neg q]
      exact ⟨τ1, b, h1.2 b, f1, fun _ => ⟨h1.1, ha⟩, fun z => by cases z⟩
theorem p_rowC {B : Nat → Nat} {n r bs g dp c F : Nat} {L : Nat → Int64} {it : Nat → PR} {u : hSt → Option (Int32 × hSt)} {op : Bool → Bool → Bool} {Lp : Nat → hSt → Int32 → Option (Int32 × hSt)} (hF : 300 ≤ F) (hc : c ≠ 0 ∧ c ≠ 33) (hl : lpC B n r bs g dp c L u op Lp) (hg : PG n it) (hu : ∀ τ p, okV B n r bs g L τ p dp → resC B n r bs g L τ dp (it p) (u τ)) {rr : PR} {x : Option (Int32 × hSt)} (τ : hSt) (hn : n ≤ 200) (hr : rr.2.1 ≤ n) (h0 : resC B n r bs g L τ dp rr x) : resC B n r bs g L τ dp (chF B n (isC c) (fun _ => emC c) it rr) (x.bind fun q1 => Lp F q1.2 q1.1) := by
  obtain ⟨υ, b, b1, b2, b3, b4⟩ := h0
  unfold chF
  rw [b1, obs]
  dsimp only
  by_cases d : rr.1 = true
  · obtain ⟨c1, c3⟩ := b3 d
    rw [if_pos d]
    exact resC_pre b2 (p_chC hc hl hg hu 200 _ F υ b _ (by omega) (by omega) c1 c3)
  · have d2 : rr.1 = false := by cases h : rr.1 with
      | false => rfl
      | true => exact absurd h d
    have hf := b4 d2
    obtain ⟨F, rfl⟩ : ∃ q, F = q + 1 := ⟨F - 1, by omega⟩
    rw [if_neg d, hl.2.1 F υ _ (f_ne (by omega) hf)]
    exact resC_0 rfl b2 hf
theorem lp_part {B : Nat → Nat} {n r bs g dp F : Nat} {L : Nat → Int64} {Z : hZ} {u : hSt → Option (Int32 × hSt)} (hF : 300 ≤ F) : lpC B n r bs g dp 38 L u (fun a b => a && b) (f_X12_part_L19 F Z u) := by
  refine ⟨?_, ?_, ?_⟩
  · intro N τ p h
    obtain ⟨τ1, t0, e1, e2, f1, h1, e3⟩ := look2 (Z := Z) hF h
    by_cases q : pk B n (sk B n p) = 38
    · have hlt := pkp_lt (show pk B n (sk B n p) ≠ 0 by omega)
      refine ⟨_, fr6 τ (i32 ((sk B n p + 1 : Nat) : Int)), ?_⟩
      rw [if_pos (show isC 38 (pk B n (sk B n p)) = true by rw [q]; rfl)]
      refine ⟨okV_at h hlt, hlt, fun b b2 υ hu => ?_⟩
      rw [f_X12_part_L19, h.2.1, if_pos m1, e1, obs]
      dsimp only
      rw [if_pos (show i32 (lkV B n (sk B n p)) = (38 : Int32) from lk_y h (by decide) q), e3, hu, obs]
      cases b
      · exact if_pos rfl
      · cases b2
        · exact (if_neg n10).trans (if_pos rfl)
        · exact (if_neg n10).trans (if_neg n10)
    · refine ⟨τ1, f1, ?_⟩
      rw [if_neg (show ¬ isC 38 (pk B n (sk B n p)) = true from fun z => q (eq_of_beq z))]
      refine ⟨h1, fun b => ?_⟩
      rw [f_X12_part_L19, h.2.1, if_pos m1, e1, obs]
      dsimp only
      rw [if_neg (show ¬ i32 (lkV B n (sk B n p)) = (38 : Int32) from lk_n h (by decide) q)]
      exact b01_w b τ1
  · intro N τ b h
    rw [f_X12_part_L19, if_neg h]
    exact b01_w b τ
  · intro x y
    cases x <;> cases y <;> rfl
theorem lp_cond {B : Nat → Nat} {n r bs g dp F : Nat} {L : Nat → Int64} {Z : hZ} {u : hSt → Int32 → Int64 → Option (Int32 × hSt)} (hF : 300 ≤ F) : lpC B n r bs g dp 124 L (fun τ => u τ 0 0) (fun a b => a || b) (f_X12_condition_L8 F Z u) := by
  refine ⟨?_, ?_, ?_⟩
  · intro N τ p h
    obtain ⟨τ1, t0, e1, e2, f1, h1, e3⟩ := look2 (Z := Z) hF h
    by_cases q : pk B n (sk B n p) = 124
    · have hlt := pkp_lt (show pk B n (sk B n p) ≠ 0 by omega)
      refine ⟨_, fr6 τ (i32 ((sk B n p + 1 : Nat) : Int)), ?_⟩
      rw [if_pos (show isC 124 (pk B n (sk B n p)) = true by rw [q]; rfl)]
      refine ⟨okV_at h hlt, hlt, fun b b2 υ hu => ?_⟩
      dsimp only at hu
      rw [f_X12_condition_L8, h.2.1, if_pos m1, e1, obs]
      dsimp only
      rw [if_pos (show i32 (lkV B n (sk B n p)) = (124 : Int32) from lk_y h (by decide) q), e3, hu, obs]
      cases b
      · cases b2
        · exact (if_pos rfl).trans (if_pos rfl)
        · exact (if_pos rfl).trans (if_neg n10)
      · exact if_neg n10
    · refine ⟨τ1, f1, ?_⟩
      rw [if_neg (show ¬ isC 124 (pk B n (sk B n p)) = true from fun z => q (eq_of_beq z))]
      refine ⟨h1, fun b => ?_⟩
      rw [f_X12_condition_L8, h.2.1, if_pos m1, e1, obs]
      dsimp only
      rw [if_neg (show ¬ i32 (lkV B n (sk B n p)) = (124 : Int32) from lk_n h (by decide) q)]
      exact b01_w b τ1
  · intro N τ b h
    rw [f_X12_condition_L8, if_neg h]
    exact b01_w b τ
  · intro x y
    cases x <;> cases y <;> rfl
theorem p_mpart {B : Nat → Nat} {n r bs g dp d D F : Nat} {L : Nat → Int64} {Z : hZ} (hF : 300 ≤ F) (hg : g ≤ 1) (hu : ∀ τ p, okV B n r bs g L τ p dp → resC B n r bs g L τ dp (tU B n g d p) ((G_Mu F Z D).2.2 τ)) (τ : hSt) (p : Nat) (ho : okV B n r bs g L τ p dp) : resC B n r bs g L τ dp (tP B n g d p) ((G_Mu F Z (D + 1)).2.1 τ 0 0) := by
  have h := p_rowC (c := 38) hF (by omega) (lp_part (Z := Z) hF) (tU_PG B n g hg d) hu τ ho.1.1 (tU_PG B n g hg d p ho.1.2.1).1 (hu τ p ho)
  rw [show (G_Mu F Z (D + 1)).2.1 τ 0 0 = b_X12_part F Z (G_Mu F Z D).2.2 τ 0 0 from rfl]
  unfold b_X12_part
  rw [if_pos rfl]
  exact h
theorem p_mcond {B : Nat → Nat} {n r bs g dp d D F : Nat} {L : Nat → Int64} {Z : hZ} (hF : 300 ≤ F) (hg : g ≤ 1) (hu : ∀ τ p, okV B n r bs g L τ p dp → resC B n r bs g L τ dp (tU B n g d p) ((G_Mu F Z D).2.2 τ)) (τ : hSt) (p : Nat) (ho : okV B n r bs g L τ p dp) : resC B n r bs g L τ dp (tC B n g d p) ((G_Mu F Z (D + 2)).1 τ 0 0) := by
  have hp := p_mpart hF hg hu
  have h := p_rowC (c := 124) hF (by omega) (lp_cond (Z := Z) (u := (G_Mu F Z (D + 1)).2.1) hF) (tP_PG B n g hg d) hp τ ho.1.1 (tP_PG B n g hg d p ho.1.2.1).1 (hp τ p ho)
  rw [show (G_Mu F Z (D + 2)).1 τ 0 0 = b_X12_condition F Z (G_Mu F Z (D + 1)).2.1 τ 0 0 from rfl]
  unfold b_X12_condition
  exact h
theorem p_mcloC {B : Nat → Nat} {n r bs g dp F c : Nat} {L : Nat → Int64} {Z : hZ} {τ : hSt} {rr : PR} {x : Option (Int32 × hSt)} (hF : 300 ≤ F) (hc : 1 ≤ c ∧ c ≤ 255) (hn : rr.2.1 ≤ 1000) (h : resC B n r bs g L τ (dp + 1) rr x) : resC B n r bs g L τ dp (clo B n c rr) (x.bind fun q8 => (f_X12_takes F Z q8.2 (i32 (c : Int))).bind fun q9 => (if q9.1 = (0 : Int32) then some ((0 : Int32), q9.2) else if q8.1 = 0 ∨ q8.1 = 1 then some (q8.1, (sI q9.2 200 8 ((q9.2.1 200 8) - (1 : Int32)))) else none)) := by
  obtain ⟨υ, b, a1, a2, a3, a4⟩ := h
  rw [a1, obs]
  dsimp only
  unfold clo
  by_cases d : rr.1 = true
  · obtain ⟨b1, b3⟩ := a3 d
    obtain ⟨υ2, f2, t⟩ := p_mtakes (Z := Z) (c := c) hF hc b1
    rw [if_pos d]
    by_cases q : pk B n (sk B n rr.2.1) = c
    · rw [if_pos q] at t
      obtain ⟨t1, t2, t3⟩ := t
      have h8 : υ2.1 200 8 - (1 : Int32) = i32 (dp : Int) := by
        rw [t2.2.2.1, show (1 : Int32) = i32 1 from rfl, i32_sub]; congr 1; omega
      rw [if_pos q, t1, obs]
      dsimp only
      rw [if_neg n10, h8, b01_w]
      exact ⟨_, b, rfl, fr_tr (fr_tr a2 f2) (fr8 _ _), fun _ => ⟨okV_dp t2, b3⟩, fun z => by cases z⟩
    · rw [if_neg q] at t
      obtain ⟨t1, t2⟩ := t
      rw [if_neg q, t1, obs]
      exact resC_0 (b := false) (if_pos rfl) (fr_tr a2 f2) t2
  · have d2 : rr.1 = false := by cases h : rr.1 with
      | false => rfl
      | true => exact absurd h d
    rw [if_neg d, p_mtake2 hn (a4 d2), obs]
    exact resC_0 (b := false) (if_pos rfl) a2 (a4 d2)
theorem p_mnot {B : Nat → Nat} {n r bs g dp : Nat} {L : Nat → Int64} {τ : hSt} {rr : PR} {x : Option (Int32 × hSt)} (h : resC B n r bs g L τ (dp + 1) rr x) : resC B n r bs g L τ dp (add1 rr 20033) (x.bind fun q14 => (if q14.1 = (0 : Int32) then some ((1 : Int32), (sI q14.2 200 8 ((q14.2.1 200 8) - (1 : Int32)))) else some ((0 : Int32), (sI q14.2 200 8 ((q14.2.1 200 8) - (1 : Int32)))))) := by
  obtain ⟨υ, b, a1, a2, a3, a4⟩ := h
  have hx : (x.bind fun q14 => (if q14.1 = (0 : Int32) then some ((1 : Int32), (sI q14.2 200 8 ((q14.2.1 200 8) - (1 : Int32)))) else some ((0 : Int32), (sI q14.2 200 8 ((q14.2.1 200 8) - (1 : Int32)))))) = some (b01 (!b), sI υ 200 8 (υ.1 200 8 - 1)) := by
    rw [a1, obs]
    cases b
    · exact if_pos rfl
    · exact if_neg n10
  rw [hx]
  unfold add1
  by_cases d : rr.1 = true
  · obtain ⟨b1, b3⟩ := a3 d
    have h8 : υ.1 200 8 - (1 : Int32) = i32 (dp : Int) := by
      rw [b1.2.2.1, show (1 : Int32) = i32 1 from rfl, i32_sub]; congr 1; omega
    rw [if_pos d]
    refine ⟨_, _, rfl, fr_tr a2 (fr8 _ _), fun _ => ⟨by rw [h8]; exact okV_dp b1, fun s => ?_⟩, fun z => by cases z⟩
    show evS L (rr.2.2 ++ [20033]) s = bJ (!b) :: s
    rw [evS_app, b3, evS, evS]
    cases b <;> rfl
  · have d2 : rr.1 = false := by cases h : rr.1 with
      | false => rfl
      | true => exact absurd h d
    rw [if_neg d]
    refine resC_0 rfl (fr_tr a2 (fr8 _ _)) ?_
    rw [sI_j _ _ (by omega)]
    exact a4 d2
theorem p_munitC {B : Nat → Nat} {n r bs g F : Nat} {L : Nat → Int64} {Z : hZ} (hF : 300 ≤ F) (hg : g ≤ 1) : ∀ (d dp D : Nat), dp + d = 6 → 3 * d + 1 ≤ D → ∀ τ p, okV B n r bs g L τ p dp → resC B n r bs g L τ dp (tU B n g d p) ((G_Mu F Z D).2.2 τ) := by
  intro d
  induction d with
  | zero =>
    intro dp D hx hD τ p ho
    obtain ⟨D, rfl⟩ : ∃ q, D = q + 1 := ⟨D - 1, by omega⟩
    obtain ⟨τ1, t0, e1, e2, f1, h1, e3⟩ := look2 (Z := Z) hF ho
    obtain rfl : dp = 6 := by omega
    rw [show (G_Mu F Z (D + 1)).2.2 τ = b_X12_unit F Z (G_Mu F Z D).1 (G_Mu F Z D).2.2 τ from rfl, tU]
    unfold b_X12_unit
    rw [e1, obs]
    dsimp only
    by_cases c : pk B n (sk B n p) = 33
    · rw [if_pos (Or.inl c), if_pos (show i32 (lkV B n (sk B n p)) = (33 : Int32) from lk_y ho (by decide) c), p_mgoes0 h1, obs]
      exact resC_0 (b := false) (if_pos rfl) (fr_tr f1 (fr7 _ _)) (sI_t _ _ ⟨rfl, rfl⟩)
    · by_cases c2 : pk B n (sk B n p) = 40
      · rw [if_pos (Or.inr c2), if_neg (show ¬ i32 (lkV B n (sk B n p)) = (33 : Int32) from lk_n ho (by decide) c), if_pos (show i32 (lkV B n (sk B n p)) = (40 : Int32) from lk_y ho (by decide) c2), p_mgoes0 h1, obs]
        exact resC_0 (b := false) (if_pos rfl) (fr_tr f1 (fr7 _ _)) (sI_t _ _ ⟨rfl, rfl⟩)
      · rw [if_neg (by omega), if_neg (show ¬ i32 (lkV B n (sk B n p)) = (33 : Int32) from lk_n ho (by decide) c), if_neg (show ¬ i32 (lkV B n (sk B n p)) = (40 : Int32) from lk_n ho (by decide) c2)]
        exact resC_pre f1 (resC_w (p_mcomp0 hF hg rfl h1))
  | succ d ih =>
    intro dp D hx hD τ p ho
    obtain ⟨D, rfl⟩ : ∃ q, D = q + 3 := ⟨D - 3, by omega⟩
    obtain ⟨τ1, t0, e1, e2, f1, h1, e3⟩ := look2 (Z := Z) hF ho
    have hn := ho.1.1
    rw [show (G_Mu F Z (D + 3)).2.2 τ = b_X12_unit F Z (G_Mu F Z (D + 2)).1 (G_Mu F Z (D + 2)).2.2 τ from rfl, tU_s]
    unfold b_X12_unit
    rw [e1, obs]
    dsimp only
    by_cases c : pk B n (sk B n p) = 33
    · have hlt := pkp_lt (show pk B n (sk B n p) ≠ 0 by omega)
      obtain ⟨υ, g1, g2, g3⟩ := p_mgoes1 (Z := Z) h1 (by omega) hlt
      rw [if_pos c, if_pos (show i32 (lkV B n (sk B n p)) = (33 : Int32) from lk_y ho (by decide) c), g1, obs]
      dsimp only
      rw [if_neg n10]
      exact resC_pre (fr_tr f1 g2) (p_mnot (ih (dp + 1) (D + 2) (by omega) (by omega) υ _ g3))
    · by_cases c2 : pk B n (sk B n p) = 40
      · have hlt := pkp_lt (show pk B n (sk B n p) ≠ 0 by omega)
        obtain ⟨υ, g1, g2, g3⟩ := p_mgoes1 (Z := Z) h1 (by omega) hlt
        have hpg := (tC_PG B n g hg d (sk B n p + 1) hlt).1
        rw [if_neg c, if_pos c2, if_neg (show ¬ i32 (lkV B n (sk B n p)) = (33 : Int32) from lk_n ho (by decide) c), if_pos (show i32 (lkV B n (sk B n p)) = (40 : Int32) from lk_y ho (by decide) c2), g1, obs]
        dsimp only
        rw [if_neg n10]
        exact resC_pre (fr_tr f1 g2) (p_mcloC (c := 41) hF (by omega) (by omega) (p_mcond hF hg (ih (dp + 1) D (by omega) (by omega)) υ _ g3))
      · rw [if_neg c, if_neg c2, if_neg (show ¬ i32 (lkV B n (sk B n p)) = (33 : Int32) from lk_n ho (by decide) c), if_neg (show ¬ i32 (lkV B n (sk B n p)) = (40 : Int32) from lk_n ho (by decide) c2)]
        exact resC_pre f1 (resC_w (p_mcomp0 hF hg hx h1))
theorem p_mcond0 {B : Nat → Nat} {n r bs g p F : Nat} {L : Nat → Int64} {Z : hZ} {τ : hSt} (hF : 300 ≤ F) (hg : g ≤ 1) (h : okV B n r bs g L τ p 0) : resC B n r bs g L τ 0 (tC B n g 6 p) (f_X12_condition F Z τ 0 0) :=
  p_mcond (D := 28) hF hg (p_munitC hF hg 6 0 28 rfl (by omega)) τ p h
theorem p_mcondB {B : Nat → Nat} {n r bs g p F : Nat} {L : Nat → Int64} {Z : hZ} {τ : hSt} {acc : List Int} {z : Int64} (hF : 300 ≤ F) (hg : g ≤ 1) (h : okV B n r bs g L τ p 0) (ha : ∀ s, evS L acc s = z :: s) (hl : acc.length ≤ p) : resC B n r bs g L τ 0 (tB B n g p acc) (f_X12_condition F Z τ 1 z) := by
  have hu := p_munitC (B := B) (n := n) (r := r) (bs := bs) (L := L) (Z := Z) hF hg 6 0 28 rfl (by omega)
  have hp := p_mpart hF hg hu
  have h0 := p_mcomp1 (Z := Z) hF hg h ha
  have k1 := (cmp_PG (B := B) (d := 6) (q := 0) hg h.1.2.1 hl)
  have k2 := chF_PG (B := B) (p := 0) (em := fun _ => emC 38) (show isC 38 0 = false from rfl) (tU_PG B n g hg 6) k1.1 (fun z => by have := k1.2 z; omega)
  have h1 := p_rowC (c := 38) hF (by omega) (lp_part (Z := Z) hF) (tU_PG B n g hg 6) hu τ h.1.1 k1.1 h0
  have h2 := p_rowC (c := 124) hF (by omega) (lp_cond (Z := Z) (u := (G_Mu F Z 29).2.1) hF) (tP_PG B n g hg 6) hp τ h.1.1 k2.1 h1
  rw [show f_X12_condition F Z τ 1 z = b_X12_condition F Z (G_Mu F Z 29).2.1 τ 1 z from rfl]
  unfold b_X12_condition
  rw [show (G_Mu F Z 29).2.1 τ 1 z = b_X12_part F Z (G_Mu F Z 28).2.2 τ 1 z from rfl]
  unfold b_X12_part
  rw [if_neg n10]
  exact h2
