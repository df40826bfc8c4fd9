/-! WORTHS of labels, class -/
def ev (L : Nat → Int64) (l : List Int) : Int64 := (evS L l []).headD 0
theorem ev_of {L : Nat → Int64} {l : List Int} {v : Int64} {m : Nat} (h : VL L l v m) : ev L l = v := by unfold ev; rw [(h []).1]; rfl
theorem WC_ev {m : Nat} {l : List Int} (h : WC m l) (L : Nat → Int64) : VL L l (ev L l) m := by
  obtain ⟨v, q⟩ := h.2 L
  rw [ev_of q]; exact q
theorem p_reckoned {Z : hZ} {r r4 n F m p : Nat} {l : List Int} {L : Nat → Int64} (hF : 1000 ≤ F) (hj : jlen r4 = 10) (hb : ob r4 = false) (h84 : r4 ≠ 8) (hn : n ≤ 900) (hz : Z.2.1 r = n) (hp : p + l.length ≤ n) (hm : m ≤ 60) (hl : WC m l) (σ : hSt) (hc : ∀ i, i < l.length → Z.2.2.1 r (p + i) = i32 (l.getD i 0)) (hL : ∀ i, i < 10 → σ.2.1 r4 i = L i) : ∃ σ', f_X3_reckoned F Z σ r (i32 (p : Int)) (i32 (l.length : Int)) r4 = some (ev L l, σ') ∧ fr [8] σ σ' := by
  have hv := WC_ev hl L
  have e0 : i32 (p : Int) + i32 (l.length : Int) = i32 ((p + l.length : Nat) : Int) := by rw [i32_add]; congr 1
  obtain ⟨σ', e1, e2, e3⟩ := p_reck_L (Z := Z) (r := r) (r4 := r4) (n := n) (l := l) (L := L) (y2 := i32 (p : Int)) (y3 := i32 (l.length : Int)) (K := fun σ1 z5 => (if z5 ≤ (0 : Int32) then some ((0 : Int64), σ1) else if ((z5 - (1 : Int32)) : Int32) < 0 ∨ 64 ≤ ((z5 - (1 : Int32)) : Int32).toNatClampNeg then none else some ((σ1.2.1 8 (((z5 - (1 : Int32)) : Int32).toNatClampNeg)), σ1))) hj hb h84 (by omega) hz (by rw [e0, i32_le (by omega)]; omega) (e := p + l.length) e0 hp l p F σ [] rfl (by omega) (fun i hi => ⟨hc i hi, by
    have : l.getD i 0 ∈ l := by
      rw [List.getD_eq_getElem?_getD, List.getElem?_eq_getElem hi]
      exact List.getElem_mem hi
    exact hl.1 _ this⟩) hL (fun i hi => absurd hi (Nat.not_lt_zero i)) (fun k => by have := (hv []).2 k; rw [List.length_nil] at this; omega)
  refine ⟨σ', ?_, e2⟩
  unfold f_X3_reckoned
  have ep : (if (0 : Int32) < i32 (p : Int) then i32 (p : Int) else 0) = i32 (p : Int) := by
    by_cases c : p = 0
    · subst c; rfl
    · rw [if_pos (by rw [show (0 : Int32) = i32 0 from rfl, i32_lt (by omega)]; omega)]
  rw [ep]
  refine Eq.trans e1 ?_
  rw [(hv []).1] at e3 ⊢
  have h8 := (stk_top e3).1
  rw [List.length_singleton]
  rw [if_neg (by decide), if_neg (by decide)]
  exact congrArg (fun q => some (q, σ')) h8
def fl1 (c : Int × List Int × List Int) : List Int := c.1 :: (c.2.1.length : Int) :: (c.2.2.length : Int) :: (c.2.1 ++ c.2.2)
def flat : List (Int × List Int × List Int) → List Int
  | [] => []
  | c :: t => fl1 c ++ flat t
def clO (c : Int × List Int × List Int) : Prop := (0 ≤ c.1 ∧ c.1 ≤ 255) ∧ (c.2.1 = [] ∨ WC 18 c.2.1) ∧ WC 18 c.2.2
def lwS (L : Nat → Int64) (lab : Int) : List (Int × List Int × List Int) → Int64
  | [] => 0
  | c :: t => if c.1 = lab ∧ (c.2.1 = [] ∨ ev L c.2.1 ≠ 0) then ev L c.2.2 else lwS L lab t
theorem gd_app {p l : List Int} {i : Nat} : (p ++ l).getD (p.length + i) 0 = l.getD i 0 := gd_r p l i
theorem p_label_L {Z : hZ} {r r4 n F : Nat} {lab : Int} {L : Nat → Int64} (hF : 1000 ≤ F) (hj : jlen r4 = 10) (hb : ob r4 = false) (h84 : r4 ≠ 8) (hn : n ≤ 800) (hz : Z.2.1 (r + 2000) = n) (hlab : 0 ≤ lab ∧ lab ≤ 255) :
    ∀ (cs : List (Int × List Int × List Int)) (p left N : Nat) (σ : hSt), p + (flat cs).length = n → (flat cs).length ≤ left → left ≤ 900 → left < N → (∀ c ∈ cs, clO c) → (∀ i, i < (flat cs).length → Z.2.2.1 (r + 2000) (p + i) = i32 ((flat cs).getD i 0)) → (∀ i, i < 10 → σ.2.1 r4 i = L i) → ∃ σ', f_X3_labelWorth_L14 F Z r r4 (i32 lab) (fun σ1 z7 z8 z9 => (f_X3_reckoned F Z σ1 (r + 2000) (z7 + z8) z9 r4).bind fun q17 => some (q17.1, q17.2)) N σ (i32 (p : Int)) (i32 (left : Int)) = some (lwS L lab cs, σ') ∧ fr [8] σ σ' := by
  intro cs
  induction cs with
  | nil =>
    intro p left N σ h1 h2 h3 h4 h5 h6 h7
    obtain ⟨N, rfl⟩ : ∃ q, N = q + 1 := ⟨N - 1, by omega⟩
    have h1 : p = n := h1
    subst h1
    refine ⟨σ, ?_, fr_rf _ _⟩
    rw [f_X3_labelWorth_L14, hz, lwS]
    simp (disch := omega) only [↓reduceIte, iT_lt, iF_lt, iT_le, iF_le, iT_eq, iF_eq, nT_lt, nF_lt, nT_le, nF_le, nT_eq, nF_eq, and_self, and_true, true_and, and_false, false_and, not_true_eq_false, not_false_eq_true, ne_eq, or_self, or_false, false_or, or_true, true_or, Option.bind_some, i32_lit, i64_lit, i32_add, i32_sub, i32_mul, i32_neg, i64_add, i64_sub, i64_neg, i32_lt, i32_le, i32_eq, i64_lt, i64_le, i64_eq, i32_cn, i32_cl, i32_l, i64_i, i32_nat, Int.toNat_natCast, sI_2, sJ_1, sJ_22, sR_1, sR_21, sI_t, sI_r, sI_j, sJ_t, sJ_r, sJ_j, sR_t, sR_r, sR_j]
    split
    · rfl
    · rfl
  | cons c t ih =>
    obtain ⟨a, C, S⟩ := c
    intro p left N σ h1 h2 h3 h4 h5 h6 h7
    obtain ⟨N, rfl⟩ : ∃ q, N = q + 1 := ⟨N - 1, by omega⟩
    have hlen : (flat ((a, C, S) :: t)).length = 3 + C.length + S.length + (flat t).length := by
      rw [flat, fl1]
      simp only [List.length_append, List.length_cons]
      omega
    rw [hlen] at h1 h2 h6
    obtain ⟨⟨o1, o2⟩, o3, o4⟩ := h5 (a, C, S) List.mem_cons_self
    have o1 : 0 ≤ a := o1
    have o2 : a ≤ 255 := o2
    have o3 : C = [] ∨ WC 18 C := o3
    have o4 : WC 18 S := o4
    have g0 : Z.2.2.1 (r + 2000) p = i32 a := h6 0 (by omega)
    have g1 : Z.2.2.1 (r + 2000) (p + 1) = i32 (C.length : Int) := h6 1 (by omega)
    have g2 : Z.2.2.1 (r + 2000) (p + 2) = i32 (S.length : Int) := h6 2 (by omega)
    have gA : ∀ i, 3 + i < 3 + C.length + S.length + (flat t).length → Z.2.2.1 (r + 2000) (p + 3 + i) = i32 ((C ++ S ++ flat t).getD i 0) := by
      intro i hi
      have := h6 (3 + i) hi
      rw [show p + (3 + i) = p + 3 + i by omega] at this
      rw [this]
      congr 1
      rw [show 3 + i = i + 3 by omega]
      rfl
    have gC : ∀ i, i < C.length → Z.2.2.1 (r + 2000) (p + 3 + i) = i32 (C.getD i 0) := by
      intro i hi
      rw [gA i (by omega), gd_l (by rw [List.length_append]; omega), gd_l hi]
    have gS : ∀ i, i < S.length → Z.2.2.1 (r + 2000) (p + 3 + C.length + i) = i32 (S.getD i 0) := by
      intro i hi
      rw [show p + 3 + C.length + i = p + 3 + (C.length + i) by omega, gA (C.length + i) (by omega), gd_l (by rw [List.length_append]; omega), gd_r]
    have gT : ∀ i, i < (flat t).length → Z.2.2.1 (r + 2000) (p + 3 + C.length + S.length + i) = i32 ((flat t).getD i 0) := by
      intro i hi
      rw [show p + 3 + C.length + S.length + i = p + 3 + ((C ++ S).length + i) by rw [List.length_append]; omega, gA ((C ++ S).length + i) (by rw [List.length_append]; omega), gd_r]
    have next : ∀ σ1 : hSt, fr [8] σ σ1 → ∃ σ', f_X3_labelWorth_L14 F Z r r4 (i32 lab) (fun σ1 z7 z8 z9 => (f_X3_reckoned F Z σ1 (r + 2000) (z7 + z8) z9 r4).bind fun q17 => some (q17.1, q17.2)) N σ1 (i32 ((p + 3 + C.length + S.length : Nat) : Int)) (i32 ((left - 1 : Nat) : Int)) = some (lwS L lab t, σ') ∧ fr [8] σ σ' := by
      intro σ1 hf
      obtain ⟨σ', e1, e2⟩ := ih (p + 3 + C.length + S.length) (left - 1) N σ1 (by omega) (by omega) (by omega) (by omega) (fun c hc => h5 c (List.mem_cons_of_mem _ hc)) gT (fun i hi => by rw [fr_J hf r4 hb (by simp; omega)]; exact h7 i hi)
      exact ⟨σ', e1, fr_tr hf e2⟩
    have found : ∀ σ1 : hSt, fr [8] σ σ1 → ∃ σ', ((f_X3_reckoned F Z σ1 (r + 2000) (i32 ((p + 3 : Nat) : Int) + i32 (C.length : Int)) (i32 (S.length : Int)) r4).bind fun q17 => some (q17.1, q17.2)) = some (ev L S, σ') ∧ fr [8] σ σ' := by
      intro σ1 hf
      obtain ⟨σ', e1, e2⟩ := p_reckoned (Z := Z) (r := r + 2000) (p := p + 3 + C.length) (l := S) (L := L) hF hj hb h84 (by omega) hz (by omega) (by omega) o4 σ1 gS (fun i hi => by rw [fr_J hf r4 hb (by simp; omega)]; exact h7 i hi)
      refine ⟨σ', ?_, fr_tr hf e2⟩
      rw [show i32 ((p + 3 : Nat) : Int) + i32 (C.length : Int) = i32 ((p + 3 + C.length : Nat) : Int) by rw [i32_add]; rfl, e1, obs]
    have ea : i32 (p : Int) + (3 : Int32) = i32 ((p + 3 : Nat) : Int) := by rw [show (3 : Int32) = i32 3 from rfl, i32_add]; rfl
    have ea1 : i32 (p : Int) + (1 : Int32) = i32 ((p + 1 : Nat) : Int) := by rw [show (1 : Int32) = i32 1 from rfl, i32_add]; rfl
    have ea2 : i32 (p : Int) + (2 : Int32) = i32 ((p + 2 : Nat) : Int) := by rw [show (2 : Int32) = i32 2 from rfl, i32_add]; rfl
    have el : i32 (left : Int) + (-1 : Int32) = i32 ((left - 1 : Nat) : Int) := by rw [show (-1 : Int32) = i32 (-1) from rfl, i32_add]; congr 1; omega
    have en : ((i32 ((p + 3 : Nat) : Int)) + i32 (C.length : Int)) + i32 (S.length : Int) = i32 ((p + 3 + C.length + S.length : Nat) : Int) := by rw [i32_add, i32_add]; rfl
    rw [f_X3_labelWorth_L14, hz, lwS, ea, ea1, ea2, el]
    have c0 : ¬ i32 (left : Int) ≤ (0 : Int32) := by rw [show (0 : Int32) = i32 0 from rfl, i32_le (by omega)]; omega
    have c1 : ¬ i32 (p : Int) < (0 : Int32) := by rw [show (0 : Int32) = i32 0 from rfl, i32_lt (by omega)]; omega
    have c2 : ¬ Int32.ofNat n < i32 ((p + 3 : Nat) : Int) := by rw [i32_nat, i32_lt (by omega)]; omega
    rw [if_neg c0, if_neg c1, if_neg c2]
    have cl0 : (i32 (p : Int)).toNatClampNeg = p := by simp (disch := omega) only [↓reduceIte, iT_lt, iF_lt, iT_le, iF_le, iT_eq, iF_eq, nT_lt, nF_lt, nT_le, nF_le, nT_eq, nF_eq, and_self, and_true, true_and, and_false, false_and, not_true_eq_false, not_false_eq_true, ne_eq, or_self, or_false, false_or, or_true, true_or, Option.bind_some, i32_lit, i64_lit, i32_add, i32_sub, i32_mul, i32_neg, i64_add, i64_sub, i64_neg, i32_lt, i32_le, i32_eq, i64_lt, i64_le, i64_eq, i32_cn, i32_cl, i32_l, i64_i, i32_nat, Int.toNat_natCast, sI_2, sJ_1, sJ_22, sR_1, sR_21, sI_t, sI_r, sI_j, sJ_t, sJ_r, sJ_j, sR_t, sR_r, sR_j]
    have cl1 : (i32 ((p + 1 : Nat) : Int)).toNatClampNeg = p + 1 := by simp (disch := omega) only [↓reduceIte, iT_lt, iF_lt, iT_le, iF_le, iT_eq, iF_eq, nT_lt, nF_lt, nT_le, nF_le, nT_eq, nF_eq, and_self, and_true, true_and, and_false, false_and, not_true_eq_false, not_false_eq_true, ne_eq, or_self, or_false, false_or, or_true, true_or, Option.bind_some, i32_lit, i64_lit, i32_add, i32_sub, i32_mul, i32_neg, i64_add, i64_sub, i64_neg, i32_lt, i32_le, i32_eq, i64_lt, i64_le, i64_eq, i32_cn, i32_cl, i32_l, i64_i, i32_nat, Int.toNat_natCast, sI_2, sJ_1, sJ_22, sR_1, sR_21, sI_t, sI_r, sI_j, sJ_t, sJ_r, sJ_j, sR_t, sR_r, sR_j]
    have cl2 : (i32 ((p + 2 : Nat) : Int)).toNatClampNeg = p + 2 := by simp (disch := omega) only [↓reduceIte, iT_lt, iF_lt, iT_le, iF_le, iT_eq, iF_eq, nT_lt, nF_lt, nT_le, nF_le, nT_eq, nF_eq, and_self, and_true, true_and, and_false, false_and, not_true_eq_false, not_false_eq_true, ne_eq, or_self, or_false, false_or, or_true, true_or, Option.bind_some, i32_lit, i64_lit, i32_add, i32_sub, i32_mul, i32_neg, i64_add, i64_sub, i64_neg, i32_lt, i32_le, i32_eq, i64_lt, i64_le, i64_eq, i32_cn, i32_cl, i32_l, i64_i, i32_nat, Int.toNat_natCast, sI_2, sJ_1, sJ_22, sR_1, sR_21, sI_t, sI_r, sI_j, sJ_t, sJ_r, sJ_j, sR_t, sR_r, sR_j]
    rw [cl0, cl1, cl2, g0, g1, g2, en]
    have k1 : ¬ (i32 ((p + 1 : Nat) : Int) < (0 : Int32) ∨ n ≤ p + 1) := by rw [show (0 : Int32) = i32 0 from rfl, i32_lt (by omega)]; omega
    have k2 : ¬ (i32 ((p + 2 : Nat) : Int) < (0 : Int32) ∨ n ≤ p + 2) := by rw [show (0 : Int32) = i32 0 from rfl, i32_lt (by omega)]; omega
    have k0 : ¬ (i32 (p : Int) < (0 : Int32) ∨ n ≤ p) := by rw [show (0 : Int32) = i32 0 from rfl, i32_lt (by omega)]; omega
    rw [if_neg k1, if_neg k2, if_neg k0]
    by_cases d : a = lab
    · rw [if_pos (show i32 a = i32 lab by rw [d])]
      rcases o3 with o3 | o3
      · rw [if_pos (show i32 (C.length : Int) = (0 : Int32) by rw [o3]; rfl), if_pos (show a = lab ∧ (C = [] ∨ ev L C ≠ 0) from ⟨d, Or.inl o3⟩)]
        exact found σ (fr_rf _ _)
      · have hC : C ≠ [] := by
          intro z
          rw [z] at o3
          obtain ⟨v, q⟩ := o3.2 L
          have := (q []).1
          cases this
        have hC2 : 0 < C.length := List.length_pos_iff.2 hC
        obtain ⟨σ1, e1, e2⟩ := p_reckoned (Z := Z) (r := r + 2000) (p := p + 3) (l := C) (L := L) hF hj hb h84 (by omega) hz (by omega) (by omega) o3 σ gC h7
        rw [if_neg (show ¬ i32 (C.length : Int) = (0 : Int32) by rw [show (0 : Int32) = i32 0 from rfl, i32_eq (by omega)]; omega), e1, obs]
        dsimp only
        by_cases q : ev L C = 0
        · rw [if_pos q, if_neg (show ¬ (a = lab ∧ (C = [] ∨ ev L C ≠ 0)) from fun z => by rcases z.2 with y | y; exact hC y; exact y q)]
          exact next σ1 e2
        · rw [if_neg q, if_pos (show a = lab ∧ (C = [] ∨ ev L C ≠ 0) from ⟨d, Or.inr q⟩)]
          exact found σ1 e2
    · rw [if_neg (show ¬ i32 a = i32 lab by rw [i32_eq (by omega)]; exact d), if_neg (show ¬ (a = lab ∧ (C = [] ∨ ev L C ≠ 0)) from fun z => d z.1)]
      exact next σ (fr_rf _ _)
theorem p_labelWorth {Z : hZ} {r r4 n F : Nat} {lab : Int} {L : Nat → Int64} {cs : List (Int × List Int × List Int)} (hF : 1000 ≤ F) (hj : jlen r4 = 10) (hb : ob r4 = false) (h84 : r4 ≠ 8) (hn : n ≤ 800) (hlab : 0 ≤ lab ∧ lab ≤ 255) (hO : ∀ c ∈ cs, clO c) (hl : (flat cs).length = n) (hz : cdZ Z (r + 2000) (flat cs)) (σ : hSt) (hL : ∀ i, i < 10 → σ.2.1 r4 i = L i) : ∃ σ', f_X3_labelWorth F Z σ r (i32 lab) r4 = some (lwS L lab cs, σ') ∧ fr [8] σ σ' := by
  unfold f_X3_labelWorth
  rw [hz.1, hl, i32_nat]
  exact p_label_L hF hj hb h84 hn (by rw [hz.1, hl]) hlab cs 0 n F σ (by omega) (by omega) (by omega) (by omega) hO (fun i hi => by rw [Nat.zero_add]; exact hz.2 i hi) hL
