/-! CONDITIONS, model -/
def bJ (b : Bool) : Int64 := if b = true then 1 else 0
def resC (B : Nat → Nat) (n r bs g : Nat) (L : Nat → Int64) (τ : hSt) (dp : Nat) (rr : PR) (x : Option (Int32 × hSt)) : Prop := ∃ υ b, x = some (b01 b, υ) ∧ fr WV τ υ ∧ (rr.1 = true → okV B n r bs g L υ rr.2.1 dp ∧ ∀ s, evS L rr.2.2 s = bJ b :: s) ∧ (rr.1 = false → υ.1 200 7 = i32 (rr.2.1 : Int))
theorem resC_pre {B : Nat → Nat} {n r bs g dp : Nat} {L : Nat → Int64} {τ τ1 : hSt} {rr : PR} {x : Option (Int32 × hSt)} (hf : fr WV τ τ1) (h : resC B n r bs g L τ1 dp rr x) : resC B n r bs g L τ dp rr x := by
  obtain ⟨υ, w, a1, a2, a3⟩ := h
  exact ⟨υ, w, a1, fr_tr hf a2, a3⟩
theorem resC_0 {B : Nat → Nat} {n r bs g dp p : Nat} {L : Nat → Int64} {τ υ : hSt} {b : Bool} {x : Option (Int32 × hSt)} (hx : x = some (b01 b, υ)) (hf : fr WV τ υ) (h : υ.1 200 7 = i32 (p : Int)) : resC B n r bs g L τ dp (false, p, []) x := ⟨υ, b, hx, hf, (fun z => by cases z), fun _ => h⟩
theorem b01_w (b : Bool) (υ : hSt) : (if b01 b = 0 ∨ b01 b = 1 then some (b01 b, υ) else none) = some (b01 b, υ) := if_pos (b01_or b)
theorem resC_w {B : Nat → Nat} {n r bs g dp : Nat} {L : Nat → Int64} {τ : hSt} {rr : PR} {x : Option (Int32 × hSt)} (h : resC B n r bs g L τ dp rr x) : resC B n r bs g L τ dp rr (x.bind fun q => if q.1 = 0 ∨ q.1 = 1 then some (q.1, q.2) else none) := by
  obtain ⟨υ, b, a1, a2, a3⟩ := h
  refine ⟨υ, b, ?_, a2, a3⟩
  rw [a1, obs]
  exact b01_w b υ
theorem p_isSign {v : Int} (h : -1 ≤ v ∧ v ≤ 255) : f_X12_isSign (i32 v) = some (b01 (isCm v.toNat)) := by
  have h1 : ∀ c : Fin 256, f_X12_isSign (i32 (c.val : Int)) = some (b01 (isCm c.val)) := by decide +kernel
  by_cases c : v = -1
  · subst c; decide
  · have := h1 ⟨v.toNat, by omega⟩
    rw [show i32 v = i32 (v.toNat : Int) by congr 1; omega]
    exact this
/-- the second half of a comparison -/
def cmpP (F : Nat) (Z : hZ) (τ : hSt) (z : Int64) : Option (Int32 × hSt) := (f_X12_look F Z τ).bind fun q16 => (f_X12_isSign q16.1).bind fun q17 => (if q17 = (0 : Int32) then (f_X12_fails Z q16.2).bind fun q25 => if q25.1 = 0 ∨ q25.1 = 1 then some (q25.1, q25.2) else none else (f_X12_reckon F Z (sI q16.2 200 6 ((q16.2.1 200 6) + (1 : Int32)))).bind fun q19 => (if q16.1 = (61 : Int32) then (if z = q19.1 then some ((1 : Int32), q19.2) else some ((0 : Int32), q19.2)) else (if q16.1 = (60 : Int32) then (if q19.1 ≤ z then some ((0 : Int32), q19.2) else some ((1 : Int32), q19.2)) else (if z ≤ q19.1 then some ((0 : Int32), q19.2) else some ((1 : Int32), q19.2)))))
theorem wk_61 (x y : Int64) : wk (i32 61) x y = if x = y then 1 else 0 := by
  have : f_X3_worked (i32 61) x y = (if x = y then some 1 else some 0) := rfl
  unfold wk; rw [this]; split <;> rfl
theorem wk_60 (x y : Int64) : wk (i32 60) x y = if y ≤ x then 0 else 1 := by
  have : f_X3_worked (i32 60) x y = (if y ≤ x then some 0 else some 1) := rfl
  unfold wk; rw [this]; split <;> rfl
theorem wk_62 (x y : Int64) : wk (i32 62) x y = if x ≤ y then 0 else 1 := by
  have : f_X3_worked (i32 62) x y = (if x ≤ y then some 0 else some 1) := rfl
  unfold wk; rw [this]; split <;> rfl
theorem cmp_v {c : Nat} {z w : Int64} {υ : hSt} (hc : c = 61 ∨ c = 60 ∨ c = 62) : ∃ b, (if i32 (c : Int) = (61 : Int32) then (if z = w then some ((1 : Int32), υ) else some ((0 : Int32), υ)) else (if i32 (c : Int) = (60 : Int32) then (if w ≤ z then some ((0 : Int32), υ) else some ((1 : Int32), υ)) else (if z ≤ w then some ((0 : Int32), υ) else some ((1 : Int32), υ)))) = some (b01 b, υ) ∧ wk (i32 (c : Int)) z w = bJ b := by
  rcases hc with rfl | rfl | rfl
  · rw [if_pos (show i32 ((61 : Nat) : Int) = (61 : Int32) from rfl), show i32 ((61 : Nat) : Int) = i32 61 from rfl, wk_61]
    by_cases e : z = w
    · rw [if_pos e, if_pos e]; exact ⟨true, rfl, rfl⟩
    · rw [if_neg e, if_neg e]; exact ⟨false, rfl, rfl⟩
  · rw [if_neg (show ¬ i32 ((60 : Nat) : Int) = (61 : Int32) by decide), if_pos (show i32 ((60 : Nat) : Int) = (60 : Int32) from rfl), show i32 ((60 : Nat) : Int) = i32 60 from rfl, wk_60]
    by_cases e : w ≤ z
    · rw [if_pos e, if_pos e]; exact ⟨false, rfl, rfl⟩
    · rw [if_neg e, if_neg e]; exact ⟨true, rfl, rfl⟩
  · rw [if_neg (show ¬ i32 ((62 : Nat) : Int) = (61 : Int32) by decide), if_neg (show ¬ i32 ((62 : Nat) : Int) = (60 : Int32) by decide), show i32 ((62 : Nat) : Int) = i32 62 from rfl, wk_62]
    by_cases e : z ≤ w
    · rw [if_pos e, if_pos e]; exact ⟨false, rfl, rfl⟩
    · rw [if_neg e, if_neg e]; exact ⟨true, rfl, rfl⟩
theorem p_mcmp {B : Nat → Nat} {n r bs g d dp p F : Nat} {L : Nat → Int64} {Z : hZ} {τ : hSt} {acc : List Int} {z : Int64} (hF : 300 ≤ F) (hg : g ≤ 1) (hd : dp + d = 6) (h : okV B n r bs g L τ p dp) (ha : ∀ s, evS L acc s = z :: s) : resC B n r bs g L τ dp (cmp B n g d p acc) (cmpP F Z τ z) := by
  obtain ⟨τ1, t0, e1, e2, f1, h1, e3⟩ := look2 (Z := Z) hF h
  have hB := txM_b h.1
  have hk := lk_cases (q := sk B n p) hB
  have hcm : isCm (lkV B n (sk B n p)).toNat = isCm (pk B n (sk B n p)) := by
    by_cases z0 : pk B n (sk B n p) = 0
    · rw [hk.2.2.2 z0, z0]; rfl
    · rw [hk.2.2.1 (by omega)]; rfl
  unfold cmpP cmp
  rw [e1, obs]
  dsimp only
  rw [p_isSign ⟨hk.1, hk.2.1⟩, obs, hcm]
  by_cases c : isCm (pk B n (sk B n p)) = true
  · have hc := isCm_cs c
    have hlt := pkp_lt (show pk B n (sk B n p) ≠ 0 by omega)
    rw [if_pos c, c, b01t, if_neg n10, e3, hk.2.2.1 (by omega)]
    obtain ⟨υ, w, b1, b2, b3, b4⟩ := p_mreckon (Z := Z) hF hg hd (okV_at h (show sk B n p + 1 ≤ n from hlt))
    obtain ⟨b, v1, v2⟩ := cmp_v (z := z) (w := w) (υ := υ) hc
    rw [b1, obs]
    dsimp only
    rw [v1]
    by_cases e : (tT B n g d (sk B n p + 1)).1 = true
    · obtain ⟨c1, c2, c3⟩ := b3 e
      rw [if_pos e]
      refine ⟨υ, b, rfl, fr_tr (fr6 _ _) b2, fun _ => ⟨c1, fun s => ?_⟩, fun z => by cases z⟩
      rw [← v2]
      exact evS_bin ha c3 (by omega) s
    · have e' : (tT B n g d (sk B n p + 1)).1 = false := by cases h : (tT B n g d (sk B n p + 1)).1 with
        | false => rfl
        | true => exact absurd h e
      rw [if_neg e]
      exact resC_0 rfl (fr_tr (fr6 _ _) b2) (b4 e')
  · have c' : isCm (pk B n (sk B n p)) = false := by cases h : isCm (pk B n (sk B n p)) with
      | false => rfl
      | true => exact absurd h c
    rw [if_neg c, c', b01f, if_pos rfl, okV_f h1, obs]
    exact resC_0 (b := false) (if_pos (Or.inl rfl)) (fr_tr f1 (fr7 _ _)) (sI_t _ _ ⟨rfl, rfl⟩)
theorem p_mcomp1 {B : Nat → Nat} {n r bs g p F : Nat} {L : Nat → Int64} {Z : hZ} {τ : hSt} {acc : List Int} {z : Int64} (hF : 300 ≤ F) (hg : g ≤ 1) (h : okV B n r bs g L τ p 0) (ha : ∀ s, evS L acc s = z :: s) : resC B n r bs g L τ 0 (cmp B n g 6 p acc) (f_X12_compares F Z τ 1 z) := by
  unfold f_X12_compares
  rw [if_neg n10, h.2.1, if_pos m1]
  exact p_mcmp hF hg rfl h ha
theorem p_mcomp0 {B : Nat → Nat} {n r bs g d dp p F : Nat} {L : Nat → Int64} {Z : hZ} {τ : hSt} (hF : 300 ≤ F) (hg : g ≤ 1) (hd : dp + d = 6) (h : okV B n r bs g L τ p dp) : resC B n r bs g L τ dp (sCm B n g d p) (f_X12_compares F Z τ 0 0) := by
  obtain ⟨υ, w, b1, b2, b3, b4⟩ := p_mreckon (Z := Z) hF hg hd h
  obtain ⟨g1, g2⟩ := tT_PG B n g hg d p h.1.2.1
  have hn := h.1.1
  unfold f_X12_compares sCm
  rw [if_pos rfl, b1, obs]
  dsimp only
  by_cases e : (tT B n g d p).1 = true
  · obtain ⟨c1, c2, c3⟩ := b3 e
    rw [if_pos e, c1.2.1, if_pos m1]
    exact resC_pre b2 (p_mcmp hF hg hd c1 c3)
  · have e' : (tT B n g d p).1 = false := by cases h : (tT B n g d p).1 with
      | false => rfl
      | true => exact absurd h e
    rw [if_neg e, if_neg (f_ne (by omega) (b4 e'))]
    exact resC_0 (b := false) rfl b2 (b4 e')
