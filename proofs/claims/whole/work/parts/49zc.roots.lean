/-! most roots of a round: class and model alike -/
theorem mn_v {a b : Int} (ha : -1000000000 ≤ a ∧ a ≤ 1000000010) (hb : -1000000000 ≤ b ∧ b ≤ 1000000010) : (if i32 a < i32 b then i32 a else i32 b) = i32 (if a < b then a else b) := by
  by_cases c : a < b
  · rw [if_pos (show i32 a < i32 b by rw [i32_lt (by omega)]; exact c), if_pos c]
  · rw [if_neg (show ¬ i32 a < i32 b by rw [i32_lt (by omega)]; exact c), if_neg c]
theorem p_roots {Z : hZ} {σ : hSt} {s t F i : Nat} {N P : Int} {sp : Nat → Int} {cs : Cls} (hF : 1000 ≤ F) (hi : i < 6) (hP : 1 ≤ P) (h : sitH Z σ s t N P sp cs) : ∃ σ', f_X0_mostRoots F Z σ (i32 (i : Int)) = some (i32 (rtI N P sp cs i), σ') ∧ fr [8, 13] σ σ' ∧ sitH Z σ' s t N P sp cs := by
  obtain ⟨σ1, e1, e2, e3⟩ := p_dice (i := i) hF (by omega) hP h
  obtain ⟨σ2, u1, u2, u3⟩ := p_asks (i := i) hF (by omega) e3
  have hd := dcI_rg (N := N) (sp := sp) (cs := cs) (i := i) hP
  have hP2 := h.2.2.2.2.2.2.2.1
  have hsp := h.2.2.2.2.2.2.2.2.2.1 i hi
  refine ⟨σ2, ?_, fr_tr e2 u2, u3⟩
  unfold f_X0_mostRoots rtI
  rw [e1, obs]
  dsimp only
  rw [u1, obs]
  dsimp only
  by_cases c : asI N P sp cs 99 i = true
  · rw [c, b01t, if_neg n10, if_pos rfl, p_steepOf (sp := sp) u3.1 u3.2.1 u3.2.2.2.2.2.2.2.2.1 (fun j hj => (u3.2.2.2.2.2.2.2.2.2.1 j hj).1) hi, obs]
    rw [show i32 (dcI N P sp cs i) - (1 : Int32) = i32 (dcI N P sp cs i - 1) by rw [show (1 : Int32) = i32 1 from rfl, i32_sub]]
    have e : (if (1 : Int32) < i32 (dcI N P sp cs i - 1) then i32 (dcI N P sp cs i - 1) else (1 : Int32)) = i32 (if 1 < dcI N P sp cs i - 1 then dcI N P sp cs i - 1 else 1) := by
      by_cases x : 1 < dcI N P sp cs i - 1
      · rw [if_pos (show (1 : Int32) < i32 (dcI N P sp cs i - 1) by rw [show (1 : Int32) = i32 1 from rfl, i32_lt (by omega)]; exact x), if_pos x]
      · rw [if_neg (show ¬ (1 : Int32) < i32 (dcI N P sp cs i - 1) by rw [show (1 : Int32) = i32 1 from rfl, i32_lt (by omega)]; exact x), if_neg x]; rfl
    rw [e, mn_v (by split <;> omega) (by omega)]
  · have c' : asI N P sp cs 99 i = false := by cases h : asI N P sp cs 99 i with
      | false => rfl
      | true => exact absurd h c
    rw [c', b01f, if_pos rfl, if_neg (by decide)]
theorem p_mroots {B : Nat → Nat} {n k s F i : Nat} {N P : Int} {sp : Nat → Int} {Z : hZ} {τ : hSt} (hF : 300 ≤ F) (hi : i < 6) (hP : 1 ≤ P) (h : sitM B n k s N P sp τ) : ∃ υ, f_X12_rootsIn F Z τ (i32 (s : Int)) (i32 (k : Int)) (i32 P) (i32 (i : Int)) = some (i32 (rtI N P sp (tZc B n 0) i), υ) ∧ fr (213 :: WG) τ υ ∧ sitM B n k s N P sp υ := by
  obtain ⟨υ1, e1, e2, e3⟩ := p_mdraws (Z := Z) (i := i) hF (by omega) hP h
  obtain ⟨υ2, u1, u2, u3⟩ := p_masks (Z := Z) (i := i) hF (by omega) e3
  have hd := dcI_rg (N := N) (sp := sp) (cs := tZc B n 0) (i := i) hP
  have hP2 := h.2.2.2.2.1
  have hs := h.2.2.1
  obtain ⟨q1, q2⟩ := u3.2.2.2.2.2.2 i hi
  refine ⟨υ2, ?_, fr_tr e2 u2, u3⟩
  unfold f_X12_rootsIn rtI
  rw [e1, obs]
  dsimp only
  rw [u1, obs]
  dsimp only
  by_cases c : asI N P sp (tZc B n 0) 99 i = true
  · have e6 : (6 : Int32) * i32 (s : Int) + i32 (i : Int) = i32 ((6 * s + i : Nat) : Int) := by rw [show (6 : Int32) = i32 6 from rfl, i32_mul, i32_add]; congr 1
    have d6 : ¬ (i32 ((6 * s + i : Nat) : Int) < (0 : Int32) ∨ 126 ≤ 6 * s + i) := by rw [show (0 : Int32) = i32 0 from rfl, i32_lt (by omega)]; omega
    rw [c, b01t, if_neg n10, if_pos rfl, e6, i32_cn (by omega), if_neg d6, q1, show (1 : Int32) = i32 1 from rfl, i32_sub, mn_v (by omega) (by omega), mn_v (by omega) (by omega)]
    by_cases x : dcI N P sp (tZc B n 0) i = 1
    · rw [if_pos (show i32 (dcI N P sp (tZc B n 0) i) = i32 1 by rw [x]), x]
      rfl
    · rw [if_neg (show ¬ i32 (dcI N P sp (tZc B n 0) i) = i32 1 by rw [i32_eq (by omega)]; exact x)]
      have : (if 1 < dcI N P sp (tZc B n 0) i - 1 then dcI N P sp (tZc B n 0) i - 1 else 1) = dcI N P sp (tZc B n 0) i - 1 := by split <;> omega
      rw [this]
  · have c' : asI N P sp (tZc B n 0) 99 i = false := by cases h : asI N P sp (tZc B n 0) 99 i with
      | false => rfl
      | true => exact absurd h c
    rw [c', b01f, if_pos rfl, if_neg (by decide)]
