theorem p_mbound {B : Nat → Nat} {n k0 s F nn : Nat} {P : Int} {sp : Nat → Int} {Z : hZ} {τ : hSt} (x : Int32) (hF : 300 ≤ F) (hP : 1 ≤ P) (h : sitM B n k0 s (nn : Int) P sp τ) : ∃ υ, fr (213 :: WG) τ υ ∧ sitM B n k0 s (nn : Int) P sp υ ∧ ((f_X12_product F Z τ (i32 (s : Int)) (i32 (k0 : Int)) (i32 P)).bind fun q8 => (if q8.1 = (0 : Int64) then some ((-1 : Int64), q8.2) else (f_X12_asksEnd F Z q8.2 (i32 (k0 : Int)) (i32 (s : Int)) (i32 P)).bind fun q10 => (if q10.1 = (0 : Int32) then some ((1 : Int64), q10.2) else f_X12_bound_L92 F Z x (i32 (s : Int)) (i32 (k0 : Int)) (i32 P) q8.1 (fun σ1 z8 => (f_X12_fraction F (if q8.1 < z8 then q8.1 else z8) q8.1 x).bind fun q19 => some (q19, σ1)) F q10.2 0 0))) = some (if pdI nn P sp (tZc B n 0) nn 0 1 = 0 then (-1 : Int64) else if x = (0 : Int32) then i64 ((bdN nn P sp (tZc B n 0)).toNat / Nat.gcd (pdI nn P sp (tZc B n 0) nn 0 1).toNat (bdN nn P sp (tZc B n 0)).toNat : Nat) else i64 ((pdI nn P sp (tZc B n 0) nn 0 1).toNat / Nat.gcd (pdI nn P sp (tZc B n 0) nn 0 1).toNat (bdN nn P sp (tZc B n 0)).toNat : Nat), υ) := by
  have hN := h.2.2.2.1
  obtain ⟨υ1, e1, e2, e3⟩ := p_mprodL (Z := Z) hF hP nn 0 F τ 1 (by omega) (by omega) (by omega) (by omega) h
  unfold f_X12_product
  rw [show f_X12_product_L6 F Z (i32 (s : Int)) (i32 (k0 : Int)) (i32 P) F τ 1 0 = _ from e3, obs]
  dsimp only
  by_cases c : pdI nn P sp (tZc B n 0) nn 0 1 = 0
  · rw [if_pos (show i64 (pdI nn P sp (tZc B n 0) nn 0 1) = (0 : Int64) by rw [c]; rfl), if_pos c]
    exact ⟨υ1, e1, e2, rfl⟩
  · have hsp := h.2.2.2.2.2.2
    obtain ⟨b1, b2, b3, b4⟩ := bl_le (N := nn) (sp := sp) (cs := tZc B n 0) hP (fun j hj => (hsp j hj).2.1) nn 0 1 1 (by omega) (by omega) (by omega) (by omega) (by omega) c
    have nr := nu_rg (N := nn) (sp := sp) (cs := tZc B n 0) hP (fun j hj => (hsp j hj).2) nn 0 0 1 (by omega) (by omega) (by omega) (by omega) (by omega) c
    have hbu := bu_nu (N := nn) (sp := sp) (cs := tZc B n 0) (D := pdI nn P sp (tZc B n 0) nn 0 1) hP nn 0 0 0 1 (by omega) rfl c (by omega)
    obtain ⟨υ2, u1, u2, u3⟩ := p_masksEnd (Z := Z) hF e2
    rw [if_neg (show ¬ i64 (pdI nn P sp (tZc B n 0) nn 0 1) = (0 : Int64) by rw [show (0 : Int64) = i64 0 from rfl, i64_eq (by omega)]; exact c), if_neg c, u1, obs]
    dsimp only
    have hp : pdI nn P sp (tZc B n 0) nn 0 1 = ((pdI nn P sp (tZc B n 0) nn 0 1).toNat : Int) := by omega
    cases d : asI nn P sp (tZc B n 0) 101 (nn : Int).toNat with
    | false =>
      rw [Int.toNat_natCast] at d
      have hb : bdN nn P sp (tZc B n 0) = pdI nn P sp (tZc B n 0) nn 0 1 := by unfold bdN; rw [if_neg (by rw [d]; decide)]
      rw [b01f, if_pos rfl, hb, Nat.gcd_self, Nat.div_self (by omega), ite_self]
      exact ⟨υ2, fr_tr e1 u2, u3, rfl⟩
    | true =>
      rw [Int.toNat_natCast] at d
      have hb : bdN nn P sp (tZc B n 0) = if pdI nn P sp (tZc B n 0) nn 0 1 < nuI nn P sp (tZc B n 0) nn 0 0 1 then pdI nn P sp (tZc B n 0) nn 0 1 else nuI nn P sp (tZc B n 0) nn 0 0 1 := by unfold bdN; rw [if_pos d]
      have hb2 : bdN nn P sp (tZc B n 0) = ((bdN nn P sp (tZc B n 0)).toNat : Int) ∧ bdN nn P sp (tZc B n 0) ≤ 1000000000000000 := by
        rw [hb]
        split <;> omega
      have hb3 : (if i64 (pdI nn P sp (tZc B n 0) nn 0 1) < i64 (nuI nn P sp (tZc B n 0) nn 0 0 1) then i64 (pdI nn P sp (tZc B n 0) nn 0 1) else i64 (nuI nn P sp (tZc B n 0) nn 0 0 1)) = i64 (bdN nn P sp (tZc B n 0)) := by
        rw [hb]
        by_cases f : pdI nn P sp (tZc B n 0) nn 0 1 < nuI nn P sp (tZc B n 0) nn 0 0 1
        · rw [if_pos (show i64 (pdI nn P sp (tZc B n 0) nn 0 1) < i64 (nuI nn P sp (tZc B n 0) nn 0 0 1) by rw [i64_lt (by omega)]; exact f), if_pos f]
        · rw [if_neg (show ¬ i64 (pdI nn P sp (tZc B n 0) nn 0 1) < i64 (nuI nn P sp (tZc B n 0) nn 0 0 1) by rw [i64_lt (by omega)]; exact f), if_neg f]
      obtain ⟨υ3, w1, w2, w3⟩ := p_mboundL (Z := Z) (y2 := x) (D := pdI nn P sp (tZc B n 0) nn 0 1) (K := fun σ1 z8 => (f_X12_fraction F (if i64 (pdI nn P sp (tZc B n 0) nn 0 1) < z8 then i64 (pdI nn P sp (tZc B n 0) nn 0 1) else z8) (i64 (pdI nn P sp (tZc B n 0) nn 0 1)) x).bind fun q19 => some (q19, σ1)) hF hP (by omega) nn 0 F υ2 0 (by omega) (by omega) u3
      have w4 := p_frac (F := F) (a := (bdN nn P sp (tZc B n 0)).toNat) (b := (pdI nn P sp (tZc B n 0) nn 0 1).toNat) hF (by omega) (by omega) x
      rw [← hb2.1, ← hp] at w4
      refine ⟨υ3, fr_tr e1 (fr_tr u2 w1), w2, ?_⟩
      rw [b01t, if_neg n10]
      refine Eq.trans w3 ?_
      rw [hbu]
      rw [hb3, w4, obs]
