/-! the kernel's search, and that nothing slips through it -/
def NN : Nat := 1000000007
def dInv : Nat → Nat → Nat → Nat
  | 0, _, _ => 0
  | f + 1, D, M => bif Nat.ble (D % M) 1 then D % M else (M * (D % M - dInv f M (D % M)) + 1) / (D % M)
def leafK (D M R : Nat) : Nat → Nat → Bool
  | 0, _ => false
  | f + 1, m => bif Nat.blt R m then true else nBad (D * m) && leafK D M R f (m + M)
theorem leaf_ok {D M R : Nat} : ∀ f m, leafK D M R f m = true → ∀ t, m + t * M ≤ R → nBad (D * (m + t * M)) = true
  | 0, m, h => by simp [leafK] at h
  | f + 1, m, h => by
    intro t ht
    rw [leafK] at h
    have hm : Nat.blt R m = false := by
      cases hb : Nat.blt R m with
      | false => rfl
      | true =>
        have : m ≤ m + t * M := Nat.le_add_right _ _
        have := Nat.blt_eq.mp hb
        omega
    rw [hm] at h
    simp only [cond_false, Bool.and_eq_true] at h
    cases t with
    | zero => rw [Nat.zero_mul, Nat.add_zero]; exact h.1
    | succ t =>
      have := leaf_ok f (m + M) h.2 t (by rw [Nat.add_mul, Nat.one_mul] at ht; omega)
      rw [show m + (t + 1) * M = m + M + t * M by rw [Nat.add_mul, Nat.one_mul]; omega]
      exact this
def nodeK (T : Nat) (rc : Nat → Nat → List (Nat × Nat) → Bool) (D M : Nat) (l : List (Nat × Nat)) : Bool :=
  bif Nat.blt NN D then true else bif !(Nat.beq (Nat.gcd D M) 1) then true else bif Nat.ble (NN / D / M) T then (Nat.blt (dInv 60 D M) M && Nat.beq (D * dInv 60 D M % M) 1 && leafK D M (NN / D) (T + 3) (dInv 60 D M)) else nBad D && rc D M l
def walkK (T : Nat) (rc : Nat → Nat → List (Nat × Nat) → Bool) (D M : Nat) : List (Nat × Nat) → Bool
  | [] => true
  | e :: l => nodeK T rc (D * e.1) (M * e.2 / Nat.gcd M e.2) (e :: l) && walkK T rc D M l
def dfsK (T : Nat) : Nat → Nat → Nat → List (Nat × Nat) → Bool
  | 0 => fun _ _ _ => false
  | f + 1 => walkK T (dfsK T f)
def gdE (e : Nat × Nat) : Prop := 2 ≤ e.1 ∧ ∀ x, fE e.1 x → e.2 ∣ x
theorem node_ok {T : Nat} {rc : Nat → Nat → List (Nat × Nat) → Bool} {D M : Nat} {l : List (Nat × Nat)} (h : nodeK T rc D M l = true) (hD : 2 ≤ D) {m : Nat} (hm : 1 ≤ m) (hN : D * m ≤ NN) (hs : sOK (D * m)) (h3 : 3 ≤ D * m) (hM : M ∣ D * m - 1) : 2 ≤ m ∧ rc D M l = true := by
  unfold nodeK at h
  have hle : D ≤ D * m := Nat.le_mul_of_pos_right D hm
  have c1 : Nat.blt NN D = false := by
    cases hb : Nat.blt NN D with
    | false => rfl
    | true => have := Nat.blt_eq.mp hb; omega
  rw [c1] at h
  simp only [cond_false] at h
  have c2 : Nat.beq (Nat.gcd D M) 1 = true := by
    have h1 : Nat.gcd D M ∣ D * m := Nat.dvd_mul_right_of_dvd (Nat.gcd_dvd_left D M) m
    have h2 : Nat.gcd D M ∣ D * m - 1 := Nat.dvd_trans (Nat.gcd_dvd_right D M) hM
    have h4 := Nat.dvd_sub h1 h2
    rw [show D * m - (D * m - 1) = 1 by omega] at h4
    rw [Nat.dvd_one.mp h4]
    rfl
  rw [c2] at h
  simp only [Bool.not_true, cond_false] at h
  cases c3 : Nat.ble (NN / D / M) T with
  | true =>
    exfalso
    rw [c3] at h
    simp only [cond_true, Bool.and_eq_true] at h
    obtain ⟨⟨h1, h2⟩, h4⟩ := h
    generalize dInv 60 D M = m0 at h1 h2 h4
    have h1 := Nat.blt_eq.mp h1
    have h2 := Nat.eq_of_beq_eq_true h2
    obtain ⟨k, hk⟩ := hM
    have e1 : D * m = 1 + M * k := by omega
    have e2 : m % M = m0 := by
      have a : (m * (D * m0)) % M = m % M := by
        rw [Nat.mul_mod, h2, Nat.mul_one, Nat.mod_mod]
      have b : (m * (D * m0)) = m0 + M * (k * m0) := by
        rw [show m * (D * m0) = (D * m) * m0 by grind, e1]
        grind
      rw [b, Nat.add_mul_mod_self_left, Nat.mod_eq_of_lt h1] at a
      exact a.symm
    have e3 : m = m0 + m / M * M := by
      have := Nat.mod_add_div m M
      rw [e2, Nat.mul_comm] at this
      exact this.symm
    have e4 : m ≤ NN / D := (Nat.le_div_iff_mul_le (by omega)).mpr (by rw [Nat.mul_comm]; exact hN)
    have := leaf_ok _ _ h4 (m / M) (by rw [← e3]; exact e4)
    rw [← e3] at this
    exact nBad_not h3 this hs
  | false =>
    rw [c3] at h
    simp only [cond_false, Bool.and_eq_true] at h
    refine ⟨?_, h.2⟩
    by_cases e : m = 1
    · exfalso
      subst e
      rw [Nat.mul_one] at hs h3
      exact nBad_not h3 h.1 hs
    · omega
theorem dfs_ok {T : Nat} : ∀ f l D M, dfsK T f D M l = true → (∀ e, e ∈ l → gdE e) → 1 ≤ D → ∀ m, 2 ≤ m → (∀ q, nPr q → q ∣ m → ∃ L, (q, L) ∈ l) → D * m ≤ NN → sOK (D * m) → 3 ≤ D * m → M ∣ D * m - 1 → False := by
  intro f
  induction f with
  | zero => intro l D M h; exact absurd (show false = true from h) (by decide)
  | succ f ih =>
    intro l
    induction l with
    | nil =>
      intro D M _ _ _ m hm hq
      obtain ⟨p, hp, hd⟩ := nPr.ex m m (Nat.le_refl _) hm
      obtain ⟨L, hL⟩ := hq p hp hd
      exact absurd hL (by simp)
    | cons e l ihl =>
      intro D M h hg hD m hm hq hN hs h3 hM
      have h : (nodeK T (dfsK T f) (D * e.1) (M * e.2 / Nat.gcd M e.2) (e :: l) && walkK T (dfsK T f) D M l) = true := h
      rw [Bool.and_eq_true] at h
      have he := hg e List.mem_cons_self
      by_cases c : e.1 ∣ m
      · obtain ⟨m', hm'⟩ := c
        have ea : D * m = D * e.1 * m' := by rw [hm', Nat.mul_assoc]
        rw [ea] at hN hs h3 hM
        have hm0 : 1 ≤ m' := by
          rcases Nat.eq_zero_or_pos m' with q | q
          · rw [q] at hm'; omega
          · exact q
        have hD2 : 2 ≤ D * e.1 := by
          have : 1 * e.1 ≤ D * e.1 := Nat.mul_le_mul_right _ hD
          have := he.1
          omega
        have hL : e.2 ∣ D * e.1 * m' - 1 := he.2 _ (fE_of h3 hs ⟨D * m', by grind⟩)
        have hM2 : M * e.2 / Nat.gcd M e.2 ∣ D * e.1 * m' - 1 := Nat.lcm_dvd hM hL
        obtain ⟨k1, k2⟩ := node_ok h.1 hD2 hm0 hN hs h3 hM2
        exact ih (e :: l) _ _ k2 hg (by omega) m' k1 (fun q hq1 hq2 => hq q hq1 (by rw [hm']; exact Nat.dvd_mul_left_of_dvd hq2 _)) hN hs h3 hM2
      · refine ihl D M h.2 (fun x hx => hg x (List.mem_cons_of_mem _ hx)) hD m hm (fun q hq1 hq2 => ?_) hN hs h3 hM
        obtain ⟨L, hL⟩ := hq q hq1 hq2
        rcases List.mem_cons.mp hL with r | r
        · exfalso; apply c; rw [← r]; exact hq2
        · exact ⟨L, r⟩
/-! the three ways -/
def topE (T : Nat) (l : List (Nat × Nat)) (e : Nat × Nat) : Bool := dfsK T 40 e.1 e.2 (l.filter (fun x => Nat.ble x.1 e.1))
def leafE (e : Nat × Nat × List Nat) : Bool := leafK e.1 e.2.1 (NN / e.1) (NN / e.1 / e.2.1 + 3) (1 + e.2.1)
theorem leafE_ok {P L m : Nat} {fs : List Nat} (h : leafE (P, L, fs) = true) (hg : ∀ x, fE P x → L ∣ x) (hp : nPr P) (hm : 2 ≤ m) (hN : P * m ≤ NN) (hs : sOK (P * m)) (h3 : 3 ≤ P * m) : False := by
  obtain ⟨k, hk⟩ := hg _ (fE_cof hp (by omega) (fE_of h3 hs (Nat.dvd_mul_right P m)))
  have hk0 : k ≠ 0 := by intro q; rw [q] at hk; omega
  have e : m = 1 + L + (k - 1) * L := by
    obtain ⟨j, rfl⟩ : ∃ j, k = j + 1 := ⟨k - 1, by omega⟩
    rw [Nat.mul_add, Nat.mul_one, Nat.mul_comm L j] at hk
    rw [Nat.add_sub_cancel]
    omega
  have e4 : m ≤ NN / P := (Nat.le_div_iff_mul_le hp.pos).mpr (by rw [Nat.mul_comm]; exact hN)
  have := leaf_ok _ _ h (k - 1) (by rw [← e]; exact e4)
  rw [← e] at this
  exact nBad_not h3 this hs
/-- what is left of g without its common parts with Q -/
def strip (Q : Nat) : Nat → Nat → Nat
  | 0, g => g
  | f + 1, g => bif Nat.beq (Nat.gcd g Q) 1 then g else strip Q f (g / Nat.gcd g Q)
theorem strip_dvd {Q P : Nat} (hp : nPr P) (hQ : ¬ P ∣ Q) : ∀ f g, P ∣ g → P ∣ strip Q f g
  | 0, g, h => h
  | f + 1, g, h => by
    rw [strip]
    cases Nat.beq (Nat.gcd g Q) 1 with
    | true => exact h
    | false =>
      simp only [cond_false]
      refine strip_dvd hp hQ f _ ?_
      have e := Nat.div_mul_cancel (Nat.gcd_dvd_left g Q)
      rw [← e] at h
      rcases hp.euclid h with q | q
      · exact q
      · exact absurd (Nat.dvd_trans q (Nat.gcd_dvd_right g Q)) hQ
def gA (Q m : Nat) : Nat := strip Q 14 (Nat.gcd (2 ^ (m - 1) - 1) (7 ^ (m - 1) - 1))
/-- no prime above 31622 goes with this odd number -/
def chkA (Q m : Nat) (ps : List Nat) : Bool := let h := gA Q m; bif Nat.beq h 1 then true else (let g := Nat.gcd h (61 ^ (m - 1) - 1); Nat.beq (prodL ps) g && Nat.beq (Nat.gcd g Q) 1 && ps.all (fun p => Nat.blt p 1000014129 && Nat.ble 1 p && (Nat.blt NN (p * m) || nBad (p * m))))
theorem fE_pred {P e : Nat} (hP : 2 ≤ P) (h : fE P e) : P ∣ 2 ^ e - 1 ∧ P ∣ 7 ^ e - 1 ∧ P ∣ 61 ^ e - 1 := by
  have : ∀ a, a ^ e % P = 1 % P → P ∣ a ^ e - 1 := fun a q => Nat.dvd_of_mod_eq_zero (Nat.sub_mod_eq_zero_of_mod_eq q)
  exact ⟨this 2 h.1, this 7 h.2.1, this 61 h.2.2⟩
theorem prodL_mem {p : Nat} : ∀ {l : List Nat}, p ∈ l → p ∣ prodL l
  | [], h => absurd h (by simp)
  | a :: l, h => by
    rcases List.mem_cons.mp h with r | r
    · rw [r]; exact Nat.dvd_mul_right _ _
    · exact Nat.dvd_mul_left_of_dvd (prodL_mem r) _
theorem chkA_ok {Q P m : Nat} {ps : List Nat} (h : chkA Q m ps = true) (hp : nPr P) (hP : 31622 < P) (hQ : ¬ P ∣ Q) (hQ2 : ∀ q, nPr q → q ≤ 31622 → q ∣ Q) (hm : 2 ≤ m) (hN : P * m ≤ NN) (hs : sOK (P * m)) (h3 : 3 ≤ P * m) : False := by
  have hf := fE_cof hp (by omega) (fE_of h3 hs (Nat.dvd_mul_right P m))
  obtain ⟨a2, a7, a61⟩ := fE_pred (by omega) hf
  have hh : P ∣ gA Q m := strip_dvd hp hQ 14 _ (Nat.dvd_gcd a2 a7)
  unfold chkA at h
  cases c : Nat.beq (gA Q m) 1 with
  | true =>
    have := Nat.eq_of_beq_eq_true c
    rw [this] at hh
    have := Nat.le_of_dvd (by decide) hh
    omega
  | false =>
    simp only [c, cond_false, Bool.and_eq_true] at h
    obtain ⟨⟨b1, b2⟩, b3⟩ := h
    have b1 := Nat.eq_of_beq_eq_true b1
    have b2 := Nat.eq_of_beq_eq_true b2
    have hg : P ∣ prodL ps := by rw [b1]; exact Nat.dvd_gcd hh a61
    obtain ⟨p, hpm, hpp⟩ := prodL_dvd hp ps hg
    have b4 := List.all_eq_true.mp b3 p hpm
    simp only [Bool.and_eq_true, Bool.or_eq_true] at b4
    obtain ⟨⟨b5, b7⟩, b6⟩ := b4
    have b5 := Nat.blt_eq.mp b5
    have b7 := Nat.ble_eq.mp b7
    obtain ⟨t, ht⟩ := hpp
    have ht1 : t = 1 := by
      refine Classical.byContradiction fun hc => ?_
      have ht0 : t ≠ 0 := by intro q; rw [q] at ht; omega
      have ht2 : t ≤ 31622 := by
        rcases Nat.lt_or_ge 31622 t with q | q
        · have : 31623 * 31623 ≤ P * t := Nat.mul_le_mul hP q
          omega
        · exact q
      obtain ⟨q, hq, hqt⟩ := nPr.ex t t (Nat.le_refl _) (by omega)
      have hq2 := hQ2 q hq (Nat.le_trans (Nat.le_of_dvd (by omega) hqt) ht2)
      have hq3 : q ∣ prodL ps := by
        have : p ∣ prodL ps := prodL_mem hpm
        exact Nat.dvd_trans (Nat.dvd_trans hqt ⟨P, by rw [ht, Nat.mul_comm]⟩) this
      rw [b1] at hq3
      have := Nat.dvd_gcd hq3 hq2
      rw [b2] at this
      have := Nat.le_of_dvd (by decide) this
      have := hq.1
      omega
    rw [ht1, Nat.mul_one] at ht
    subst ht
    rcases b6 with b6 | b6
    · have := Nat.blt_eq.mp b6; omega
    · exact nBad_not h3 b6 hs
/-- the odd numbers from k on, so many: in the table of primes, or no prime -/
def noP (k : Nat) : Bool := bif Nat.ble k 195 then [3, 5, 7, 11, 13].any (fun d => Nat.blt d k && Nat.beq (k % d) 0) else !(Nat.beq (Nat.gcd k F177) 1)
theorem noP_not {k : Nat} (h : noP k = true) : ¬ nPr k := by
  intro hp
  unfold noP at h
  cases c : Nat.ble k 195 with
  | true =>
    rw [c] at h
    simp only [cond_true] at h
    obtain ⟨d, hd, hx⟩ := List.any_eq_true.mp h
    rw [Bool.and_eq_true] at hx
    have h1 := Nat.blt_eq.mp hx.1
    have h2 := Nat.dvd_of_mod_eq_zero (Nat.eq_of_beq_eq_true hx.2)
    have h3 : 1 < d := by
      simp only [List.mem_cons, List.not_mem_nil, or_false] at hd
      omega
    rcases hp.2 d h2 with q | q <;> omega
  | false =>
    rw [c] at h
    simp only [cond_false] at h
    have h195 : 195 < k := by
      rcases Nat.lt_or_ge 195 k with q | q
      · exact q
      · rw [Nat.ble_eq.mpr q] at c; exact absurd c (by decide)
    have hg : Nat.gcd k F177 = 1 := by
      refine hp.cop (fun q => ?_)
      rw [fct_177] at q
      have : ∀ n, k ∣ fct n → k ≤ n ∨ n = 0 := by
        intro n
        induction n with
        | zero => intro _; exact Or.inr rfl
        | succ n ih =>
          intro hd
          rw [fct] at hd
          rcases hp.euclid hd with r | r
          · exact Or.inl (Nat.le_of_dvd (by omega) r)
          · rcases ih r with s | s
            · left; omega
            · subst s
              have hd1 : k ∣ 1 := r
              have := Nat.le_of_dvd (by decide) hd1
              omega
      rcases this 177 q with r | r <;> omega
    rw [hg] at h
    exact absurd h (by decide)
def wkP : Nat → Nat → List (Nat × Nat × List Nat) → Bool
  | 0, _, _ => true
  | f + 1, k, [] => (noP k || Nat.beq k 7 || Nat.beq k 61) && wkP f (k + 2) []
  | f + 1, k, e :: t => bif Nat.beq k e.1 then wkP f (k + 2) t else (noP k || Nat.beq k 7 || Nat.beq k 61) && wkP f (k + 2) (e :: t)
theorem wkP_ok : ∀ f k l, wkP f k l = true → ∀ i, i < f → nPr (k + 2 * i) → k + 2 * i = 7 ∨ k + 2 * i = 61 ∨ ∃ e, e ∈ l ∧ e.1 = k + 2 * i
  | 0, k, l, _, i, hi, _ => absurd hi (by omega)
  | f + 1, k, [], h, i, hi, hp => by
    rw [wkP, Bool.and_eq_true] at h
    cases i with
    | zero =>
      simp only [Bool.or_eq_true] at h
      rcases h.1 with (q | q) | q
      · exact absurd hp (noP_not q)
      · left; exact Nat.eq_of_beq_eq_true q
      · right; left; exact Nat.eq_of_beq_eq_true q
    | succ i =>
      have := wkP_ok f (k + 2) [] h.2 i (by omega) (by rw [show k + 2 + 2 * i = k + 2 * (i + 1) by omega]; exact hp)
      rw [show k + 2 + 2 * i = k + 2 * (i + 1) by omega] at this
      exact this
  | f + 1, k, e :: t, h, i, hi, hp => by
    rw [wkP] at h
    cases c : Nat.beq k e.1 with
    | true =>
      rw [c] at h
      cases i with
      | zero => exact Or.inr (Or.inr ⟨e, List.mem_cons_self, (Nat.eq_of_beq_eq_true c).symm⟩)
      | succ i =>
        have := wkP_ok f (k + 2) t h i (by omega) (by rw [show k + 2 + 2 * i = k + 2 * (i + 1) by omega]; exact hp)
        rw [show k + 2 + 2 * i = k + 2 * (i + 1) by omega] at this
        rcases this with q | q | ⟨x, hx, q⟩
        · exact Or.inl q
        · exact Or.inr (Or.inl q)
        · exact Or.inr (Or.inr ⟨x, List.mem_cons_of_mem _ hx, q⟩)
    | false =>
      rw [c] at h
      simp only [cond_false, Bool.and_eq_true] at h
      cases i with
      | zero =>
        simp only [Bool.or_eq_true] at h
        rcases h.1 with (q | q) | q
        · exact absurd hp (noP_not q)
        · left; exact Nat.eq_of_beq_eq_true q
        · right; left; exact Nat.eq_of_beq_eq_true q
      | succ i =>
        have := wkP_ok f (k + 2) (e :: t) h.2 i (by omega) (by rw [show k + 2 + 2 * i = k + 2 * (i + 1) by omega]; exact hp)
        rw [show k + 2 + 2 * i = k + 2 * (i + 1) by omega] at this
        exact this
