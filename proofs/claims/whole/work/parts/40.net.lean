/-! NETS -/
def eg (ed u v : Nat) : Nat := ed / 2 ^ ((max u v) * (max u v - 1) / 2 + min u v) % 2
theorem mx32 {u v : Nat} (hu : u < 6) (hv : v < 6) : (if i32 (u : Int) < i32 (v : Int) then i32 (v : Int) else i32 (u : Int)) = i32 ((max u v : Nat) : Int) := by
  by_cases h : u < v
  · simp (disch := omega) only [↓reduceIte, iT_lt, iF_lt, iT_le, iF_le, iT_eq, iF_eq, nT_lt, nF_lt, nT_le, nF_le, nT_eq, nF_eq, and_self, and_true, true_and, and_false, false_and, not_true_eq_false, not_false_eq_true, ne_eq, or_self, or_false, false_or, or_true, true_or, Option.bind_some, i32_lit, i64_lit, i32_add, i32_sub, i32_mul, i32_neg, i64_add, i64_sub, i64_neg, i32_lt, i32_le, i32_eq, i64_lt, i64_le, i64_eq, i32_cn, i32_cl, i32_l, i64_i, i32_nat, Int.toNat_natCast, sI_2, sJ_1, sJ_22, sR_1, sR_21, sI_t, sI_r, sI_j, sJ_t, sJ_r, sJ_j, sR_t, sR_r, sR_j]
  · simp (disch := omega) only [↓reduceIte, iT_lt, iF_lt, iT_le, iF_le, iT_eq, iF_eq, nT_lt, nF_lt, nT_le, nF_le, nT_eq, nF_eq, and_self, and_true, true_and, and_false, false_and, not_true_eq_false, not_false_eq_true, ne_eq, or_self, or_false, false_or, or_true, true_or, Option.bind_some, i32_lit, i64_lit, i32_add, i32_sub, i32_mul, i32_neg, i64_add, i64_sub, i64_neg, i32_lt, i32_le, i32_eq, i64_lt, i64_le, i64_eq, i32_cn, i32_cl, i32_l, i64_i, i32_nat, Int.toNat_natCast, sI_2, sJ_1, sJ_22, sR_1, sR_21, sI_t, sI_r, sI_j, sJ_t, sJ_r, sJ_j, sR_t, sR_r, sR_j]
theorem mn32 {u v : Nat} (hu : u < 6) (hv : v < 6) : (if i32 (v : Int) < i32 (u : Int) then i32 (v : Int) else i32 (u : Int)) = i32 ((min u v : Nat) : Int) := by
  by_cases h : v < u
  · simp (disch := omega) only [↓reduceIte, iT_lt, iF_lt, iT_le, iF_le, iT_eq, iF_eq, nT_lt, nF_lt, nT_le, nF_le, nT_eq, nF_eq, and_self, and_true, true_and, and_false, false_and, not_true_eq_false, not_false_eq_true, ne_eq, or_self, or_false, false_or, or_true, true_or, Option.bind_some, i32_lit, i64_lit, i32_add, i32_sub, i32_mul, i32_neg, i64_add, i64_sub, i64_neg, i32_lt, i32_le, i32_eq, i64_lt, i64_le, i64_eq, i32_cn, i32_cl, i32_l, i64_i, i32_nat, Int.toNat_natCast, sI_2, sJ_1, sJ_22, sR_1, sR_21, sI_t, sI_r, sI_j, sJ_t, sJ_r, sJ_j, sR_t, sR_r, sR_j]
  · simp (disch := omega) only [↓reduceIte, iT_lt, iF_lt, iT_le, iF_le, iT_eq, iF_eq, nT_lt, nF_lt, nT_le, nF_le, nT_eq, nF_eq, and_self, and_true, true_and, and_false, false_and, not_true_eq_false, not_false_eq_true, ne_eq, or_self, or_false, false_or, or_true, true_or, Option.bind_some, i32_lit, i64_lit, i32_add, i32_sub, i32_mul, i32_neg, i64_add, i64_sub, i64_neg, i32_lt, i32_le, i32_eq, i64_lt, i64_le, i64_eq, i32_cn, i32_cl, i32_l, i64_i, i32_nat, Int.toNat_natCast, sI_2, sJ_1, sJ_22, sR_1, sR_21, sI_t, sI_r, sI_j, sJ_t, sJ_r, sJ_j, sR_t, sR_r, sR_j]
theorem tri_le : ∀ m, m < 6 → m * (m - 1) / 2 ≤ 10 := by decide
theorem eg_sh {ed u v : Nat} (he : ed < 32768) (hu : u < 6) (hv : v < 6) : ((i32 (ed : Int) >>> ((((i32 ((max u v : Nat) : Int) * (i32 ((max u v : Nat) : Int) - 1)) / 2) + i32 ((min u v : Nat) : Int)) &&& 31)) &&& 1) = i32 ((eg ed u v : Nat) : Int) := by
  have hm : max u v < 6 := by omega
  have h0 := tri_le _ hm
  have hn : min u v < 6 := by omega
  unfold eg
  generalize max u v = m at hm h0 ⊢
  generalize min u v = w at hn ⊢
  have e : ((m : Int) * ((m : Int) - 1)) = ((m * (m - 1) : Nat) : Int) := by
    cases m with
    | zero => rfl
    | succ m => rw [Nat.add_sub_cancel, Int.natCast_mul]; congr 1; omega
  have hb : m * (m - 1) ≤ 20 := by
    have : m * (m - 1) ≤ 5 * 4 := Nat.mul_le_mul (by omega) (by omega)
    omega
  have e2 : ((m * (m - 1) : Nat) : Int) / 2 + (w : Int) = ((m * (m - 1) / 2 + w : Nat) : Int) := by omega
  rw [show (1 : Int32) = i32 1 from rfl, i32_sub, i32_mul, e, show (2 : Int32) = i32 2 from rfl, i32_div (by omega), i32_add, e2, i32_shr (by omega) (by omega), show i32 1 = (1 : Int32) from rfl, i32_and1]
  congr 1
theorem eg_le (ed u v : Nat) : eg ed u v ≤ 1 := by unfold eg; omega
theorem p_joins {Z : hZ} {σ : hSt} {r ed u v : Nat} (hr : Z.2.2.1 r 1 = i32 (ed : Int)) (he : ed < 32768) (hu : u < 6) (hv : v < 6) : f_X2_joins Z σ r (i32 (u : Int)) (i32 (v : Int)) = some (i32 ((eg ed u v : Nat) : Int)) := by
  unfold f_X2_joins
  rw [hr, mx32 hu hv, mn32 hu hv, eg_sh he hu hv]
  have := eg_le ed u v
  have h : eg ed u v = 0 ∨ eg ed u v = 1 := by omega
  rcases h with h | h <;> rw [h] <;> rfl
theorem p_hasEdge {Z : hZ} {τ : hSt} {i ed u v : Nat} (hi : i < 12) (hr : τ.1 223 i = i32 (ed : Int)) (he : ed < 32768) (hu : u < 6) (hv : v < 6) : f_X12_hasEdge Z τ (i32 (i : Int)) (i32 (u : Int)) (i32 (v : Int)) = some (i32 ((eg ed u v : Nat) : Int)) := by
  unfold f_X12_hasEdge
  have hc : (i32 (i : Int)).toNatClampNeg = i := i32_cn (by omega)
  rw [hc, hr, mx32 hu hv, mn32 hu hv, eg_sh he hu hv]
  have := eg_le ed u v
  have h : eg ed u v = 0 ∨ eg ed u v = 1 := by omega
  simp (disch := omega) only [↓reduceIte, iT_lt, iF_lt, iT_le, iF_le, iT_eq, iF_eq, nT_lt, nF_lt, nT_le, nF_le, nT_eq, nF_eq, and_self, and_true, true_and, and_false, false_and, not_true_eq_false, not_false_eq_true, ne_eq, or_self, or_false, false_or, or_true, true_or, Option.bind_some, i32_lit, i64_lit, i32_add, i32_sub, i32_mul, i32_neg, i64_add, i64_sub, i64_neg, i32_lt, i32_le, i32_eq, i64_lt, i64_le, i64_eq, i32_cn, i32_cl, i32_l, i64_i, i32_nat, Int.toNat_natCast, sI_2, sJ_1, sJ_22, sR_1, sR_21, sI_t, sI_r, sI_j, sJ_t, sJ_r, sJ_j, sR_t, sR_r, sR_j]
  rcases h with h | h <;> rw [h] <;> rfl
def ftS (e1 e2 : Nat) (row : Nat → Nat) (fm pl : Nat) : Nat → Bool
  | 0 => true
  | t + 1 => ftS e1 e2 row fm pl t && (eg e1 t fm == eg e2 (row t) pl)
def uN2 (f : Nat → Nat) (k v : Nat) : Nat → Nat := fun j => if j = k then v else f j
def tryS (e1 e2 fm tk : Nat) (row : Nat → Nat) (rc : Nat → (Nat → Nat) → Option (Nat → Nat)) : Nat → Nat → Option (Nat → Nat)
  | 0, _ => none
  | c + 1, pl => if tk / 2 ^ pl % 2 = 0 ∧ ftS e1 e2 row fm pl fm = true then (match rc (tk ||| 2 ^ pl) (uN2 row fm pl) with
    | some r => some r
    | none => tryS e1 e2 fm tk row rc c (pl + 1)) else tryS e1 e2 fm tk row rc c (pl + 1)
def goS (n e1 e2 : Nat) : Nat → Nat → Nat → (Nat → Nat) → Option (Nat → Nat)
  | 0, _, _, row => some row
  | k + 1, fm, tk, row => tryS e1 e2 fm tk row (goS n e1 e2 k (fm + 1)) n 0
def rowI (σ : hSt) (r : Nat) (f : Nat → Nat) (m : Nat) : Prop := ∀ i, i < m → σ.1 r i = i32 (f i : Nat)
theorem ftS_mono {e1 e2 : Nat} {row : Nat → Nat} {fm pl : Nat} : ∀ t u, t ≤ u → ftS e1 e2 row fm pl u = true → ftS e1 e2 row fm pl t = true
  | t, 0, h, k => by obtain rfl : t = 0 := by omega
                     exact k
  | t, u + 1, h, k => by
    by_cases e : t = u + 1
    · subst e; exact k
    · rw [ftS, Bool.and_eq_true] at k
      exact ftS_mono t u (by omega) k.1
theorem p_fits_L {Z : hZ} {σ : hSt} {r0 r3 e1 e2 fm pl : Nat} {row : Nat → Nat} (h1 : Z.2.2.1 r0 1 = i32 (e1 : Int)) (h2 : Z.2.2.1 r3 1 = i32 (e2 : Int)) (he1 : e1 < 32768) (he2 : e2 < 32768) (hfm : fm < 6) (hpl : pl < 6) (hr : rowI σ 44 row fm) (hr6 : ∀ k, k < fm → row k < 6) :
    ∀ k t N, t + k = fm → k < N → ftS e1 e2 row fm pl t = true → f_X2_fits_L3 Z σ r0 r3 (i32 (fm : Int)) (i32 (pl : Int)) N (i32 (t : Int)) = some (if ftS e1 e2 row fm pl fm = true then 1 else 0) := by
  intro k
  induction k with
  | zero =>
    intro t N ht hN hf
    obtain ⟨N, rfl⟩ : ∃ q, N = q + 1 := ⟨N - 1, by omega⟩
    obtain rfl : t = fm := by omega
    rw [f_X2_fits_L3, hf]
    simp (disch := omega) only [↓reduceIte, iT_lt, iF_lt, iT_le, iF_le, iT_eq, iF_eq, nT_lt, nF_lt, nT_le, nF_le, nT_eq, nF_eq, and_self, and_true, true_and, and_false, false_and, not_true_eq_false, not_false_eq_true, ne_eq, or_self, or_false, false_or, or_true, true_or, Option.bind_some, i32_lit, i64_lit, i32_add, i32_sub, i32_mul, i32_neg, i64_add, i64_sub, i64_neg, i32_lt, i32_le, i32_eq, i64_lt, i64_le, i64_eq, i32_cn, i32_cl, i32_l, i64_i, i32_nat, Int.toNat_natCast, sI_2, sJ_1, sJ_22, sR_1, sR_21, sI_t, sI_r, sI_j, sJ_t, sJ_r, sJ_j, sR_t, sR_r, sR_j]
  | succ k ih =>
    intro t N ht hN hf
    obtain ⟨N, rfl⟩ : ∃ q, N = q + 1 := ⟨N - 1, by omega⟩
    have j1 := p_joins (Z := Z) (σ := σ) h1 he1 (show t < 6 by omega) hfm
    have j2 := p_joins (Z := Z) (σ := σ) h2 he2 (hr6 t (by omega)) hpl
    have hrt := hr t (by omega)
    have a1 := eg_le e1 t fm
    have a2 := eg_le e2 (row t) pl
    rw [f_X2_fits_L3]
    by_cases c : eg e1 t fm = eg e2 (row t) pl
    · have := ih (t + 1) N (by omega) (by omega) (by rw [ftS, hf, c]; simp)
      simp (disch := omega) only [↓reduceIte, iT_lt, iF_lt, iT_le, iF_le, iT_eq, iF_eq, nT_lt, nF_lt, nT_le, nF_le, nT_eq, nF_eq, and_self, and_true, true_and, and_false, false_and, not_true_eq_false, not_false_eq_true, ne_eq, or_self, or_false, false_or, or_true, true_or, Option.bind_some, i32_lit, i64_lit, i32_add, i32_sub, i32_mul, i32_neg, i64_add, i64_sub, i64_neg, i32_lt, i32_le, i32_eq, i64_lt, i64_le, i64_eq, i32_cn, i32_cl, i32_l, i64_i, i32_nat, Int.toNat_natCast, sI_2, sJ_1, sJ_22, sR_1, sR_21, sI_t, sI_r, sI_j, sJ_t, sJ_r, sJ_j, sR_t, sR_r, sR_j, j1, hrt, j2]
      exact this
    · have hF : ftS e1 e2 row fm pl fm = false := by
        cases hb : ftS e1 e2 row fm pl fm with
        | false => rfl
        | true =>
          have := ftS_mono (t + 1) fm (by omega) hb
          rw [ftS, Bool.and_eq_true] at this
          exact absurd (eq_of_beq this.2) c
      rw [hF]
      simp (disch := omega) only [↓reduceIte, iT_lt, iF_lt, iT_le, iF_le, iT_eq, iF_eq, nT_lt, nF_lt, nT_le, nF_le, nT_eq, nF_eq, and_self, and_true, true_and, and_false, false_and, not_true_eq_false, not_false_eq_true, ne_eq, or_self, or_false, false_or, or_true, true_or, Option.bind_some, i32_lit, i64_lit, i32_add, i32_sub, i32_mul, i32_neg, i64_add, i64_sub, i64_neg, i32_lt, i32_le, i32_eq, i64_lt, i64_le, i64_eq, i32_cn, i32_cl, i32_l, i64_i, i32_nat, Int.toNat_natCast, sI_2, sJ_1, sJ_22, sR_1, sR_21, sI_t, sI_r, sI_j, sJ_t, sJ_r, sJ_j, sR_t, sR_r, sR_j, j1, hrt, j2]
      rfl
theorem or_lt {tk pl : Nat} (h : tk < 64) (hp : pl < 6) : tk ||| 2 ^ pl < 64 := Nat.or_lt_two_pow (n := 6) h (by
  have : 2 ^ pl < 2 ^ 6 := Nat.pow_lt_pow_right (by decide) hp
  exact this)
theorem or32 {tk pl : Nat} (hp : pl < 6) : i32 (tk : Int) ||| ((1 : Int32) <<< (i32 (pl : Int) &&& 31)) = i32 ((tk ||| 2 ^ pl : Nat) : Int) := by
  rw [sh1 (by omega), i32_or]
theorem uN2_t (f : Nat → Nat) {k j : Nat} (v : Nat) (h : j = k) : uN2 f k v j = v := by simp [uN2, h]
theorem uN2_f (f : Nat → Nat) {k j : Nat} (v : Nat) (h : j < k ∨ k < j) : uN2 f k v j = f j := by
  have : j ≠ k := by omega
  simp [uN2, this]
/-- how it ends: found, the row; or not, and the row's first places stand -/
def endR (q : Nat) (n fm : Nat) (σ : hSt) (o : Option (Nat → Nat)) (x : Option (Int32 × hSt)) : Prop := match o with
  | some r => ∃ σ', x = some (1, σ') ∧ fr [q] σ σ' ∧ rowI σ' q r n ∧ ∀ k, k < n → r k < 6
  | none => ∃ σ', x = some (0, σ') ∧ fr [q] σ σ' ∧ ∀ k, k < fm → σ'.1 q k = σ.1 q k
theorem endR_pre {q n fm : Nat} {σ σ1 : hSt} {o : Option (Nat → Nat)} {x : Option (Int32 × hSt)} (hf : fr [q] σ σ1) (h : ∀ k, k < fm → σ1.1 q k = σ.1 q k) (e : endR q n fm σ1 o x) : endR q n fm σ o x := by
  cases o with
  | some r =>
    obtain ⟨σ', a1, a2, a3⟩ := e
    exact ⟨σ', a1, fr_tr hf a2, a3⟩
  | none =>
    obtain ⟨σ', a1, a2, a3⟩ := e
    exact ⟨σ', a1, fr_tr hf a2, fun k hk => (a3 k hk).trans (h k hk)⟩
theorem p_go {Z : hZ} {r0 r3 n e1 e2 F : Nat} (hF : 300 ≤ F) (hn : n ≤ 6) (hp : Z.2.2.1 r0 0 = i32 (n : Int)) (h1 : Z.2.2.1 r0 1 = i32 (e1 : Int)) (h2 : Z.2.2.1 r3 1 = i32 (e2 : Int)) (he1 : e1 < 32768) (he2 : e2 < 32768) :
    ∀ k fm tk d σ row, fm + k = n → k < d → tk < 64 → rowI σ 44 row fm → (∀ j, j < fm → row j < 6) → endR 44 n fm σ (goS n e1 e2 k fm tk row) ((G_X2g F Z d) σ r0 (i32 (fm : Int)) (i32 (tk : Int)) r3) := by
  intro k
  induction k with
  | zero =>
    intro fm tk d σ row hk hd htk hr hr6
    obtain ⟨d, rfl⟩ : ∃ q, d = q + 1 := ⟨d - 1, by omega⟩
    obtain rfl : fm = n := by omega
    refine ⟨σ, ?_, fr_rf _ _, hr, hr6⟩
    rw [G_X2g, b_X2_goOnFrom]
    simp (disch := omega) only [↓reduceIte, iT_lt, iF_lt, iT_le, iF_le, iT_eq, iF_eq, nT_lt, nF_lt, nT_le, nF_le, nT_eq, nF_eq, and_self, and_true, true_and, and_false, false_and, not_true_eq_false, not_false_eq_true, ne_eq, or_self, or_false, false_or, or_true, true_or, Option.bind_some, i32_lit, i64_lit, i32_add, i32_sub, i32_mul, i32_neg, i64_add, i64_sub, i64_neg, i32_lt, i32_le, i32_eq, i64_lt, i64_le, i64_eq, i32_cn, i32_cl, i32_l, i64_i, i32_nat, Int.toNat_natCast, sI_2, sJ_1, sJ_22, sR_1, sR_21, sI_t, sI_r, sI_j, sJ_t, sJ_r, sJ_j, sR_t, sR_r, sR_j, hp]
  | succ k ih =>
    intro fm tk d σ row hk hd htk hr hr6
    obtain ⟨d, rfl⟩ : ∃ q, d = q + 1 := ⟨d - 1, by omega⟩
    rw [G_X2g, b_X2_goOnFrom]
    simp (disch := omega) only [↓reduceIte, iT_lt, iF_lt, iT_le, iF_le, iT_eq, iF_eq, nT_lt, nF_lt, nT_le, nF_le, nT_eq, nF_eq, and_self, and_true, true_and, and_false, false_and, not_true_eq_false, not_false_eq_true, ne_eq, or_self, or_false, false_or, or_true, true_or, Option.bind_some, i32_lit, i64_lit, i32_add, i32_sub, i32_mul, i32_neg, i64_add, i64_sub, i64_neg, i32_lt, i32_le, i32_eq, i64_lt, i64_le, i64_eq, i32_cn, i32_cl, i32_l, i64_i, i32_nat, Int.toNat_natCast, sI_2, sJ_1, sJ_22, sR_1, sR_21, sI_t, sI_r, sI_j, sJ_t, sJ_r, sJ_j, sR_t, sR_r, sR_j, hp]
    rw [goS]
    have loop : ∀ c pl N σ, pl + c = n → c < N → rowI σ 44 row fm → endR 44 n fm σ (tryS e1 e2 fm tk row (goS n e1 e2 k (fm + 1)) c pl) (f_X2_goOnFrom_L20 F Z (G_X2g F Z d) r0 r3 (i32 (fm : Int)) (i32 (tk : Int)) N σ (i32 (pl : Int))) := by
      intro c
      induction c with
      | zero =>
        intro pl N σ hc hN hr
        obtain ⟨N, rfl⟩ : ∃ q, N = q + 1 := ⟨N - 1, by omega⟩
        obtain rfl : pl = n := by omega
        refine ⟨σ, ?_, fr_rf _ _, fun _ _ => rfl⟩
        rw [f_X2_goOnFrom_L20]
        simp (disch := omega) only [↓reduceIte, iT_lt, iF_lt, iT_le, iF_le, iT_eq, iF_eq, nT_lt, nF_lt, nT_le, nF_le, nT_eq, nF_eq, and_self, and_true, true_and, and_false, false_and, not_true_eq_false, not_false_eq_true, ne_eq, or_self, or_false, false_or, or_true, true_or, Option.bind_some, i32_lit, i64_lit, i32_add, i32_sub, i32_mul, i32_neg, i64_add, i64_sub, i64_neg, i32_lt, i32_le, i32_eq, i64_lt, i64_le, i64_eq, i32_cn, i32_cl, i32_l, i64_i, i32_nat, Int.toNat_natCast, sI_2, sJ_1, sJ_22, sR_1, sR_21, sI_t, sI_r, sI_j, sJ_t, sJ_r, sJ_j, sR_t, sR_r, sR_j, hp]
      | succ c ihc =>
        intro pl N σ hc hN hr
        obtain ⟨N, rfl⟩ : ∃ q, N = q + 1 := ⟨N - 1, by omega⟩
        have nx := ihc (pl + 1) N σ (by omega) (by omega) hr
        have hft := p_fits_L (Z := Z) (σ := σ) h1 h2 he1 he2 (show fm < 6 by omega) (show pl < 6 by omega) hr hr6 fm 0 F (by omega) (by omega) rfl
        have hbl := bit_rg tk pl
        have hb := bitI htk (show pl < 32 by omega)
        have hj1 : (i32 (pl : Int) + 1) = i32 ((pl + 1 : Nat) : Int) := by rw [i32_lit, i32_add]; rfl
        have hj2 : (i32 (fm : Int) + 1) = i32 ((fm + 1 : Nat) : Int) := by rw [i32_lit, i32_add]; rfl
        rw [f_X2_goOnFrom_L20, tryS, or32 (show pl < 6 by omega), hj1, hj2]
        unfold f_X2_fits
        by_cases b : tk / 2 ^ pl % 2 = 0
        · by_cases ft : ftS e1 e2 row fm pl fm = true
          · rw [if_pos ⟨b, ft⟩]
            rw [if_pos ft] at hft
            have hrw : rowI (sI σ 44 fm (i32 (pl : Int))) 44 (uN2 row fm pl) (fm + 1) := fun j hj => by
              by_cases e : j = fm
              · rw [sI_t _ _ ⟨rfl, e⟩, uN2_t _ _ e]
              · rw [sI_j _ _ (by omega), uN2_f _ _ (by omega)]; exact hr j (by omega)
            have f0 : fr [44] σ (sI σ 44 fm (i32 (pl : Int))) := fr_sI σ _ (by rw [cd_a rfl]; decide)
            have rec1 := ih (fm + 1) (tk ||| 2 ^ pl) d (sI σ 44 fm (i32 (pl : Int))) (uN2 row fm pl) (by omega) (by omega) (or_lt htk (by omega)) hrw (fun j hj => by
              by_cases e : j = fm
              · rw [uN2_t _ _ e]; omega
              · rw [uN2_f _ _ (by omega)]; exact hr6 j (by omega))
            have hft0 : f_X2_fits_L3 Z σ r0 r3 (i32 (fm : Int)) (i32 (pl : Int)) F (0 : Int32) = some 1 := hft
            simp (disch := omega) only [↓reduceIte, iT_lt, iF_lt, iT_le, iF_le, iT_eq, iF_eq, nT_lt, nF_lt, nT_le, nF_le, nT_eq, nF_eq, and_self, and_true, true_and, and_false, false_and, not_true_eq_false, not_false_eq_true, ne_eq, or_self, or_false, false_or, or_true, true_or, Option.bind_some, i32_lit, i64_lit, i32_add, i32_sub, i32_mul, i32_neg, i64_add, i64_sub, i64_neg, i32_lt, i32_le, i32_eq, i64_lt, i64_le, i64_eq, i32_cn, i32_cl, i32_l, i64_i, i32_nat, Int.toNat_natCast, sI_2, sJ_1, sJ_22, sR_1, sR_21, sI_t, sI_r, sI_j, sJ_t, sJ_r, sJ_j, sR_t, sR_r, sR_j, hp, hb, b]
            rw [← i32_lit0, hft0]
            simp (disch := omega) only [↓reduceIte, iT_lt, iF_lt, iT_le, iF_le, iT_eq, iF_eq, nT_lt, nF_lt, nT_le, nF_le, nT_eq, nF_eq, and_self, and_true, true_and, and_false, false_and, not_true_eq_false, not_false_eq_true, ne_eq, or_self, or_false, false_or, or_true, true_or, Option.bind_some, i32_lit, i64_lit, i32_add, i32_sub, i32_mul, i32_neg, i64_add, i64_sub, i64_neg, i32_lt, i32_le, i32_eq, i64_lt, i64_le, i64_eq, i32_cn, i32_cl, i32_l, i64_i, i32_nat, Int.toNat_natCast, sI_2, sJ_1, sJ_22, sR_1, sR_21, sI_t, sI_r, sI_j, sJ_t, sJ_r, sJ_j, sR_t, sR_r, sR_j]
            cases ho : goS n e1 e2 k (fm + 1) (tk ||| 2 ^ pl) (uN2 row fm pl) with
            | some r =>
              rw [ho] at rec1
              obtain ⟨σ', a1, a2, a3, a4⟩ := rec1
              rw [a1]
              simp (disch := omega) only [↓reduceIte, iT_lt, iF_lt, iT_le, iF_le, iT_eq, iF_eq, nT_lt, nF_lt, nT_le, nF_le, nT_eq, nF_eq, and_self, and_true, true_and, and_false, false_and, not_true_eq_false, not_false_eq_true, ne_eq, or_self, or_false, false_or, or_true, true_or, Option.bind_some, i32_lit, i64_lit, i32_add, i32_sub, i32_mul, i32_neg, i64_add, i64_sub, i64_neg, i32_lt, i32_le, i32_eq, i64_lt, i64_le, i64_eq, i32_cn, i32_cl, i32_l, i64_i, i32_nat, Int.toNat_natCast, sI_2, sJ_1, sJ_22, sR_1, sR_21, sI_t, sI_r, sI_j, sJ_t, sJ_r, sJ_j, sR_t, sR_r, sR_j]
              exact ⟨σ', rfl, fr_tr f0 a2, a3, a4⟩
            | none =>
              rw [ho] at rec1
              obtain ⟨σ', a1, a2, a3⟩ := rec1
              rw [a1]
              simp (disch := omega) only [↓reduceIte, iT_lt, iF_lt, iT_le, iF_le, iT_eq, iF_eq, nT_lt, nF_lt, nT_le, nF_le, nT_eq, nF_eq, and_self, and_true, true_and, and_false, false_and, not_true_eq_false, not_false_eq_true, ne_eq, or_self, or_false, false_or, or_true, true_or, Option.bind_some, i32_lit, i64_lit, i32_add, i32_sub, i32_mul, i32_neg, i64_add, i64_sub, i64_neg, i32_lt, i32_le, i32_eq, i64_lt, i64_le, i64_eq, i32_cn, i32_cl, i32_l, i64_i, i32_nat, Int.toNat_natCast, sI_2, sJ_1, sJ_22, sR_1, sR_21, sI_t, sI_r, sI_j, sJ_t, sJ_r, sJ_j, sR_t, sR_r, sR_j]
              have hk2 : ∀ j, j < fm → σ'.1 44 j = σ.1 44 j := fun j hj => (a3 j (by omega)).trans (sI_j _ _ (by omega))
              exact endR_pre (fr_tr f0 a2) hk2 (ihc (pl + 1) N σ' (by omega) (by omega) (fun j hj => (hk2 j hj).trans (hr j hj)))
          · rw [if_neg (fun q => ft q.2)]
            rw [if_neg ft] at hft
            have hft0 : f_X2_fits_L3 Z σ r0 r3 (i32 (fm : Int)) (i32 (pl : Int)) F (0 : Int32) = some 0 := hft
            simp (disch := omega) only [↓reduceIte, iT_lt, iF_lt, iT_le, iF_le, iT_eq, iF_eq, nT_lt, nF_lt, nT_le, nF_le, nT_eq, nF_eq, and_self, and_true, true_and, and_false, false_and, not_true_eq_false, not_false_eq_true, ne_eq, or_self, or_false, false_or, or_true, true_or, Option.bind_some, i32_lit, i64_lit, i32_add, i32_sub, i32_mul, i32_neg, i64_add, i64_sub, i64_neg, i32_lt, i32_le, i32_eq, i64_lt, i64_le, i64_eq, i32_cn, i32_cl, i32_l, i64_i, i32_nat, Int.toNat_natCast, sI_2, sJ_1, sJ_22, sR_1, sR_21, sI_t, sI_r, sI_j, sJ_t, sJ_r, sJ_j, sR_t, sR_r, sR_j, hp, hb, b]
            rw [← i32_lit0, hft0]
            simp (disch := omega) only [↓reduceIte, iT_lt, iF_lt, iT_le, iF_le, iT_eq, iF_eq, nT_lt, nF_lt, nT_le, nF_le, nT_eq, nF_eq, and_self, and_true, true_and, and_false, false_and, not_true_eq_false, not_false_eq_true, ne_eq, or_self, or_false, false_or, or_true, true_or, Option.bind_some, i32_lit, i64_lit, i32_add, i32_sub, i32_mul, i32_neg, i64_add, i64_sub, i64_neg, i32_lt, i32_le, i32_eq, i64_lt, i64_le, i64_eq, i32_cn, i32_cl, i32_l, i64_i, i32_nat, Int.toNat_natCast, sI_2, sJ_1, sJ_22, sR_1, sR_21, sI_t, sI_r, sI_j, sJ_t, sJ_r, sJ_j, sR_t, sR_r, sR_j]
            exact nx
        · rw [if_neg (fun q => b q.1)]
          simp (disch := omega) only [↓reduceIte, iT_lt, iF_lt, iT_le, iF_le, iT_eq, iF_eq, nT_lt, nF_lt, nT_le, nF_le, nT_eq, nF_eq, and_self, and_true, true_and, and_false, false_and, not_true_eq_false, not_false_eq_true, ne_eq, or_self, or_false, false_or, or_true, true_or, Option.bind_some, i32_lit, i64_lit, i32_add, i32_sub, i32_mul, i32_neg, i64_add, i64_sub, i64_neg, i32_lt, i32_le, i32_eq, i64_lt, i64_le, i64_eq, i32_cn, i32_cl, i32_l, i64_i, i32_nat, Int.toNat_natCast, sI_2, sJ_1, sJ_22, sR_1, sR_21, sI_t, sI_r, sI_j, sJ_t, sJ_r, sJ_j, sR_t, sR_r, sR_j, hp, hb]
          exact nx
    exact loop n 0 F σ (by omega) (by omega) hr
/-! the model's way -/
theorem p_may_L {Z : hZ} {τ : hSt} {i o e1 e2 fm pl : Nat} {y4 : Int32} {row : Nat → Nat} (hi : i < 12) (ho : o < 12) (h1 : τ.1 223 i = i32 (e1 : Int)) (h2 : τ.1 223 o = i32 (e2 : Int)) (he1 : e1 < 32768) (he2 : e2 < 32768) (hfm : fm < 6) (hpl : pl < 6) (hr : rowI τ 224 row fm) (hr6 : ∀ k, k < fm → row k < 6) (K : Int32 → Option (Int32 × hSt)) :
    ∀ k t N, t + k = fm → k < N → ftS e1 e2 row fm pl t = true → f_X12_puts_L46 Z τ (i32 (i : Int)) (i32 (o : Int)) (i32 (fm : Int)) y4 (i32 (pl : Int)) K N 1 (i32 (t : Int)) = K (if ftS e1 e2 row fm pl fm = true then 1 else 0) := by
  intro k
  induction k with
  | zero =>
    intro t N ht hN hf
    obtain ⟨N, rfl⟩ : ∃ q, N = q + 1 := ⟨N - 1, by omega⟩
    obtain rfl : t = fm := by omega
    rw [f_X12_puts_L46, hf]
    simp (disch := omega) only [↓reduceIte, iT_lt, iF_lt, iT_le, iF_le, iT_eq, iF_eq, nT_lt, nF_lt, nT_le, nF_le, nT_eq, nF_eq, and_self, and_true, true_and, and_false, false_and, not_true_eq_false, not_false_eq_true, ne_eq, or_self, or_false, false_or, or_true, true_or, Option.bind_some, i32_lit, i64_lit, i32_add, i32_sub, i32_mul, i32_neg, i64_add, i64_sub, i64_neg, i32_lt, i32_le, i32_eq, i64_lt, i64_le, i64_eq, i32_cn, i32_cl, i32_l, i64_i, i32_nat, Int.toNat_natCast, sI_2, sJ_1, sJ_22, sR_1, sR_21, sI_t, sI_r, sI_j, sJ_t, sJ_r, sJ_j, sR_t, sR_r, sR_j]
  | succ k ih =>
    intro t N ht hN hf
    obtain ⟨N, rfl⟩ : ∃ q, N = q + 1 := ⟨N - 1, by omega⟩
    have j1 := p_hasEdge (Z := Z) (τ := τ) hi h1 he1 (show t < 6 by omega) hfm
    have j2 := p_hasEdge (Z := Z) (τ := τ) ho h2 he2 (hr6 t (by omega)) hpl
    have hrt := hr t (by omega)
    have a1 := eg_le e1 t fm
    have a2 := eg_le e2 (row t) pl
    rw [f_X12_puts_L46]
    by_cases c : eg e1 t fm = eg e2 (row t) pl
    · have := ih (t + 1) N (by omega) (by omega) (by rw [ftS, hf, c]; simp)
      simp (disch := omega) only [↓reduceIte, iT_lt, iF_lt, iT_le, iF_le, iT_eq, iF_eq, nT_lt, nF_lt, nT_le, nF_le, nT_eq, nF_eq, and_self, and_true, true_and, and_false, false_and, not_true_eq_false, not_false_eq_true, ne_eq, or_self, or_false, false_or, or_true, true_or, Option.bind_some, i32_lit, i64_lit, i32_add, i32_sub, i32_mul, i32_neg, i64_add, i64_sub, i64_neg, i32_lt, i32_le, i32_eq, i64_lt, i64_le, i64_eq, i32_cn, i32_cl, i32_l, i64_i, i32_nat, Int.toNat_natCast, sI_2, sJ_1, sJ_22, sR_1, sR_21, sI_t, sI_r, sI_j, sJ_t, sJ_r, sJ_j, sR_t, sR_r, sR_j, j1, hrt, j2]
      exact this
    · have hF : ftS e1 e2 row fm pl fm = false := by
        cases hb : ftS e1 e2 row fm pl fm with
        | false => rfl
        | true =>
          have := ftS_mono (t + 1) fm (by omega) hb
          rw [ftS, Bool.and_eq_true] at this
          exact absurd (eq_of_beq this.2) c
      rw [hF]
      simp (disch := omega) only [↓reduceIte, iT_lt, iF_lt, iT_le, iF_le, iT_eq, iF_eq, nT_lt, nF_lt, nT_le, nF_le, nT_eq, nF_eq, and_self, and_true, true_and, and_false, false_and, not_true_eq_false, not_false_eq_true, ne_eq, or_self, or_false, false_or, or_true, true_or, Option.bind_some, i32_lit, i64_lit, i32_add, i32_sub, i32_mul, i32_neg, i64_add, i64_sub, i64_neg, i32_lt, i32_le, i32_eq, i64_lt, i64_le, i64_eq, i32_cn, i32_cl, i32_l, i64_i, i32_nat, Int.toNat_natCast, sI_2, sJ_1, sJ_22, sR_1, sR_21, sI_t, sI_r, sI_j, sJ_t, sJ_r, sJ_j, sR_t, sR_r, sR_j, j1, hrt, j2]
      obtain ⟨N, rfl⟩ : ∃ q, N = q + 1 := ⟨N - 1, by omega⟩
      rw [f_X12_puts_L46]
      by_cases e : fm ≤ t + 1
      · simp (disch := omega) only [↓reduceIte, iT_lt, iF_lt, iT_le, iF_le, iT_eq, iF_eq, nT_lt, nF_lt, nT_le, nF_le, nT_eq, nF_eq, and_self, and_true, true_and, and_false, false_and, not_true_eq_false, not_false_eq_true, ne_eq, or_self, or_false, false_or, or_true, true_or, Option.bind_some, i32_lit, i64_lit, i32_add, i32_sub, i32_mul, i32_neg, i64_add, i64_sub, i64_neg, i32_lt, i32_le, i32_eq, i64_lt, i64_le, i64_eq, i32_cn, i32_cl, i32_l, i64_i, i32_nat, Int.toNat_natCast, sI_2, sJ_1, sJ_22, sR_1, sR_21, sI_t, sI_r, sI_j, sJ_t, sJ_r, sJ_j, sR_t, sR_r, sR_j]
        rfl
      · simp (disch := omega) only [↓reduceIte, iT_lt, iF_lt, iT_le, iF_le, iT_eq, iF_eq, nT_lt, nF_lt, nT_le, nF_le, nT_eq, nF_eq, and_self, and_true, true_and, and_false, false_and, not_true_eq_false, not_false_eq_true, ne_eq, or_self, or_false, false_or, or_true, true_or, Option.bind_some, i32_lit, i64_lit, i32_add, i32_sub, i32_mul, i32_neg, i64_add, i64_sub, i64_neg, i32_lt, i32_le, i32_eq, i64_lt, i64_le, i64_eq, i32_cn, i32_cl, i32_l, i64_i, i32_nat, Int.toNat_natCast, sI_2, sJ_1, sJ_22, sR_1, sR_21, sI_t, sI_r, sI_j, sJ_t, sJ_r, sJ_j, sR_t, sR_r, sR_j]
        rfl
theorem p_puts {Z : hZ} {i o n e1 e2 F : Nat} (hF : 300 ≤ F) (hn : n ≤ 6) (hi : i < 12) (ho : o < 12) (he1 : e1 < 32768) (he2 : e2 < 32768) :
    ∀ k fm tk d τ row, fm + k = n → k < d → tk < 64 → τ.1 222 i = i32 (n : Int) → τ.1 223 i = i32 (e1 : Int) → τ.1 223 o = i32 (e2 : Int) → rowI τ 224 row fm → (∀ j, j < fm → row j < 6) → endR 224 n fm τ (goS n e1 e2 k fm tk row) ((G_Mp F Z d) τ (i32 (i : Int)) (i32 (o : Int)) (i32 (fm : Int)) (i32 (tk : Int))) := by
  intro k
  induction k with
  | zero =>
    intro fm tk d τ row hk hd htk hp h1 h2 hr hr6
    obtain ⟨d, rfl⟩ : ∃ q, d = q + 1 := ⟨d - 1, by omega⟩
    obtain rfl : fm = n := by omega
    refine ⟨τ, ?_, fr_rf _ _, hr, hr6⟩
    rw [G_Mp, b_X12_puts]
    simp (disch := omega) only [↓reduceIte, iT_lt, iF_lt, iT_le, iF_le, iT_eq, iF_eq, nT_lt, nF_lt, nT_le, nF_le, nT_eq, nF_eq, and_self, and_true, true_and, and_false, false_and, not_true_eq_false, not_false_eq_true, ne_eq, or_self, or_false, false_or, or_true, true_or, Option.bind_some, i32_lit, i64_lit, i32_add, i32_sub, i32_mul, i32_neg, i64_add, i64_sub, i64_neg, i32_lt, i32_le, i32_eq, i64_lt, i64_le, i64_eq, i32_cn, i32_cl, i32_l, i64_i, i32_nat, Int.toNat_natCast, sI_2, sJ_1, sJ_22, sR_1, sR_21, sI_t, sI_r, sI_j, sJ_t, sJ_r, sJ_j, sR_t, sR_r, sR_j, hp]
  | succ k ih =>
    intro fm tk d τ row hk hd htk hp h1 h2 hr hr6
    obtain ⟨d, rfl⟩ : ∃ q, d = q + 1 := ⟨d - 1, by omega⟩
    rw [G_Mp, b_X12_puts]
    simp (disch := omega) only [↓reduceIte, iT_lt, iF_lt, iT_le, iF_le, iT_eq, iF_eq, nT_lt, nF_lt, nT_le, nF_le, nT_eq, nF_eq, and_self, and_true, true_and, and_false, false_and, not_true_eq_false, not_false_eq_true, ne_eq, or_self, or_false, false_or, or_true, true_or, Option.bind_some, i32_lit, i64_lit, i32_add, i32_sub, i32_mul, i32_neg, i64_add, i64_sub, i64_neg, i32_lt, i32_le, i32_eq, i64_lt, i64_le, i64_eq, i32_cn, i32_cl, i32_l, i64_i, i32_nat, Int.toNat_natCast, sI_2, sJ_1, sJ_22, sR_1, sR_21, sI_t, sI_r, sI_j, sJ_t, sJ_r, sJ_j, sR_t, sR_r, sR_j, hp]
    rw [goS]
    have loop : ∀ c pl N τ, pl + c = n → c < N → τ.1 222 i = i32 (n : Int) → τ.1 223 i = i32 (e1 : Int) → τ.1 223 o = i32 (e2 : Int) → rowI τ 224 row fm → endR 224 n fm τ (tryS e1 e2 fm tk row (goS n e1 e2 k (fm + 1)) c pl) (f_X12_puts_L15 F Z (G_Mp F Z d) (i32 (i : Int)) (i32 (o : Int)) (i32 (fm : Int)) (i32 (tk : Int)) N τ (i32 (pl : Int))) := by
      intro c
      induction c with
      | zero =>
        intro pl N τ hc hN hp h1 h2 hr
        obtain ⟨N, rfl⟩ : ∃ q, N = q + 1 := ⟨N - 1, by omega⟩
        obtain rfl : pl = n := by omega
        refine ⟨τ, ?_, fr_rf _ _, fun _ _ => rfl⟩
        rw [f_X12_puts_L15]
        simp (disch := omega) only [↓reduceIte, iT_lt, iF_lt, iT_le, iF_le, iT_eq, iF_eq, nT_lt, nF_lt, nT_le, nF_le, nT_eq, nF_eq, and_self, and_true, true_and, and_false, false_and, not_true_eq_false, not_false_eq_true, ne_eq, or_self, or_false, false_or, or_true, true_or, Option.bind_some, i32_lit, i64_lit, i32_add, i32_sub, i32_mul, i32_neg, i64_add, i64_sub, i64_neg, i32_lt, i32_le, i32_eq, i64_lt, i64_le, i64_eq, i32_cn, i32_cl, i32_l, i64_i, i32_nat, Int.toNat_natCast, sI_2, sJ_1, sJ_22, sR_1, sR_21, sI_t, sI_r, sI_j, sJ_t, sJ_r, sJ_j, sR_t, sR_r, sR_j, hp]
      | succ c ihc =>
        intro pl N τ hc hN hp h1 h2 hr
        obtain ⟨N, rfl⟩ : ∃ q, N = q + 1 := ⟨N - 1, by omega⟩
        have hbl := bit_rg tk pl
        have hb := bitI htk (show pl < 32 by omega)
        have hj1 : (i32 (pl : Int) + 1) = i32 ((pl + 1 : Nat) : Int) := by rw [i32_lit, i32_add]; rfl
        have hj2 : (i32 (fm : Int) + 1) = i32 ((fm + 1 : Nat) : Int) := by rw [i32_lit, i32_add]; rfl
        have hrw : rowI (sI τ 224 fm (i32 (pl : Int))) 224 (uN2 row fm pl) (fm + 1) := fun j hj => by
          by_cases e : j = fm
          · rw [sI_t _ _ ⟨rfl, e⟩, uN2_t _ _ e]
          · rw [sI_j _ _ (by omega), uN2_f _ _ (by omega)]; exact hr j (by omega)
        have f0 : fr [224] τ (sI τ 224 fm (i32 (pl : Int))) := fr_sI τ _ (by rw [cd_a rfl]; decide)
        have hk0 : ∀ j, j < fm → (sI τ 224 fm (i32 (pl : Int))).1 224 j = τ.1 224 j := fun j hj => sI_j _ _ (by omega)
        have nx := endR_pre f0 hk0 (ihc (pl + 1) N (sI τ 224 fm (i32 (pl : Int))) (by omega) (by omega) (by rw [sI_r _ _ (by omega)]; exact hp) (by rw [sI_r _ _ (by omega)]; exact h1) (by rw [sI_r _ _ (by omega)]; exact h2) (fun j hj => (hk0 j hj).trans (hr j hj)))
        rw [f_X12_puts_L15, tryS, or32 (show pl < 6 by omega), hj1, hj2]
        by_cases b : tk / 2 ^ pl % 2 = 0
        · have may := fun K => p_may_L (Z := Z) (τ := τ) (y4 := i32 (tk : Int)) hi ho h1 h2 he1 he2 (show fm < 6 by omega) (show pl < 6 by omega) hr hr6 K fm 0 F (by omega) (by omega) rfl
          rw [show (1 : Int32) = i32 1 from rfl, show ((0 : Nat) : Int) = 0 from rfl] at may
          by_cases ft : ftS e1 e2 row fm pl fm = true
          · rw [if_pos ⟨b, ft⟩]
            have rec1 := ih (fm + 1) (tk ||| 2 ^ pl) d (sI τ 224 fm (i32 (pl : Int))) (uN2 row fm pl) (by omega) (by omega) (or_lt htk (by omega)) (by rw [sI_r _ _ (by omega)]; exact hp) (by rw [sI_r _ _ (by omega)]; exact h1) (by rw [sI_r _ _ (by omega)]; exact h2) hrw (fun j hj => by
              by_cases e : j = fm
              · rw [uN2_t _ _ e]; omega
              · rw [uN2_f _ _ (by omega)]; exact hr6 j (by omega))
            simp (disch := omega) only [↓reduceIte, iT_lt, iF_lt, iT_le, iF_le, iT_eq, iF_eq, nT_lt, nF_lt, nT_le, nF_le, nT_eq, nF_eq, and_self, and_true, true_and, and_false, false_and, not_true_eq_false, not_false_eq_true, ne_eq, or_self, or_false, false_or, or_true, true_or, Option.bind_some, i32_lit, i64_lit, i32_add, i32_sub, i32_mul, i32_neg, i64_add, i64_sub, i64_neg, i32_lt, i32_le, i32_eq, i64_lt, i64_le, i64_eq, i32_cn, i32_cl, i32_l, i64_i, i32_nat, Int.toNat_natCast, sI_2, sJ_1, sJ_22, sR_1, sR_21, sI_t, sI_r, sI_j, sJ_t, sJ_r, sJ_j, sR_t, sR_r, sR_j, hp, hb, b, may, ft]
            cases ho : goS n e1 e2 k (fm + 1) (tk ||| 2 ^ pl) (uN2 row fm pl) with
            | some r =>
              rw [ho] at rec1
              obtain ⟨σ', a1, a2, a3, a4⟩ := rec1
              rw [a1]
              simp (disch := omega) only [↓reduceIte, iT_lt, iF_lt, iT_le, iF_le, iT_eq, iF_eq, nT_lt, nF_lt, nT_le, nF_le, nT_eq, nF_eq, and_self, and_true, true_and, and_false, false_and, not_true_eq_false, not_false_eq_true, ne_eq, or_self, or_false, false_or, or_true, true_or, Option.bind_some, i32_lit, i64_lit, i32_add, i32_sub, i32_mul, i32_neg, i64_add, i64_sub, i64_neg, i32_lt, i32_le, i32_eq, i64_lt, i64_le, i64_eq, i32_cn, i32_cl, i32_l, i64_i, i32_nat, Int.toNat_natCast, sI_2, sJ_1, sJ_22, sR_1, sR_21, sI_t, sI_r, sI_j, sJ_t, sJ_r, sJ_j, sR_t, sR_r, sR_j]
              exact ⟨σ', rfl, fr_tr f0 a2, a3, a4⟩
            | none =>
              rw [ho] at rec1
              obtain ⟨σ', a1, a2, a3⟩ := rec1
              rw [a1]
              simp (disch := omega) only [↓reduceIte, iT_lt, iF_lt, iT_le, iF_le, iT_eq, iF_eq, nT_lt, nF_lt, nT_le, nF_le, nT_eq, nF_eq, and_self, and_true, true_and, and_false, false_and, not_true_eq_false, not_false_eq_true, ne_eq, or_self, or_false, false_or, or_true, true_or, Option.bind_some, i32_lit, i64_lit, i32_add, i32_sub, i32_mul, i32_neg, i64_add, i64_sub, i64_neg, i32_lt, i32_le, i32_eq, i64_lt, i64_le, i64_eq, i32_cn, i32_cl, i32_l, i64_i, i32_nat, Int.toNat_natCast, sI_2, sJ_1, sJ_22, sR_1, sR_21, sI_t, sI_r, sI_j, sJ_t, sJ_r, sJ_j, sR_t, sR_r, sR_j]
              have hk2 : ∀ j, j < fm → σ'.1 224 j = τ.1 224 j := fun j hj => (a3 j (by omega)).trans (sI_j _ _ (by omega))
              have f2 := fr_tr f0 a2
              exact endR_pre f2 hk2 (ihc (pl + 1) N σ' (by omega) (by omega) (by rw [fr_I f2 222 rfl (by decide)]; exact hp) (by rw [fr_I f2 223 rfl (by decide)]; exact h1) (by rw [fr_I f2 223 rfl (by decide)]; exact h2) (fun j hj => (hk2 j hj).trans (hr j hj)))
          · rw [if_neg (fun q => ft q.2)]
            simp (disch := omega) only [↓reduceIte, iT_lt, iF_lt, iT_le, iF_le, iT_eq, iF_eq, nT_lt, nF_lt, nT_le, nF_le, nT_eq, nF_eq, and_self, and_true, true_and, and_false, false_and, not_true_eq_false, not_false_eq_true, ne_eq, or_self, or_false, false_or, or_true, true_or, Option.bind_some, i32_lit, i64_lit, i32_add, i32_sub, i32_mul, i32_neg, i64_add, i64_sub, i64_neg, i32_lt, i32_le, i32_eq, i64_lt, i64_le, i64_eq, i32_cn, i32_cl, i32_l, i64_i, i32_nat, Int.toNat_natCast, sI_2, sJ_1, sJ_22, sR_1, sR_21, sI_t, sI_r, sI_j, sJ_t, sJ_r, sJ_j, sR_t, sR_r, sR_j, hp, hb, b, may, ft]
            exact nx
        · rw [if_neg (fun q => b q.1)]
          obtain ⟨F, rfl⟩ : ∃ q, F = q + 1 := ⟨F - 1, by omega⟩
          simp (disch := omega) only [↓reduceIte, iT_lt, iF_lt, iT_le, iF_le, iT_eq, iF_eq, nT_lt, nF_lt, nT_le, nF_le, nT_eq, nF_eq, and_self, and_true, true_and, and_false, false_and, not_true_eq_false, not_false_eq_true, ne_eq, or_self, or_false, false_or, or_true, true_or, Option.bind_some, i32_lit, i64_lit, i32_add, i32_sub, i32_mul, i32_neg, i64_add, i64_sub, i64_neg, i32_lt, i32_le, i32_eq, i64_lt, i64_le, i64_eq, i32_cn, i32_cl, i32_l, i64_i, i32_nat, Int.toNat_natCast, sI_2, sJ_1, sJ_22, sR_1, sR_21, sI_t, sI_r, sI_j, sJ_t, sJ_r, sJ_j, sR_t, sR_r, sR_j, hp, hb]
          rw [f_X12_puts_L46]
          by_cases e : fm = 0
          · simp (disch := omega) only [↓reduceIte, iT_lt, iF_lt, iT_le, iF_le, iT_eq, iF_eq, nT_lt, nF_lt, nT_le, nF_le, nT_eq, nF_eq, and_self, and_true, true_and, and_false, false_and, not_true_eq_false, not_false_eq_true, ne_eq, or_self, or_false, false_or, or_true, true_or, Option.bind_some, i32_lit, i64_lit, i32_add, i32_sub, i32_mul, i32_neg, i64_add, i64_sub, i64_neg, i32_lt, i32_le, i32_eq, i64_lt, i64_le, i64_eq, i32_cn, i32_cl, i32_l, i64_i, i32_nat, Int.toNat_natCast, sI_2, sJ_1, sJ_22, sR_1, sR_21, sI_t, sI_r, sI_j, sJ_t, sJ_r, sJ_j, sR_t, sR_r, sR_j]
            exact nx
          · simp (disch := omega) only [↓reduceIte, iT_lt, iF_lt, iT_le, iF_le, iT_eq, iF_eq, nT_lt, nF_lt, nT_le, nF_le, nT_eq, nF_eq, and_self, and_true, true_and, and_false, false_and, not_true_eq_false, not_false_eq_true, ne_eq, or_self, or_false, false_or, or_true, true_or, Option.bind_some, i32_lit, i64_lit, i32_add, i32_sub, i32_mul, i32_neg, i64_add, i64_sub, i64_neg, i32_lt, i32_le, i32_eq, i64_lt, i64_le, i64_eq, i32_cn, i32_cl, i32_l, i64_i, i32_nat, Int.toNat_natCast, sI_2, sJ_1, sJ_22, sR_1, sR_21, sI_t, sI_r, sI_j, sJ_t, sJ_r, sJ_j, sR_t, sR_r, sR_j]
            exact nx
    exact loop n 0 F τ (by omega) (by omega) hp h1 h2 hr
