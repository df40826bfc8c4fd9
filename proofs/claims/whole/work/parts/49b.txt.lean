/-! LAWS and GIANTS: letters, and the grammar -/
def ixG (k : Nat) (t : Int32) : Nat → Nat → Int
  | 0, _ => -1
  | f + 1, j => if sch k j = t then (j : Int) else ixG k t f (j + 1)
def ixS (k c : Nat) : Int := ixG k ((i32 (c : Int)).toInt8.toInt32) (slen k) 0
theorem ixG_rg (k : Nat) (t : Int32) : ∀ f j, -1 ≤ ixG k t f j ∧ ixG k t f j < f + j
  | 0, j => by simp [ixG]; omega
  | f + 1, j => by
    rw [ixG]
    split
    · omega
    · have := ixG_rg k t f (j + 1)
      omega
theorem slen_le {k : Nat} (hk : k < 5) : 1 ≤ slen k ∧ slen k ≤ 10 := by
  have : ∀ k, k < 5 → 1 ≤ slen k ∧ slen k ≤ 10 := by decide
  exact this k hk
theorem ixS_rg {k : Nat} (hk : k < 5) (c : Nat) : -1 ≤ ixS k c ∧ ixS k c ≤ 9 := by
  have := ixG_rg k ((i32 (c : Int)).toInt8.toInt32) (slen k) 0
  have := slen_le hk
  unfold ixS; omega
theorem p_ix_L {k : Nat} {t : Int32} (hk : k < 5) : ∀ m j N, j + m = slen k → m < N → f_J1_indexOfChar_4cfef_L7 k (i32 (slen k : Int)) t N (i32 (j : Int)) = some (i32 (ixG k t m j)) := by
  intro m
  have hl := slen_le hk
  induction m with
  | zero =>
    intro j N hj hN
    obtain ⟨N, rfl⟩ : ∃ q, N = q + 1 := ⟨N - 1, by omega⟩
    obtain rfl : j = slen k := by omega
    rw [f_J1_indexOfChar_4cfef_L7, if_pos (Int32.le_refl _), ixG]
    rfl
  | succ m ih =>
    intro j N hj hN
    obtain ⟨N, rfl⟩ : ∃ q, N = q + 1 := ⟨N - 1, by omega⟩
    have i := ih (j + 1) N (by omega) (by omega)
    rw [f_J1_indexOfChar_4cfef_L7, ixG]
    by_cases c : sch k j = t
    · rw [if_pos c]
      simp (disch := omega) only [↓reduceIte, iT_lt, iF_lt, iT_le, iF_le, iT_eq, iF_eq, nT_lt, nF_lt, nT_le, nF_le, nT_eq, nF_eq, and_self, and_true, true_and, and_false, false_and, not_true_eq_false, not_false_eq_true, ne_eq, or_self, or_false, false_or, or_true, true_or, Option.bind_some, i32_lit, i64_lit, i32_add, i32_sub, i32_mul, i32_neg, i64_add, i64_sub, i64_neg, i32_lt, i32_le, i32_eq, i64_lt, i64_le, i64_eq, i32_cn, i32_cl, i32_l, i64_i, i32_nat, Int.toNat_natCast, sI_2, sJ_1, sJ_22, sR_1, sR_21, sI_t, sI_r, sI_j, sJ_t, sJ_r, sJ_j, sR_t, sR_r, sR_j, c]
    · rw [if_neg c]
      simp (disch := omega) only [↓reduceIte, iT_lt, iF_lt, iT_le, iF_le, iT_eq, iF_eq, nT_lt, nF_lt, nT_le, nF_le, nT_eq, nF_eq, and_self, and_true, true_and, and_false, false_and, not_true_eq_false, not_false_eq_true, ne_eq, or_self, or_false, false_or, or_true, true_or, Option.bind_some, i32_lit, i64_lit, i32_add, i32_sub, i32_mul, i32_neg, i64_add, i64_sub, i64_neg, i32_lt, i32_le, i32_eq, i64_lt, i64_le, i64_eq, i32_cn, i32_cl, i32_l, i64_i, i32_nat, Int.toNat_natCast, sI_2, sJ_1, sJ_22, sR_1, sR_21, sI_t, sI_r, sI_j, sJ_t, sJ_r, sJ_j, sR_t, sR_r, sR_j]
      rw [if_neg c]
      exact i
theorem p_ix {F k c : Nat} (hF : 300 ≤ F) (hk : k < 5) (hc : c ≤ 255) : f_J0_indexOf_0f7a4 F k (i32 (c : Int)) = some (i32 (ixS k c)) := by
  have hl := slen_le hk
  unfold f_J0_indexOf_0f7a4 f_J0_indexOf_7cf53 f_J0_isLatin1_aae02 f_J0_length_8abf5 f_J0_coder_7d493 f_J1_indexOf_4cfef f_J1_canEncode_9a6ad f_J1_indexOfChar_4cfef
  have i := p_ix_L (t := (i32 (c : Int)).toInt8.toInt32) hk (slen k) 0 F (by omega) (by omega)
  have e0 : i32 (slen k : Int) >>> (i32 0 &&& i32 31) = i32 (slen k : Int) := by
    have := i32_shr (a := (slen k : Int)) (k := 0) (by decide) ⟨by omega, by omega⟩
    rw [show ((0 : Nat) : Int) = 0 from rfl, Int.pow_zero, Int.ediv_one] at this
    exact this
  have e31 : (31 : Int32) = i32 31 := rfl
  rw [show ((0 : Nat) : Int) = 0 from rfl] at i
  simp (disch := omega) only [↓reduceIte, iT_lt, iF_lt, iT_le, iF_le, iT_eq, iF_eq, nT_lt, nF_lt, nT_le, nF_le, nT_eq, nF_eq, and_self, and_true, true_and, and_false, false_and, not_true_eq_false, not_false_eq_true, ne_eq, or_self, or_false, false_or, or_true, true_or, Option.bind_some, i32_lit, i64_lit, i32_add, i32_sub, i32_mul, i32_neg, i64_add, i64_sub, i64_neg, i32_lt, i32_le, i32_eq, i64_lt, i64_le, i64_eq, i32_cn, i32_cl, i32_l, i64_i, i32_nat, Int.toNat_natCast, sI_2, sJ_1, sJ_22, sR_1, sR_21, sI_t, sI_r, sI_j, sJ_t, sJ_r, sJ_j, sR_t, sR_r, sR_j, e31, e0, i]
  rfl
theorem ch16 {c : Nat} (hc : c ≤ 255) : ((i32 (c : Int)).toUInt32 % 65536).toInt32 = i32 (c : Int) := by
  have : ∀ c : Fin 256, ((i32 (c.val : Int)).toUInt32 % 65536).toInt32 = i32 (c.val : Int) := by decide +kernel
  exact this ⟨c, by omega⟩
/-- a digit at p itself -/
def dg (B : Nat → Nat) (n p : Nat) : Bool := decide (p < n) && (decide (48 ≤ B p) && decide (B p ≤ 57))
def nuN (B : Nat → Nat) (n : Nat) : Nat → Nat → Int → PR
  | 0, p, v => if dg B n p = true then (false, p, []) else (true, p, [v])
  | k + 1, p, v => if dg B n p = true then nuN B n k (p + 1) (v * 10 + (B p : Int) - 48) else (true, p, [v])
def isC2 (a b : Nat) : Nat → Bool := fun x => x == a || x == b
def emC : Nat → Int := fun c => 20000 + (c : Int)
/-- an atom that isn't in brackets -/
def lfA (B : Nat → Nat) (n g q : Nat) : PR := if dg B n q = true then nuN B n 4 q 0 else if 0 ≤ ixS (2 * g + 1) (pk B n q) then (true, q + 1, [10000 + ixS 4 (pk B n q)]) else (false, q, [])
/-- what stands in marks, and the mark that closes it -/
def clo (B : Nat → Nat) (n c : Nat) (r : PR) : PR := if r.1 = true then (if pk B n (sk B n r.2.1) = c then (true, sk B n r.2.1 + 1, r.2.2) else (false, sk B n r.2.1, [])) else (false, r.2.1, [])
def tA (B : Nat → Nat) (n g : Nat) : Nat → Nat → PR
  | 0, p => if pk B n (sk B n p) = 91 then (false, sk B n p, []) else lfA B n g (sk B n p)
  | d + 1, p => if pk B n (sk B n p) = 91 then clo B n 93 (chn B n (isC2 43 45) emC (chn B n (isC2 42 47) emC (tA B n g d)) (sk B n p + 1)) else lfA B n g (sk B n p)
def tM (B : Nat → Nat) (n g d : Nat) : Nat → PR := chn B n (isC2 42 47) emC (tA B n g d)
def tT (B : Nat → Nat) (n g d : Nat) : Nat → PR := chn B n (isC2 43 45) emC (tM B n g d)
theorem tA_s (B : Nat → Nat) (n g d p : Nat) : tA B n g (d + 1) p = if pk B n (sk B n p) = 91 then clo B n 93 (tT B n g d (sk B n p + 1)) else lfA B n g (sk B n p) := rfl
theorem nuN_PG {B : Nat → Nat} {n : Nat} : ∀ k p v, p ≤ n → (nuN B n k p v).2.1 ≤ n ∧ p ≤ (nuN B n k p v).2.1 ∧ ((nuN B n k p v).1 = true → (nuN B n k p v).2.2.length = 1)
  | 0, p, v, h => by
    rw [nuN]
    split
    · exact ⟨h, Nat.le_refl _, fun e => by cases e⟩
    · exact ⟨h, Nat.le_refl _, fun _ => rfl⟩
  | k + 1, p, v, h => by
    rw [nuN]
    split
    · rename_i c
      unfold dg at c
      simp only [Bool.and_eq_true, decide_eq_true_eq] at c
      obtain ⟨a, b, e⟩ := nuN_PG (B := B) (n := n) k (p + 1) (v * 10 + (B p : Int) - 48) (by omega)
      exact ⟨a, by omega, e⟩
    · exact ⟨h, Nat.le_refl _, fun _ => rfl⟩
theorem lfA_PG {B : Nat → Nat} {n g q : Nat} (hq : q ≤ n) (hg : g ≤ 1) : (lfA B n g q).2.1 ≤ n ∧ ((lfA B n g q).1 = true → q < (lfA B n g q).2.1 ∧ (lfA B n g q).2.2.length + q ≤ (lfA B n g q).2.1) := by
  unfold lfA
  by_cases c : dg B n q = true
  · rw [if_pos c]
    have hd := c
    unfold dg at c
    simp only [Bool.and_eq_true, decide_eq_true_eq] at c
    rw [nuN, if_pos hd]
    obtain ⟨a, b, e⟩ := nuN_PG (B := B) (n := n) 3 (q + 1) (0 * 10 + (B q : Int) - 48) (by omega)
    refine ⟨a, fun z => ?_⟩
    have := e z
    omega
  · rw [if_neg c]
    by_cases c2 : 0 ≤ ixS (2 * g + 1) (pk B n q)
    · rw [if_pos c2]
      have hlt : q < n := by
        rcases Nat.lt_or_ge q n with r | r
        · exact r
        · exfalso
          unfold pk at c2
          rw [if_neg (by omega)] at c2
          have : g = 0 ∨ g = 1 := by omega
          rcases this with rfl | rfl
          · exact absurd c2 (by decide +kernel)
          · exact absurd c2 (by decide +kernel)
      exact ⟨hlt, fun _ => ⟨Nat.lt_succ_self q, by show 1 + q ≤ q + 1; omega⟩⟩
    · rw [if_neg c2]
      exact ⟨hq, fun e => by cases e⟩
theorem clo_PG {B : Nat → Nat} {n c p : Nat} {r : PR} (hc : c ≠ 0) (h1 : r.2.1 ≤ n) (h2 : r.1 = true → p < r.2.1 ∧ r.2.2.length + p ≤ r.2.1) : (clo B n c r).2.1 ≤ n ∧ ((clo B n c r).1 = true → p < (clo B n c r).2.1 ∧ (clo B n c r).2.2.length + p ≤ (clo B n c r).2.1) := by
  unfold clo
  by_cases e : r.1 = true
  · rw [if_pos e]
    obtain ⟨a, b⟩ := h2 e
    have hs := sk_rg (B := B) h1
    by_cases e2 : pk B n (sk B n r.2.1) = c
    · have hlt := pkp_lt (show pk B n (sk B n r.2.1) ≠ 0 by omega)
      rw [if_pos e2]
      exact ⟨hlt, fun _ => ⟨by show p < sk B n r.2.1 + 1; omega, by show r.2.2.length + p ≤ sk B n r.2.1 + 1; omega⟩⟩
    · rw [if_neg e2]
      exact ⟨hs.2, fun z => by cases z⟩
  · rw [if_neg e]
    exact ⟨h1, fun z => by cases z⟩
theorem tA_PG (B : Nat → Nat) (n g : Nat) (hg : g ≤ 1) : ∀ d, PG n (tA B n g d)
  | 0 => by
    intro p hp
    have hs := sk_rg (B := B) hp
    rw [tA]
    by_cases c : pk B n (sk B n p) = 91
    · rw [if_pos c]; exact ⟨hs.2, fun z => by cases z⟩
    · rw [if_neg c]
      obtain ⟨a, b⟩ := lfA_PG (B := B) hs.2 hg
      exact ⟨a, fun z => by have := b z; omega⟩
  | d + 1 => by
    intro p hp
    have hs := sk_rg (B := B) hp
    have ih : PG n (tT B n g d) := chn_PG rfl (chn_PG rfl (tA_PG B n g hg d))
    rw [tA_s]
    by_cases c : pk B n (sk B n p) = 91
    · have hlt := pkp_lt (show pk B n (sk B n p) ≠ 0 by omega)
      rw [if_pos c]
      obtain ⟨a, b⟩ := ih (sk B n p + 1) hlt
      exact clo_PG (by omega) a (fun z => by have := b z; omega)
    · rw [if_neg c]
      obtain ⟨a, b⟩ := lfA_PG (B := B) hs.2 hg
      exact ⟨a, fun z => by have := b z; omega⟩
theorem tM_PG (B : Nat → Nat) (n g : Nat) (hg : g ≤ 1) (d : Nat) : PG n (tM B n g d) := chn_PG rfl (tA_PG B n g hg d)
theorem tT_PG (B : Nat → Nat) (n g : Nat) (hg : g ≤ 1) (d : Nat) : PG n (tT B n g d) := chn_PG rfl (tM_PG B n g hg d)
/-! conditions -/
def isCm (c : Nat) : Bool := c == 61 || c == 60 || c == 62
/-- the comparison behind a first SUM whose signs are acc -/
def cmp (B : Nat → Nat) (n g d p : Nat) (acc : List Int) : PR := if isCm (pk B n (sk B n p)) = true then (if (tT B n g d (sk B n p + 1)).1 = true then (true, (tT B n g d (sk B n p + 1)).2.1, acc ++ ((tT B n g d (sk B n p + 1)).2.2 ++ [20000 + (pk B n (sk B n p) : Int)])) else (false, (tT B n g d (sk B n p + 1)).2.1, [])) else (false, sk B n p, [])
def sCm (B : Nat → Nat) (n g d p : Nat) : PR := if (tT B n g d p).1 = true then cmp B n g d (tT B n g d p).2.1 (tT B n g d p).2.2 else (false, (tT B n g d p).2.1, [])
/-- a row whose first thing has been read -/
def chF (B : Nat → Nat) (n : Nat) (ops : Nat → Bool) (em : Nat → Int) (it : Nat → PR) (r : PR) : PR := if r.1 = true then chL B n ops em it 200 r.2.1 r.2.2 else (false, r.2.1, [])
def e38 : Nat → Int := fun _ => 20038
def e124 : Nat → Int := fun _ => 20124
def add1 (r : PR) (e : Int) : PR := if r.1 = true then (true, r.2.1, r.2.2 ++ [e]) else (false, r.2.1, [])
def tU (B : Nat → Nat) (n g : Nat) : Nat → Nat → PR
  | 0, p => if pk B n (sk B n p) = 33 ∨ pk B n (sk B n p) = 40 then (false, sk B n p, []) else sCm B n g 0 (sk B n p)
  | d + 1, p => if pk B n (sk B n p) = 33 then add1 (tU B n g d (sk B n p + 1)) 20033 else if pk B n (sk B n p) = 40 then clo B n 41 (chn B n (isC 124) e124 (chn B n (isC 38) e38 (tU B n g d)) (sk B n p + 1)) else sCm B n g (d + 1) (sk B n p)
def tP (B : Nat → Nat) (n g d : Nat) : Nat → PR := chn B n (isC 38) e38 (tU B n g d)
def tC (B : Nat → Nat) (n g d : Nat) : Nat → PR := chn B n (isC 124) e124 (tP B n g d)
theorem tU_s (B : Nat → Nat) (n g d p : Nat) : tU B n g (d + 1) p = if pk B n (sk B n p) = 33 then add1 (tU B n g d (sk B n p + 1)) 20033 else if pk B n (sk B n p) = 40 then clo B n 41 (tC B n g d (sk B n p + 1)) else sCm B n g (d + 1) (sk B n p) := rfl
theorem cmp_PG {B : Nat → Nat} {n g d p q : Nat} {acc : List Int} (hg : g ≤ 1) (hp : p ≤ n) (hq : acc.length + q ≤ p) : (cmp B n g d p acc).2.1 ≤ n ∧ ((cmp B n g d p acc).1 = true → p < (cmp B n g d p acc).2.1 ∧ (cmp B n g d p acc).2.2.length + q ≤ (cmp B n g d p acc).2.1) := by
  have hs := sk_rg (B := B) hp
  unfold cmp
  by_cases c : isCm (pk B n (sk B n p)) = true
  · have hlt := pkp_lt (show pk B n (sk B n p) ≠ 0 by intro z; rw [z] at c; exact absurd c (by decide))
    rw [if_pos c]
    obtain ⟨a, b⟩ := tT_PG B n g hg d (sk B n p + 1) hlt
    by_cases e : (tT B n g d (sk B n p + 1)).1 = true
    · rw [if_pos e]
      obtain ⟨b1, b2⟩ := b e
      refine ⟨a, fun _ => ⟨by show p < (tT B n g d (sk B n p + 1)).2.1; omega, ?_⟩⟩
      simp only [List.length_append, List.length_cons, List.length_nil]
      omega
    · rw [if_neg e]; exact ⟨a, fun z => by cases z⟩
  · rw [if_neg c]; exact ⟨hs.2, fun z => by cases z⟩
theorem sCm_PG {B : Nat → Nat} {n g d p : Nat} (hg : g ≤ 1) (hp : p ≤ n) : (sCm B n g d p).2.1 ≤ n ∧ ((sCm B n g d p).1 = true → p < (sCm B n g d p).2.1 ∧ (sCm B n g d p).2.2.length + p ≤ (sCm B n g d p).2.1) := by
  unfold sCm
  obtain ⟨a, b⟩ := tT_PG B n g hg d p hp
  by_cases e : (tT B n g d p).1 = true
  · rw [if_pos e]
    obtain ⟨b1, b2⟩ := b e
    obtain ⟨c1, c2⟩ := cmp_PG (B := B) (d := d) (q := p) hg a b2
    exact ⟨c1, fun z => by have := c2 z; omega⟩
  · rw [if_neg e]; exact ⟨a, fun z => by cases z⟩
theorem tU_PG (B : Nat → Nat) (n g : Nat) (hg : g ≤ 1) : ∀ d, PG n (tU B n g d)
  | 0 => by
    intro p hp
    have hs := sk_rg (B := B) hp
    rw [tU]
    by_cases c : pk B n (sk B n p) = 33 ∨ pk B n (sk B n p) = 40
    · rw [if_pos c]; exact ⟨hs.2, fun z => by cases z⟩
    · rw [if_neg c]
      obtain ⟨a, b⟩ := sCm_PG (B := B) (d := 0) hg hs.2
      exact ⟨a, fun z => by have := b z; omega⟩
  | d + 1 => by
    intro p hp
    have hs := sk_rg (B := B) hp
    have ih := tU_PG B n g hg d
    have ihC : PG n (tC B n g d) := chn_PG rfl (chn_PG rfl ih)
    rw [tU_s]
    by_cases c : pk B n (sk B n p) = 33
    · have hlt := pkp_lt (show pk B n (sk B n p) ≠ 0 by omega)
      rw [if_pos c]
      obtain ⟨a, b⟩ := ih (sk B n p + 1) hlt
      unfold add1
      by_cases e : (tU B n g d (sk B n p + 1)).1 = true
      · rw [if_pos e]
        obtain ⟨b1, b2⟩ := b e
        refine ⟨a, fun _ => ⟨by show p < (tU B n g d (sk B n p + 1)).2.1; omega, ?_⟩⟩
        simp only [List.length_append, List.length_cons, List.length_nil]
        omega
      · rw [if_neg e]; exact ⟨a, fun z => by cases z⟩
    · rw [if_neg c]
      by_cases c2 : pk B n (sk B n p) = 40
      · have hlt := pkp_lt (show pk B n (sk B n p) ≠ 0 by omega)
        rw [if_pos c2]
        obtain ⟨a, b⟩ := ihC (sk B n p + 1) hlt
        exact clo_PG (by omega) a (fun z => by have := b z; omega)
      · rw [if_neg c2]
        obtain ⟨a, b⟩ := sCm_PG (B := B) (d := d + 1) hg hs.2
        exact ⟨a, fun z => by have := b z; omega⟩
theorem tP_PG (B : Nat → Nat) (n g : Nat) (hg : g ≤ 1) (d : Nat) : PG n (tP B n g d) := chn_PG rfl (tU_PG B n g hg d)
theorem tC_PG (B : Nat → Nat) (n g : Nat) (hg : g ≤ 1) (d : Nat) : PG n (tC B n g d) := chn_PG rfl (tP_PG B n g hg d)
