/-! TALKS: their course -/
theorem ob_n {r : Nat} (h : r ≠ 0 ∧ r ≠ 1 ∧ r ≠ 12 ∧ r ≠ 14 ∧ r ≠ 15 ∧ r ≠ 200) : ob r = false := by
  unfold ob
  simp only [Bool.or_eq_false_iff, beq_eq_false_iff_ne]
  omega
theorem ob_p {r : Nat} (h : r = 0 ∨ r = 1 ∨ r = 12 ∨ r = 14 ∨ r = 15 ∨ r = 200) : ob r = true := by
  rcases h with h | h | h | h | h | h <;> subst h <;> rfl
theorem cd_n {r j : Nat} (h : r ≠ 0 ∧ r ≠ 1 ∧ r ≠ 12 ∧ r ≠ 14 ∧ r ≠ 15 ∧ r ≠ 200) : cd r j = r := cd_a (ob_n h) j
theorem cd_p {r j : Nat} (h : r = 0 ∨ r = 1 ∨ r = 12 ∨ r = 14 ∨ r = 15 ∨ r = 200) : cd r j = 10000 + 100 * r + j := cd_o (ob_p h) j
theorem oc_1 {α : Type} (r : Nat) (a : α) (f : Nat → α) : oc (some r) a f = f r := rfl
abbrev TK := Nat × Int × (Nat → Int) × (Nat → Int) × Nat × Int × Cls × Cls
def kN (T : TK) : Nat := T.1
def kP (T : TK) : Int := T.2.1
def kS (T : TK) : Nat → Int := T.2.2.1
def kC (T : TK) : Nat → Int := T.2.2.2.1
def kL (T : TK) : Nat := T.2.2.2.2.1
def kW (T : TK) : Int := T.2.2.2.2.2.1
def kA (T : TK) : Cls := T.2.2.2.2.2.2.1
def kG (T : TK) : Cls := T.2.2.2.2.2.2.2
def okT (T : TK) : Prop := kN T ≤ 6 ∧ nPr (kP T).toNat ∧ (3 ≤ kP T ∧ kP T ≤ 1000000007) ∧ wf (kC T) (kL T) ∧ nmB (kC T) (kL T) (kN T) ∧ (∀ j, j < 6 → 0 ≤ kS T j ∧ kS T j ≤ 100 ∧ kS T j < kP T) ∧ (0 ≤ kW T ∧ kW T ≤ 64) ∧ kW T = sumF 1000000007 (kC T) (kL T) (kN T) 0 (fun _ => 0) ∧ ((∀ c ∈ kA T, clO c) ∧ (flat (kA T)).length ≤ 800) ∧ (∀ c ∈ kG T, clO c) ∧ (flat (kG T)).length ≤ 800
/-- letters of a GIANT -/
def gL (t c w l i j n p y : Int) : Nat → Int64 := fun q => if q = 0 then i64 t else if q = 1 then i64 c else if q = 2 then i64 w else if q = 3 then i64 l else if q = 4 then i64 i else if q = 5 then i64 j else if q = 6 then i64 n else if q = 7 then i64 p else if q = 8 then i64 y else 0
/-- what is true in round i at j -/
def trI (T : TK) (ds : Nat → Int) (i : Nat) (j : Int) : Int := sumF (kP T) (kC T) (kL T) (kN T - (i + 1)) (i + 1) (uI ds i j)
def twI (T : TK) (ds : Nat → Int) (i : Nat) : Int := (trI T ds i 0 + trI T ds i 1) % kP T
def lsI (ds : Nat → Int) (i : Nat) : Int := if i = 0 then 0 else ds (i - 1)
def fsI (T : TK) (y : Int) : Int := (lwS (gL (kW T % kP T) (kW T % kP T) (kW T % kP T) 0 0 0 (kN T) (kP T) y) 115 (kG T)).toInt % kP T
/-- what is said in round i at j -/
def sdI (T : TK) (y : Int) (ds : Nat → Int) (i : Nat) (cl : Int) (j : Int) : Int := (lwS (gL (trI T ds i j) cl (twI T ds i) (lsI ds i) i j (kN T) (kP T) y) 118 (kG T)).toInt % kP T
def agI (T : TK) (y : Int) (ds : Nat → Int) (i : Nat) (cl : Int) : Bool := !(asI (kN T) (kP T) (kS T) (kA T) 99 i) || decide ((sdI T y ds i cl 0 + sdI T y ds i cl (if kS T i < 1 then kS T i else 1)) % kP T = cl)
def nxI (T : TK) (y : Int) (ds : Nat → Int) (i : Nat) (cl d : Int) : Int := CV (kP T) (fun j => sdI T y ds i cl j) ((kS T i).toNat + 1) d
def dsI (T : TK) (i : Nat) : Int := dcI (kN T) (kP T) (kS T) (kA T) i
def enI (T : TK) (ds : Nat → Int) (cl : Int) : Bool := !(asI (kN T) (kP T) (kS T) (kA T) 101 (kN T)) || decide (Wv (kP T) ds (kC T) (kL T) = cl)
def mixR (m x : Int64) : Int64 := m * 6364136223846793005 + 1442695040888963407 + x
def shI (m : Int64) : Int := (m.toUInt64 >>> ((33 : Int32).toInt64.toUInt64 &&& Int64.toUInt64 63)).toInt64.toInt
theorem shI_rg (m : Int64) : 0 ≤ shI m ∧ shI m ≤ 2147483647 := by
  have h : (m.toUInt64 >>> ((33 : Int32).toInt64.toUInt64 &&& Int64.toUInt64 63)).toNat ≤ 2147483647 := by
    rw [show ((33 : Int32).toInt64.toUInt64 &&& Int64.toUInt64 63) = (33 : UInt64) by decide, UInt64.toNat_shiftRight, show (33 : UInt64).toNat % 64 = 33 by decide, Nat.shiftRight_eq_div_pow]
    have := m.toUInt64.toNat_lt
    omega
  unfold shI
  have e : (m.toUInt64 >>> ((33 : Int32).toInt64.toUInt64 &&& Int64.toUInt64 63)).toInt64.toInt = ((m.toUInt64 >>> ((33 : Int32).toInt64.toUInt64 &&& Int64.toUInt64 63)).toNat : Int) := by
    show BitVec.toInt _ = _
    rw [BitVec.toInt_eq_toNat_of_lt]
    · rfl
    · show 2 * (m.toUInt64 >>> ((33 : Int32).toInt64.toUInt64 &&& Int64.toUInt64 63)).toNat < 2 ^ 64
      omega
  omega
def foldG (h : Int64 → Int → Int64) (f : Nat → Int) : Nat → Nat → Int64 → Int64
  | 0, _, m => m
  | k + 1, j, m => foldG h f k (j + 1) (h m (f j))
theorem foldG_s (h : Int64 → Int → Int64) (f : Nat → Int) (k j : Nat) (m : Int64) : foldG h f (k + 1) j m = foldG h f k (j + 1) (h m (f j)) := by rw [foldG]
theorem foldG_0 (h : Int64 → Int → Int64) (f : Nat → Int) (j : Nat) (m : Int64) : foldG h f 0 j m = m := by rw [foldG]
def mixI (m : Int64) (x : Int) : Int64 := mixR m (i64 x)
def foldM (f : Nat → Int) (k j : Nat) (m : Int64) : Int64 := foldG mixI f k j m
theorem foldM_s (f : Nat → Int) (k j : Nat) (m : Int64) : foldM f (k + 1) j m = foldM f k (j + 1) (mixI m (f j)) := foldG_s mixI f k j m
theorem foldM_0 (f : Nat → Int) (j : Nat) (m : Int64) : foldM f 0 j m = m := foldG_0 mixI f j m
theorem tr_rg {T : TK} {ds : Nat → Int} {i : Nat} {j : Int} (h : okT T) (hd : ∀ x, 0 ≤ ds x ∧ ds x < kP T) (hj : 0 ≤ j ∧ j < kP T) : 0 ≤ trI T ds i j ∧ trI T ds i j < kP T := sumF_rg (by have := h.2.2.1; omega) h.2.2.2.1 _ _ (uI_in (fun x _ => hd x) hj)
theorem tw_rg {T : TK} {ds : Nat → Int} {i : Nat} (h : okT T) : 0 ≤ twI T ds i ∧ twI T ds i < kP T := mod_rg _ (by have := h.2.2.1; omega)
theorem sd_rg {T : TK} {y : Int} {ds : Nat → Int} {i : Nat} {cl j : Int} (h : okT T) : 0 ≤ sdI T y ds i cl j ∧ sdI T y ds i cl j < kP T := mod_rg _ (by have := h.2.2.1; omega)
theorem fs_rg {T : TK} {y : Int} (h : okT T) : 0 ≤ fsI T y ∧ fsI T y < kP T := mod_rg _ (by have := h.2.2.1; omega)
theorem nx_rg {T : TK} {y : Int} {ds : Nat → Int} {i : Nat} {cl d : Int} (h : okT T) : 0 ≤ nxI T y ds i cl d ∧ nxI T y ds i cl d < kP T := mod_rg _ (by have := h.2.2.1; omega)
/-! the class's TALK -/
def tkZ (Z : hZ) (r1 s tl tg : Nat) (T : TK) : Prop := Z.2.2.2 r1 0 = some s ∧ isSa Z s = true ∧ Z.2.2.2 r1 2 = some tl ∧ isTe Z tl = true ∧ Z.2.2.2 r1 3 = some tg ∧ isTe Z tg = true ∧ isTa Z r1 = true ∧ Z.2.2.1 r1 1 = i32 (kP T) ∧ sgn Z s (kC T) (kL T) ∧ Z.2.2.1 s 2 = i32 (kN T) ∧ Z.2.2.1 s 4 = i32 (kW T) ∧ Z.2.1 (s + 2000) = 6 ∧ (∀ j, j < 6 → Z.2.2.1 (s + 2000) j = i32 (kS T j)) ∧ cdZ Z (tl + 2000) (flat (kA T)) ∧ cdZ Z (tg + 2000) (flat (kG T))
theorem p_saidBy {F : Nat} {Z : hZ} {σ : hSt} {r0 r1 s tl tg : Nat} {lab : Int} {T : TK} {L : Nat → Int64} (hF : 1000 ≤ F) (hr : r0 = 14 ∨ r0 = 15) (hlab : 0 ≤ lab ∧ lab ≤ 255) (hz : tkZ Z r1 s tl tg T) (hT : okT T) (hL : ∀ q, q < 10 → σ.2.1 (r0 + 2) q = L q) : ∃ σ', f_X1_saidBy F Z σ r0 r1 (i32 lab) = some (i64 ((lwS L lab (kG T)).toInt % kP T), σ') ∧ fr [8] σ σ' := by
  obtain ⟨a1, a2, a3, a4, a5, a6, a7, a8, a9, a10, a11, a12, a13, a14, a15⟩ := hz
  obtain ⟨b1, b2, b3, b4, b5, b6, b7, b8, b9, b10, b11⟩ := hT
  obtain ⟨σ', e1, e2⟩ := p_labelWorth (Z := Z) (r := tg) (r4 := r0 + 2) (lab := lab) hF (by rcases hr with h | h <;> subst h <;> rfl) (ob_n (by omega)) (by omega) b11 hlab b10 rfl a15 σ hL
  refine ⟨σ', ?_, e2⟩
  unfold f_X1_saidBy
  rw [a5, oc_1, if_pos a6, e1, obs]
  dsimp only
  rw [a8, i32_l (by omega), pr_rest _ (by omega), obs]
theorem p_drawBefore {Z : hZ} {σ : hSt} {r0 i : Nat} {ds : Nat → Int} (hi : i < 6) (h : ∀ x, x < i → σ.2.1 (r0 + 4) x = i64 (ds x)) : f_X1_drawBefore Z σ r0 (i32 (i : Int)) = some (i64 (lsI ds i)) := by
  unfold f_X1_drawBefore lsI
  by_cases c : i = 0
  · subst c
    rfl
  · have e : i32 (i : Int) - (1 : Int32) = i32 ((i - 1 : Nat) : Int) := by rw [show (1 : Int32) = i32 1 from rfl, i32_sub]; congr 1; omega
    rw [if_neg (show ¬ i32 (i : Int) < (1 : Int32) by rw [show (1 : Int32) = i32 1 from rfl, i32_lt (by omega)]; omega), if_pos (show i32 (i : Int) ≤ (6 : Int32) by rw [show (6 : Int32) = i32 6 from rfl, i32_le (by omega)]; omega), e, i32_cn (by omega), if_neg (show ¬ (i32 ((i - 1 : Nat) : Int) < (0 : Int32) ∨ 6 ≤ i - 1) by rw [show (0 : Int32) = i32 0 from rfl, i32_lt (by omega)]; omega), if_neg c, h (i - 1) (by omega)]
theorem p_stir {Z : hZ} {σ : hSt} {r0 : Nat} {x : Int64} : f_X1_stir Z σ r0 x = some ((), sJ σ r0 14 (mixR (σ.2.1 r0 14) x)) := rfl
theorem dr_v {m : Int64} {d : Int} (hd : 1 ≤ d ∧ d ≤ 1000000007) : (m.toUInt64 >>> ((33 : Int32).toInt64.toUInt64 &&& Int64.toUInt64 63)).toInt64 - (m.toUInt64 >>> ((33 : Int32).toInt64.toUInt64 &&& Int64.toUInt64 63)).toInt64 / i64 d * i64 d = i64 (shI m % d) := by
  have h := shI_rg m
  have e : (m.toUInt64 >>> ((33 : Int32).toInt64.toUInt64 &&& Int64.toUInt64 63)).toInt64 = i64 (shI m) := (i64_all _).1
  rw [e, i64_rem (by omega)]
theorem p_drawOfDice {Z : hZ} {σ : hSt} {r0 : Nat} {d : Int} (hd : 1 ≤ d ∧ d ≤ 1000000007) : f_X1_drawOfDice Z σ r0 (i32 d) = some (i32 (shI (σ.2.1 r0 14) % d)) := by
  unfold f_X1_drawOfDice
  rw [if_pos (show (1 : Int32) ≤ i32 d by rw [show (1 : Int32) = i32 1 from rfl, i32_le (by omega)]; omega), i32_l (by omega), if_neg (show ¬ i64 d = (0 : Int64) by rw [show (0 : Int64) = i64 0 from rfl, i64_eq (by omega)]; omega), dr_v hd, i64_i]
