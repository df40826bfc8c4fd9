/-! a round, model -/
theorem p_mspeaks {x s kl kg nl ng F i : Nat} {Bl Bg : Nat → Nat} {T : TK} {Z : hZ} {τ : hSt} {y cl : Int} {ds : Nat → Int} (hF : 300 ≤ F) (hT : okT T) (hi : i < kN T) (hy : 0 ≤ y ∧ y ≤ 1000000) (hcl : 0 ≤ cl ∧ cl < kP T) (hd : ∀ x, 0 ≤ ds x ∧ ds x < kP T) (h : tkM x s kl kg nl ng Bl Bg T τ) (h4 : ∀ q, q < i → τ.2.1 218 q = i64 (ds q)) : ∃ υ, f_X12_speaks F Z τ (i32 (x : Int)) (i32 (i : Int)) (i64 cl) (i32 y) = some ((), υ) ∧ fr WP τ υ ∧ (∀ q : Nat, q ≤ (kS T i).toNat → υ.2.1 219 (201 * i + q) = i64 (sdI T y ds i cl (q : Int))) ∧ (∀ p, (p < 201 * i ∨ 201 * i + (kS T i).toNat < p) → υ.2.1 219 p = τ.2.1 219 p) := by
  have hN := hT.1
  have hP := hT.2.2.1
  have hS := hT.2.2.2.2.2.1 i (by omega)
  have hx := ix_ok (x := x) h.1 (by have := h.1; omega)
  have hx2 : x ≤ 2147483647 := by have := h.1; omega
  obtain ⟨τ1, a1, a2⟩ := p_mtrueAt (Z := Z) (F := F) (j := 0) hF hT h hi (by omega) hd h4
  have a2' : fr WP τ τ1 := fr_mono a2 (by decide)
  obtain ⟨τ2, b1, b2⟩ := p_mtrueAt (Z := Z) (F := F) (j := 1) hF hT (tkM_fr h (fr_mono a2' WP_T)) hi (by omega) hd (fun q hq => by rw [fr_J a2' 218 rfl (by decide)]; exact h4 q hq)
  have b2' : fr WP τ1 τ2 := fr_mono b2 (by decide)
  have f2 := fr_tr a2' b2'
  have t0 := tr_rg (i := i) (j := ((0 : Nat) : Int)) hT hd (by omega)
  have t1 := tr_rg (i := i) (j := ((1 : Nat) : Int)) hT hd (by omega)
  obtain ⟨υ, u1, u2, u3, u4⟩ := p_mspL (Z := Z) hF hT hi hy hcl hd ((kS T i).toNat + 1) 0 F τ2 (by omega) (by omega) (tkM_fr h (fr_mono f2 WP_T)) (fun q hq => by rw [fr_J f2 218 rfl (by decide)]; exact h4 q hq) (fun q hq => absurd hq (Nat.not_lt_zero q))
  refine ⟨υ, ?_, fr_tr f2 u2, u3, fun p hp => by rw [u4 p hp, fr_J b2 219 rfl (by decide), fr_J a2 219 rfl (by decide)]⟩
  unfold f_X12_speaks
  rw [i32_cn hx2, if_neg hx, if_neg hx, show (0 : Int32) = i32 ((0 : Nat) : Int) from rfl, a1, obs]
  dsimp only
  rw [show (1 : Int32) = i32 ((1 : Nat) : Int) from rfl, b1, obs, h.2.1, h.2.2.1, i32_l (by omega), if_neg (show ¬ i64 (kP T) = (0 : Int64) by rw [show (0 : Int64) = i64 0 from rfl, i64_eq (by omega)]; omega), i64_add]
  dsimp only
  rw [i64_rem (by omega)]
  exact u1
theorem p_msumsUp {x s kl kg nl ng i : Nat} {Bl Bg : Nat → Nat} {T : TK} {Z : hZ} {τ : hSt} {y cl : Int} {ds : Nat → Int} (hT : okT T) (hi : i < kN T) (hcl : 0 ≤ cl ∧ cl < kP T) (h : tkM x s kl kg nl ng Bl Bg T τ) (hs : ∀ q : Nat, q ≤ (kS T i).toNat → τ.2.1 219 (201 * i + q) = i64 (sdI T y ds i cl (q : Int))) : f_X12_sumsUp Z τ (i32 (x : Int)) (i32 (i : Int)) (i64 cl) = some (b01 (decide ((sdI T y ds i cl 0 + sdI T y ds i cl (if kS T i < 1 then kS T i else 1)) % kP T = cl))) := by
  have hN := hT.1
  have hP := hT.2.2.1
  have hS := hT.2.2.2.2.2.1 i (by omega)
  have hx := ix_ok (x := x) h.1 (by have := h.1; omega)
  have hx2 : x ≤ 2147483647 := by have := h.1; omega
  have h6 := h.2.2.2.2.2.1
  have hs20 := h6.2.2.1
  have hq : (6 : Int32) * i32 (s : Int) + i32 (i : Int) = i32 ((6 * s + i : Nat) : Int) := by rw [show (6 : Int32) = i32 6 from rfl, i32_mul, i32_add]; rfl
  have hq0 : (201 : Int32) * i32 (i : Int) = i32 ((201 * i : Nat) : Int) := by rw [show (201 : Int32) = i32 201 from rfl, i32_mul]; rfl
  have hq1 : i32 ((201 * i : Nat) : Int) + (0 : Int32) = i32 ((201 * i : Nat) : Int) := by rw [show (0 : Int32) = i32 0 from rfl, i32_add]; exact congrArg i32 (Int.add_zero _)
  have g0 := hs 0 (Nat.zero_le _)
  have q0 := sd_rg (y := y) (ds := ds) (i := i) (cl := cl) (j := 0) hT
  have q1 := sd_rg (y := y) (ds := ds) (i := i) (cl := cl) (j := if kS T i < 1 then kS T i else 1) hT
  have q2 := mod_rg (sdI T y ds i cl 0 + sdI T y ds i cl (if kS T i < 1 then kS T i else 1)) (show 0 < kP T by omega)
  have g0' : τ.2.1 219 (201 * i) = i64 (sdI T y ds i cl 0) := g0
  unfold f_X12_sumsUp
  rw [i32_cn hx2, if_neg hx, h.2.1, hq, hq0, hq1, i32_cn (show 6 * s + i ≤ 2147483647 by omega), if_neg (ix_ok (show 6 * s + i < 126 by omega) (by omega)), i32_cn (show 201 * i ≤ 2147483647 by omega), if_neg (ix_ok (show 201 * i < 1206 by omega) (by omega)), (h6.2.2.2.2.2.2 i (by omega)).1, h.2.2.1, i32_l (by omega), if_neg hx, if_neg (show ¬ i64 (kP T) = (0 : Int64) by rw [show (0 : Int64) = i64 0 from rfl, i64_eq (by omega)]; omega), g0']
  by_cases c : kS T i < 1
  · have hS0 : kS T i = 0 := by omega
    rw [if_pos (show i32 (kS T i) = (0 : Int32) by rw [hS0]; rfl), if_pos c, if_neg (ix_ok (show 201 * i < 1206 by omega) (by omega)), hS0, i64_add, i64_rem (by omega)]
    rw [if_pos c, hS0] at q2
    by_cases e : (sdI T y ds i cl 0 + sdI T y ds i cl 0) % kP T = cl
    · rw [if_pos (by rw [e]), decide_eq_true e]; rfl
    · rw [if_neg (by rw [i64_eq (by omega)]; exact e), decide_eq_false e]; rfl
  · have hq2 : i32 ((201 * i : Nat) : Int) + (1 : Int32) = i32 ((201 * i + 1 : Nat) : Int) := ip1
    have g1 : τ.2.1 219 (201 * i + 1) = i64 (sdI T y ds i cl 1) := hs 1 (by omega)
    rw [if_neg (show ¬ i32 (kS T i) = (0 : Int32) by rw [show (0 : Int32) = i32 0 from rfl, i32_eq (by omega)]; omega), if_neg c, hq2, i32_cn (show 201 * i + 1 ≤ 2147483647 by omega), if_neg (ix_ok (show 201 * i + 1 < 1206 by omega) (by omega)), if_neg hx, if_neg (show ¬ i64 (kP T) = (0 : Int64) by rw [show (0 : Int64) = i64 0 from rfl, i64_eq (by omega)]; omega), g1, i64_add]
    rw [if_neg c] at q1 q2
    rw [i64_rem (by omega)]
    by_cases e : (sdI T y ds i cl 0 + sdI T y ds i cl 1) % kP T = cl
    · rw [if_pos (by rw [e]), decide_eq_true e]; rfl
    · rw [if_neg (by rw [i64_eq (by omega)]; exact e), decide_eq_false e]; rfl
theorem p_mnextL {x1 : Int32} {i m : Nat} {f : Nat → Int} {K : hSt → Option (Int64 × hSt)} (hi : i < 6) (hm : m ≤ 100) : ∀ (k z M : Nat) (τ : hSt), z + k = m + 1 → k < M → (∀ q : Nat, q ≤ m → τ.2.1 219 (201 * i + q) = i64 (f q)) → rowJ τ 210 f z → ∃ υ, fr [210] τ υ ∧ rowJ υ 210 f (m + 1) ∧ f_X12_nextClaim_L20 x1 (i32 (i : Int)) (i32 (m : Int)) K M τ (i32 (z : Int)) = K υ := by
  intro k
  induction k with
  | zero =>
    intro z M τ hz hM h4 h9
    obtain ⟨M, rfl⟩ : ∃ q, M = q + 1 := ⟨M - 1, by omega⟩
    obtain rfl : z = m + 1 := by omega
    refine ⟨τ, fr_rf _ _, h9, ?_⟩
    rw [f_X12_nextClaim_L20, if_pos (show i32 (m : Int) < i32 ((m + 1 : Nat) : Int) by rw [i32_lt (by omega)]; omega)]
  | succ k ih =>
    intro z M τ hz hM h4 h9
    obtain ⟨M, rfl⟩ : ∃ q, M = q + 1 := ⟨M - 1, by omega⟩
    have hq2 : (201 : Int32) * i32 (i : Int) + i32 (z : Int) = i32 ((201 * i + z : Nat) : Int) := by rw [show (201 : Int32) = i32 201 from rfl, i32_mul, i32_add]; rfl
    have h9' : rowJ (sJ τ 210 z (i64 (f z))) 210 f (z + 1) := by
      intro q hq
      by_cases e : q = z
      · rw [sJ_t _ _ ⟨rfl, e⟩, e]
      · rw [sJ_j _ _ (by omega)]; exact h9 q (by omega)
    obtain ⟨υ, e1, e2, e3⟩ := ih (z + 1) M (sJ τ 210 z (i64 (f z))) (by omega) (by omega) (fun q hq => by rw [sJ_r _ _ (by omega)]; exact h4 q hq) h9'
    refine ⟨υ, fr_tr (fr_sJ _ _ (by simp (disch := omega) only [cd_n, cd_p, List.mem_cons, List.mem_singleton, List.not_mem_nil, or_false, false_or, or_true, true_or, not_or, not_false_eq_true, not_true_eq_false, and_true, true_and, and_self] <;> omega)) e1, e2, ?_⟩
    rw [f_X12_nextClaim_L20, if_neg (show ¬ i32 (m : Int) < i32 (z : Int) by rw [i32_lt (by omega)]; omega), hq2, i32_cn (show 201 * i + z ≤ 2147483647 by omega), if_neg (ix_ok (show 201 * i + z < 1206 by omega) (by omega)), i32_cn (show z ≤ 2147483647 by omega), if_neg (ix_ok (show z < 201 by omega) (by omega)), h4 z (by omega), ip1]
    exact e3
theorem p_mnext {x s kl kg nl ng F i : Nat} {Bl Bg : Nat → Nat} {T : TK} {Z : hZ} {τ : hSt} {y cl d : Int} {ds : Nat → Int} (hF : 300 ≤ F) (hT : okT T) (hi : i < kN T) (hd : 0 ≤ d ∧ d < kP T) (h : tkM x s kl kg nl ng Bl Bg T τ) (hs : ∀ q : Nat, q ≤ (kS T i).toNat → τ.2.1 219 (201 * i + q) = i64 (sdI T y ds i cl (q : Int))) (h8 : τ.2.1 218 i = i64 d) : ∃ υ, f_X12_nextClaim F Z τ (i32 (x : Int)) (i32 (i : Int)) = some (i64 (nxI T y ds i cl d), υ) ∧ fr [210] τ υ := by
  have hN := hT.1
  have hP := hT.2.2.1
  have hS := hT.2.2.2.2.2.1 i (by omega)
  have hx := ix_ok (x := x) h.1 (by have := h.1; omega)
  have hx2 : x ≤ 2147483647 := by have := h.1; omega
  have h6 := h.2.2.2.2.2.1
  have hs20 := h6.2.2.1
  obtain ⟨a, b, c, e⟩ := i6 (show i < 6 by omega)
  have hq : (6 : Int32) * i32 (s : Int) + i32 (i : Int) = i32 ((6 * s + i : Nat) : Int) := by rw [show (6 : Int32) = i32 6 from rfl, i32_mul, i32_add]; rfl
  have hm : i32 (kS T i) = i32 ((kS T i).toNat : Int) := by congr 1; omega
  obtain ⟨τ1, a1, a2, a3⟩ := p_mnextL (x1 := i32 (x : Int)) (i := i) (m := (kS T i).toNat) (f := fun j => sdI T y ds i cl j) (K := fun σ1 => if i32 (i : Int) < 0 ∨ 6 ≤ i then none else if i32 (x : Int) < 0 ∨ 12 ≤ x then none else (f_X12_curveAt F Z σ1 (i32 (kS T i) + 1) (σ1.2.1 218 i) (((σ1.1 215 x) : Int32).toInt64)).bind fun q8 => some (q8, σ1)) (by omega) (by omega) ((kS T i).toNat + 1) 0 F τ (by omega) (by omega) hs (fun q hq => absurd hq (Nat.not_lt_zero q))
  have hcv := p_mcurve (F := F) (Z := Z) (σ := τ1) (p := kP T) (x := d) (m := (kS T i).toNat + 1) hF (by omega) (by omega) (by omega) a2 (fun q _ => sd_rg hT)
  refine ⟨τ1, ?_, a1⟩
  unfold f_X12_nextClaim
  rw [i32_cn hx2, if_neg hx, h.2.1, hq, i32_cn (show 6 * s + i ≤ 2147483647 by omega), if_neg (ix_ok (show 6 * s + i < 126 by omega) (by omega)), (h6.2.2.2.2.2.2 i (by omega)).1, e]
  rw [← hm] at a3
  refine Eq.trans a3 ?_
  rw [if_neg c, if_neg hx, fr_J a1 218 rfl (by decide), h8, fr_I a1 215 rfl (by decide), h.2.2.1, i32_l (by omega), show i32 (kS T i) + (1 : Int32) = i32 (((kS T i).toNat + 1 : Nat) : Int) by rw [hm, ip1], hcv, obs]
  rfl
theorem p_mendL {y1 : Int32} {y2 : Int64} {s nn : Nat} {ds : Nat → Int} {K : hSt → Option (Int32 × hSt)} (hs : s ≤ 20) (hn : nn ≤ 6) : ∀ (k z M : Nat) (τ : hSt), z + k = nn → k < M → τ.1 204 s = i32 (nn : Int) → (∀ q, q < nn → τ.2.1 218 q = i64 (ds q)) → rowJ τ 208 ds z → ∃ υ, fr [208] τ υ ∧ rowJ υ 208 ds nn ∧ f_X12_endsWell_L34 y1 y2 (i32 (s : Int)) K M τ (i32 (z : Int)) = K υ := by
  intro k
  induction k with
  | zero =>
    intro z M τ hz hM h2 h4 h9
    obtain ⟨M, rfl⟩ : ∃ q, M = q + 1 := ⟨M - 1, by omega⟩
    obtain rfl : z = nn := by omega
    refine ⟨τ, fr_rf _ _, h9, ?_⟩
    rw [f_X12_endsWell_L34, i32_cn (show s ≤ 2147483647 by omega), if_neg (ix_ok (show s < 21 by omega) (by omega)), h2, if_pos (Int32.le_refl _)]
  | succ k ih =>
    intro z M τ hz hM h2 h4 h9
    obtain ⟨M, rfl⟩ : ∃ q, M = q + 1 := ⟨M - 1, by omega⟩
    obtain ⟨a, b, c, e⟩ := i6 (show z < 6 by omega)
    have h9' : rowJ (sJ τ 208 z (i64 (ds z))) 208 ds (z + 1) := by
      intro q hq
      by_cases e : q = z
      · rw [sJ_t _ _ ⟨rfl, e⟩, e]
      · rw [sJ_j _ _ (by omega)]; exact h9 q (by omega)
    obtain ⟨υ, e1, e2, e3⟩ := ih (z + 1) M (sJ τ 208 z (i64 (ds z))) (by omega) (by omega) (by rw [sJ_1]; exact h2) (fun q hq => by rw [sJ_r _ _ (by omega)]; exact h4 q hq) h9'
    refine ⟨υ, fr_tr (fr_sJ _ _ (by simp (disch := omega) only [cd_n, cd_p, List.mem_cons, List.mem_singleton, List.not_mem_nil, or_false, false_or, or_true, true_or, not_or, not_false_eq_true, not_true_eq_false, and_true, true_and, and_self] <;> omega)) e1, e2, ?_⟩
    rw [f_X12_endsWell_L34, i32_cn (show s ≤ 2147483647 by omega), if_neg (ix_ok (show s < 21 by omega) (by omega)), h2, if_neg (show ¬ i32 (nn : Int) ≤ i32 (z : Int) by rw [i32_le (by omega)]; omega), e, if_neg c, if_neg c, h4 z (by omega), ip1]
    exact e3
theorem p_mends {x s kl kg nl ng F : Nat} {Bl Bg : Nat → Nat} {T : TK} {Z : hZ} {τ : hSt} {cl : Int} {ds : Nat → Int} (hF : 300 ≤ F) (hT : okT T) (hcl : 0 ≤ cl ∧ cl < kP T) (hd : ∀ x, 0 ≤ ds x ∧ ds x < kP T) (h : tkM x s kl kg nl ng Bl Bg T τ) (h4 : ∀ q, q < kN T → τ.2.1 218 q = i64 (ds q)) : ∃ υ, f_X12_endsWell F Z τ (i32 (x : Int)) (i64 cl) = some (b01 (enI T ds cl), υ) ∧ fr (207 :: 208 :: 213 :: WG) τ υ := by
  have hN := hT.1
  have hP := hT.2.2.1
  have hx := ix_ok (x := x) h.1 (by have := h.1; omega)
  have hx2 : x ≤ 2147483647 := by have := h.1; omega
  have h6 := h.2.2.2.2.2.1
  have hs20 := h6.2.2.1
  obtain ⟨τ1, a1, a2, a3⟩ := p_masksEnd (Z := Z) (F := F) hF h6
  rw [Int.toNat_natCast, ← h.2.2.2.2.2.2.1] at a1
  have a2' : fr (207 :: 208 :: 213 :: WG) τ τ1 := fr_mono a2 (by decide)
  unfold f_X12_endsWell enI
  rw [i32_cn hx2, if_neg hx, if_neg hx, if_neg hx, h.2.1, h.2.2.1, h.2.2.2.1, a1, obs]
  dsimp only
  cases asI (kN T) (kP T) (kS T) (kA T) 101 (kN T) with
  | false =>
    rw [b01f, if_pos rfl]
    exact ⟨τ1, rfl, a2'⟩
  | true =>
    obtain ⟨τ2, b1, b2, b3⟩ := p_mendL (y1 := i32 (x : Int)) (y2 := i64 cl) (s := s) (nn := kN T) (ds := ds) (K := (fun σ1 => if i32 (x : Int) < 0 ∨ 12 ≤ x then none else (f_X12_worthAt F Z σ1 (i32 (s : Int)) (((σ1.1 215 x) : Int32).toInt64)).bind fun q11 => (if q11.1 = i64 cl then some ((1 : Int32), q11.2) else some ((0 : Int32), q11.2)))) hs20 hN (kN T) 0 F τ1 (by omega) (by omega) a3.2.2.2.2.2.1 (fun q hq => by rw [fr_J a2' 218 rfl (by decide)]; exact h4 q hq) (fun q hq => absurd hq (Nat.not_lt_zero q))
    have b1' : fr (207 :: 208 :: 213 :: WG) τ1 τ2 := fr_mono b1 (by decide)
    have h2 := tkM_fr h (fr_mono (fr_tr a2' b1') (by decide))
    obtain ⟨τ3, c1, c2⟩ := pg_mworth (Z := Z) (s := s) (F := F) (p := kP T) hF τ2 h2.2.2.2.2.2.2.2.2.2.2.2 hT.2.2.2.1 hT.2.2.2.2.1 (by omega) (fun x _ => hd x) b2
    have hw := Wv_rg (pt := ds) (show 0 < kP T by omega) hT.2.2.2.1 (fun x _ => hd x)
    rw [b01t, if_neg n10]
    refine ⟨τ3, Eq.trans b3 ?_, fr_tr a2' (fr_tr b1' (fr_mono c2 (by decide)))⟩
    rw [if_neg hx, h2.2.2.1, i32_l (by omega), c1, obs]
    dsimp only
    by_cases e : Wv (kP T) ds (kC T) (kL T) = cl
    · rw [if_pos (by rw [e]), decide_eq_true e]; rfl
    · rw [if_neg (by rw [i64_eq (by omega)]; exact e), decide_eq_false e]; rfl
