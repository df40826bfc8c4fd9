/-! calls: feed, end -/
def upT (A : HA) (t : TXT) : HA := (t, A.2)
theorem JLc_X {W : List Nat} {A : HA} {σ υ : hSt} (h : JLc A σ) (k : fr W σ υ) (ho : JLo A) (hk : ∀ L, aL A = some L → nmL (fS A (fK A L.1).1) ≤ 6) (n1 : 11408 ∉ W) (n2 : 11409 ∉ W) (n3 : 11410 ∉ W) (n4 : 11411 ∉ W) (n5 : 11412 ∉ W) (n6 : 11413 ∉ W) (n7 : 18 ∉ W) (n8 : ∀ x, x < 6 → 24 + x ∉ W) : JLc A υ := by
  unfold JLc at h ⊢
  unfold JLo at ho
  cases e : aL A with
  | none =>
    rw [e] at h
    dsimp only at h ⊢
    exact ⟨by rw [k.2.2.1 14 8 n1]; exact h.1, by rw [k.1 14 12 n5]; exact h.2⟩
  | some L =>
    rw [e] at h ho
    dsimp only at h ho ⊢
    have h6 := hk L e
    obtain ⟨⟨a1, a2, a3, a4, a5, a6, a7⟩, b⟩ := h
    refine ⟨⟨by rw [k.2.2.1 14 8 n1]; exact a1, by rw [k.2.1 14 9 n2]; exact a2, by rw [k.1 14 11 n4]; exact a3, by rw [k.1 14 12 n5]; exact a4, by rw [k.2.1 14 10 n3]; exact a5, by rw [k.1 14 13 n6]; exact a6, fun q hq => by rw [fr_J k 18 rfl n7]; exact a7 q hq⟩, fun x hx q hq => ?_⟩
    have hx6 : x < 6 := by have := ho.2.2.1; omega
    dsimp only
    rw [fr_J k (24 + x) (ob_n (by omega)) (n8 x hx6)]
    exact b x hx q hq
theorem JLm_X {W : List Nat} {A : HA} {τ υ : hSt} (h : JLm A τ) (f : fr W τ υ) (n1 : 30039 ∉ W) (n2 : 30048 ∉ W) (n3 : 30049 ∉ W) (n4 : 30050 ∉ W) (n5 : 30051 ∉ W) (n6 : 30052 ∉ W) (n7 : 30053 ∉ W) (n8 : 221 ∉ W) (n9 : 220 ∉ W) : JLm A υ := by
  unfold JLm at h ⊢
  cases e : aL A with
  | none =>
    rw [e] at h
    dsimp only at h ⊢
    rw [f.1 200 39 n1]; exact h
  | some L =>
    rw [e] at h
    dsimp only at h ⊢
    refine ⟨lM_W h.1 f n1 n2 n3 n4 n5 n6 n7 n8, fun x hx q hq => ?_⟩
    dsimp only
    rw [fr_J f 220 rfl n9]
    exact h.2 x hx q hq
theorem J_T {A : HA} {Z : hZ} {σ τ σ' τ' : hSt} {t : TXT} (h : J A Z σ τ) (k : fr [2, 10102] σ σ') (k' : fr [201, 30000, 30003] τ τ') (a : tpH t.1 t.2 σ') (b : tpM t.1 t.2 τ') : J (upT A t) Z σ' τ' := by
  obtain ⟨hA, hZ, hS, hM, hL⟩ := h
  obtain ⟨s1, s2, s3, s4, s5, s6⟩ := hS
  obtain ⟨m1, ⟨m2, m2'⟩, ⟨m3, m3'⟩, ⟨m4, m4'⟩, ⟨m5, m5'⟩, ⟨m6, m6'⟩, ⟨m7, m7'⟩, m8, m9⟩ := hM
  refine ⟨hA, hZ, ⟨a, JP_W s2 k (by decide) (by decide), z13_W s3 k (by decide), caS_W (Or.inl rfl) s4 k (by decide) (by decide), caS_W (Or.inr rfl) s5 k (by decide) (by decide), JLc_X s6 k hL (okA_nm hA hL) (by decide) (by decide) (by decide) (by decide) (by decide) (by decide) (by decide) (by decide)⟩, ⟨b, ⟨by rw [k'.1 200 15 (by decide)]; exact m2, fun s hs => sgM_W (m2' s hs) k' (by decide) (by decide) (by decide) (by decide) (by decide)⟩, ⟨by rw [k'.1 200 25 (by decide)]; exact m3, fun k hk => kpM_W (m3' k hk) k' (by decide) (by decide)⟩, ⟨by rw [k'.1 200 26 (by decide)]; exact m4, fun k hk => kpM_W (m4' k hk) k' (by decide) (by decide)⟩, ⟨by rw [k'.1 200 36 (by decide)]; exact m5, fun x hx => ?_⟩, ⟨by rw [k'.1 200 58 (by decide)]; exact m6, fun i hi => ?_⟩, ⟨by rw [k'.1 200 20 (by decide)]; exact m7, fun j hj => ?_⟩, k'.2.2.2 m8, JLm_X m9 k' (by decide) (by decide) (by decide) (by decide) (by decide) (by decide) (by decide) (by decide) (by decide)⟩, hL⟩
  · rw [fr_I k' 214 rfl (by decide), fr_I k' 215 rfl (by decide), fr_I k' 216 rfl (by decide), fr_I k' 217 rfl (by decide)]
    exact m5' x hx
  · rw [fr_I k' 222 rfl (by decide), fr_I k' 223 rfl (by decide)]
    exact m6' i hi
  · rw [fr_I k' 209 rfl (by decide)]
    exact m7' j hj
theorem q_endc {A : HA} {Z : hZ} {σ τ : hSt} (h : J A Z σ τ) (x1 : Int32) : ∃ v A' σ' τ', f_X11_end Z σ x1 = some (v, σ') ∧ f_X12_end Z τ x1 = some (v, τ') ∧ J A' Z σ' τ' := by
  obtain ⟨z, hz, rfl⟩ := ofx x1
  have t0 := J_0 h 0
  have s1 := h.2.2.1.1
  have m1 := h.2.2.2.1.1
  have hn := s1.1
  unfold f_X11_end f_X12_end
  rw [s1.2.1, m1.2.1]
  by_cases c : z < 0
  · rw [if_pos (show i32 z < (0 : Int32) from (ltI (b := 0) (by omega)).mpr c), if_pos (show i32 z < (0 : Int32) from (ltI (b := 0) (by omega)).mpr c)]
    exact ⟨_, A, _, _, rfl, rfl, t0⟩
  · rw [if_neg (show ¬ i32 z < (0 : Int32) from mt (ltI (b := 0) (by omega)).mp c), if_neg (show ¬ i32 z < (0 : Int32) from mt (ltI (b := 0) (by omega)).mp c)]
    by_cases d : z ≤ ((aT A).2 : Int)
    · rw [if_pos ((leI (by omega)).mpr d), if_pos ((leI (by omega)).mpr d)]
      refine ⟨_, upT A ((aT A).1, z.toNat), _, _, rfl, rfl, J_T h (fr_sI _ _ (by decide)) (fr_tr (fr_sI _ _ (by decide)) (fr_sI _ _ (by decide))) ⟨by show z.toNat ≤ 200; omega, ?_, fun j hj => ?_⟩ ⟨by show z.toNat ≤ 200; omega, ?_, fun j hj => ?_⟩⟩
      · rw [sI_t _ _ ⟨rfl, rfl⟩]; show i32 z = i32 (z.toNat : Int); congr 1; omega
      · have hj' : j < z.toNat := hj
        rw [sI_r _ _ (by omega)]; exact s1.2.2 j (by omega)
      · rw [sI_t _ _ ⟨rfl, rfl⟩]; show i32 z = i32 (z.toNat : Int); congr 1; omega
      · have hj' : j < z.toNat := hj
        rw [sI_r _ _ (by omega), sI_r _ _ (by omega)]; exact m1.2.2 j (by omega)
    · rw [if_neg (mt (leI (by omega)).mp d), if_neg (mt (leI (by omega)).mp d)]
      exact ⟨_, A, _, _, rfl, rfl, t0⟩
def st1 (x : Int) (k : Nat) (t : TXT) : TXT := if byK x k = 0 then t else (uN2 t.1 t.2 (byK x k), t.2 + 1)
def c1B (x : Int) (k : Nat) : Nat := if byK x k = 0 then 0 else 1
def st4 (x : Int) (t : TXT) : TXT := st1 x 0 (st1 x 8 (st1 x 16 (st1 x 24 t)))
def c4B (x : Int) : Nat := c1B x 24 + c1B x 16 + c1B x 8 + c1B x 0
theorem st1_n (x : Int) (k : Nat) (t : TXT) : (st1 x k t).2 = t.2 + c1B x k := by
  unfold st1 c1B
  by_cases c : byK x k = 0
  · rw [if_pos c, if_pos c]; rfl
  · rw [if_neg c, if_neg c]
theorem st4_n (x : Int) (t : TXT) : (st4 x t).2 = t.2 + c4B x := by
  unfold st4 c4B
  rw [st1_n, st1_n, st1_n, st1_n]; omega
theorem c1B_le (x : Int) (k : Nat) : c1B x k ≤ 1 := by unfold c1B; split <;> omega
theorem c4B_le (x : Int) : c4B x ≤ 4 := by
  have := c1B_le x 24; have := c1B_le x 16; have := c1B_le x 8; have := c1B_le x 0
  unfold c4B; omega
theorem km8 (k : Nat) : i32 (k : Int) + (-8 : Int32) = i32 ((k : Int) - 8) := by rw [show (-8 : Int32) = i32 (-8) from rfl, i32_add]; rfl
theorem p_sg1 {x : Int} {k M c : Nat} (hk : k = 24 ∨ k = 16 ∨ k = 8 ∨ k = 0) : f_X8_signsIn_L5 (i32 x) (M + 1) (i32 (c : Int)) (i32 (k : Int)) = f_X8_signsIn_L5 (i32 x) M (i32 ((c + c1B x k : Nat) : Int)) (i32 ((k : Int) - 8)) := by
  have hb := byK_le x k
  rw [f_X8_signsIn_L5, if_neg (i0 (by omega)), by_c hk, km8]
  unfold c1B
  by_cases d : byK x k = 0
  · rw [if_pos (show i32 (byK x k : Int) = 0 by rw [d]; rfl), if_pos d]; rfl
  · rw [if_neg (show ¬ i32 (byK x k : Int) = 0 from mt (eqI (b := 0) (by omega)).mp (by omega)), if_neg d, ip1]
theorem p_mbi1 {x : Int} {k M c : Nat} (hx : -2147483648 ≤ x ∧ x ≤ 2147483647) (hk : k = 24 ∨ k = 16 ∨ k = 8 ∨ k = 0) : f_X12_bytesIn_L5 (i32 x) (M + 1) (i32 (c : Int)) (i32 (k : Int)) = f_X12_bytesIn_L5 (i32 x) M (i32 ((c + c1B x k : Nat) : Int)) (i32 ((k : Int) - 8)) := by
  have hb := byK_le x k
  rw [f_X12_bytesIn_L5, if_neg (i0 (by omega)), by_m (by omega) hx, km8]
  unfold c1B
  by_cases d : byK x k = 0
  · rw [if_pos (show i32 (byK x k : Int) = 0 by rw [d]; rfl), if_pos d, show (0 : Int32) = i32 0 from rfl, i32_add]; rfl
  · rw [if_neg (show ¬ i32 (byK x k : Int) = 0 from mt (eqI (b := 0) (by omega)).mp (by omega)), if_neg d, ip1]
theorem p_sg {x : Int} {F : Nat} (hF : 300 ≤ F) : f_X8_signsIn F (i32 x) = some (i32 (c4B x : Int)) := by
  obtain ⟨M, rfl⟩ : ∃ M, F = M + 1 + 1 + 1 + 1 + 1 := ⟨F - 5, by omega⟩
  unfold f_X8_signsIn
  have e : f_X8_signsIn_L5 (i32 x) (M + 1 + 1 + 1 + 1 + 1) 0 24 = f_X8_signsIn_L5 (i32 x) (M + 1 + 1 + 1 + 1 + 1) (i32 ((0 : Nat) : Int)) (i32 ((24 : Nat) : Int)) := rfl
  rw [e, p_sg1 (by omega), show ((24 : Nat) : Int) - 8 = ((16 : Nat) : Int) from rfl, p_sg1 (by omega), show ((16 : Nat) : Int) - 8 = ((8 : Nat) : Int) from rfl, p_sg1 (by omega), show ((8 : Nat) : Int) - 8 = ((0 : Nat) : Int) from rfl, p_sg1 (by omega), f_X8_signsIn_L5, if_pos (show i32 (((0 : Nat) : Int) - 8) < 0 by decide)]
  unfold c4B
  rw [Nat.zero_add]
theorem p_mbi {x : Int} {F : Nat} (hF : 300 ≤ F) (hx : -2147483648 ≤ x ∧ x ≤ 2147483647) : f_X12_bytesIn F (i32 x) = some (i32 (c4B x : Int)) := by
  obtain ⟨M, rfl⟩ : ∃ M, F = M + 1 + 1 + 1 + 1 + 1 := ⟨F - 5, by omega⟩
  unfold f_X12_bytesIn
  have e : f_X12_bytesIn_L5 (i32 x) (M + 1 + 1 + 1 + 1 + 1) 0 24 = f_X12_bytesIn_L5 (i32 x) (M + 1 + 1 + 1 + 1 + 1) (i32 ((0 : Nat) : Int)) (i32 ((24 : Nat) : Int)) := rfl
  rw [e, p_mbi1 hx (by omega), show ((24 : Nat) : Int) - 8 = ((16 : Nat) : Int) from rfl, p_mbi1 hx (by omega), show ((16 : Nat) : Int) - 8 = ((8 : Nat) : Int) from rfl, p_mbi1 hx (by omega), show ((8 : Nat) : Int) - 8 = ((0 : Nat) : Int) from rfl, p_mbi1 hx (by omega), f_X12_bytesIn_L5, if_pos (show i32 (((0 : Nat) : Int) - 8) < 0 by decide)]
  unfold c4B
  rw [Nat.zero_add]
theorem p_ap1 {x : Int} {k M : Nat} {t : TXT} {σ : hSt} (hk : k = 24 ∨ k = 16 ∨ k = 8 ∨ k = 0) (h : tpH t.1 t.2 σ) (hn : t.2 + c1B x k ≤ 200) : ∃ σ', f_X8_append_L3 (i32 x) (M + 1) σ (i32 (k : Int)) = f_X8_append_L3 (i32 x) M σ' (i32 ((k : Int) - 8)) ∧ fr [2, 10102] σ σ' ∧ tpH (st1 x k t).1 (st1 x k t).2 σ' := by
  have hb := byK_le x k
  obtain ⟨a1, a2, a3⟩ := h
  rw [f_X8_append_L3, if_neg (i0 (by omega)), by_c hk, km8, a2]
  unfold st1
  unfold c1B at hn
  by_cases d : byK x k = 0
  · rw [if_pos (show i32 (byK x k : Int) = 0 by rw [d]; rfl), if_pos d]
    exact ⟨σ, rfl, fr_rf _ _, a1, a2, a3⟩
  · rw [if_neg d] at hn
    rw [if_neg (show ¬ i32 (byK x k : Int) = 0 from mt (eqI (b := 0) (by omega)).mp (by omega)), if_neg d, if_neg (i0 (by omega)), if_neg (show ¬ (200 : Int32) ≤ i32 (t.2 : Int) from mt (leI (a := 200) (by omega)).mp (by omega)), i32_cn (by omega), if_neg (ix_ok (show t.2 < 200 by omega) (by omega)), ip1]
    refine ⟨_, rfl, fr_tr (fr_sI _ _ (by rw [cd_a rfl]; decide)) (fr_sI _ _ (by decide)), ?_, sI_t _ _ ⟨rfl, rfl⟩, fun j hj => ?_⟩
    · show t.2 + 1 ≤ 200; omega
    · have hj' : j < t.2 + 1 := hj
      rw [sI_r _ _ (by omega)]
      show (sI σ 2 t.2 (i32 (byK x k : Int))).1 2 j = i32 (uN2 t.1 t.2 (byK x k) j : Int) ∧ 1 ≤ uN2 t.1 t.2 (byK x k) j ∧ uN2 t.1 t.2 (byK x k) j ≤ 255
      by_cases e : j = t.2
      · rw [sI_t _ _ ⟨rfl, e⟩, uN2_t _ _ e]
        exact ⟨rfl, by omega, hb⟩
      · rw [sI_j _ _ (by omega), uN2_f _ _ (by omega)]
        exact a3 j (by omega)
theorem p_mpu1 {x : Int} {k M : Nat} {t : TXT} {τ : hSt} (hx : -2147483648 ≤ x ∧ x ≤ 2147483647) (hk : k = 24 ∨ k = 16 ∨ k = 8 ∨ k = 0) (h : tpM t.1 t.2 τ) (hn : t.2 + c1B x k ≤ 200) : ∃ υ, f_X12_put_L3 (i32 x) (M + 1) τ (i32 (k : Int)) = f_X12_put_L3 (i32 x) M υ (i32 ((k : Int) - 8)) ∧ fr [201, 30003] τ υ ∧ tpM (st1 x k t).1 (st1 x k t).2 υ := by
  have hb := byK_le x k
  obtain ⟨a1, a2, a3⟩ := h
  rw [f_X12_put_L3, if_neg (i0 (by omega)), by_m (by omega) hx, km8, a2, by_s (by omega) hx]
  unfold st1
  unfold c1B at hn
  by_cases d : byK x k = 0
  · rw [if_pos (show i32 (byK x k : Int) = 0 by rw [d]; rfl), if_pos d]
    exact ⟨τ, rfl, fr_rf _ _, a1, a2, a3⟩
  · rw [if_neg d] at hn
    rw [if_neg (show ¬ i32 (byK x k : Int) = 0 from mt (eqI (b := 0) (by omega)).mp (by omega)), if_neg d, i32_cn (by omega), if_neg (ix_ok (show t.2 < 200 by omega) (by omega)), ip1]
    refine ⟨_, rfl, fr_tr (fr_sI _ _ (by rw [cd_a rfl]; decide)) (fr_sI _ _ (by decide)), ?_, sI_t _ _ ⟨rfl, rfl⟩, fun j hj => ?_⟩
    · show t.2 + 1 ≤ 200; omega
    · have hj' : j < t.2 + 1 := hj
      rw [sI_r _ _ (by omega)]
      show (sI τ 201 t.2 (i32 (sgB (byK x k)))).1 201 j = i32 (sgB (uN2 t.1 t.2 (byK x k) j)) ∧ 1 ≤ uN2 t.1 t.2 (byK x k) j ∧ uN2 t.1 t.2 (byK x k) j ≤ 255
      by_cases e : j = t.2
      · rw [sI_t _ _ ⟨rfl, e⟩, uN2_t _ _ e]
        exact ⟨rfl, by omega, hb⟩
      · rw [sI_j _ _ (by omega), uN2_f _ _ (by omega)]
        exact a3 j (by omega)
theorem p_ap {x : Int} {F : Nat} {t : TXT} {Z : hZ} {σ : hSt} (hF : 300 ≤ F) (h : tpH t.1 t.2 σ) (hn : t.2 + c4B x ≤ 200) : ∃ σ', f_X8_append F Z σ (i32 x) = some ((), σ') ∧ fr [2, 10102] σ σ' ∧ tpH (st4 x t).1 (st4 x t).2 σ' := by
  obtain ⟨M, rfl⟩ : ∃ M, F = M + 1 + 1 + 1 + 1 + 1 := ⟨F - 5, by omega⟩
  unfold c4B at hn
  obtain ⟨σ1, a1, a2, a3⟩ := p_ap1 (x := x) (k := 24) (M := M + 1 + 1 + 1 + 1) (by omega) h (by omega)
  obtain ⟨σ2, b1, b2, b3⟩ := p_ap1 (x := x) (k := 16) (M := M + 1 + 1 + 1) (by omega) a3 (by rw [st1_n]; omega)
  obtain ⟨σ3, c1, c2, c3⟩ := p_ap1 (x := x) (k := 8) (M := M + 1 + 1) (by omega) b3 (by rw [st1_n, st1_n]; omega)
  obtain ⟨σ4, d1, d2, d3⟩ := p_ap1 (x := x) (k := 0) (M := M + 1) (by omega) c3 (by rw [st1_n, st1_n, st1_n]; omega)
  refine ⟨σ4, ?_, fr_tr a2 (fr_tr b2 (fr_tr c2 d2)), d3⟩
  unfold f_X8_append
  have e : f_X8_append_L3 (i32 x) (M + 1 + 1 + 1 + 1 + 1) σ 24 = f_X8_append_L3 (i32 x) (M + 1 + 1 + 1 + 1 + 1) σ (i32 ((24 : Nat) : Int)) := rfl
  rw [e, a1, show ((24 : Nat) : Int) - 8 = ((16 : Nat) : Int) from rfl, b1, show ((16 : Nat) : Int) - 8 = ((8 : Nat) : Int) from rfl, c1, show ((8 : Nat) : Int) - 8 = ((0 : Nat) : Int) from rfl, d1, f_X8_append_L3, if_pos (show i32 (((0 : Nat) : Int) - 8) < 0 by decide)]
theorem p_mpu {x : Int} {F : Nat} {t : TXT} {Z : hZ} {τ : hSt} (hF : 300 ≤ F) (hx : -2147483648 ≤ x ∧ x ≤ 2147483647) (h : tpM t.1 t.2 τ) (hn : t.2 + c4B x ≤ 200) : ∃ υ, f_X12_put F Z τ (i32 x) = some ((), υ) ∧ fr [201, 30003] τ υ ∧ tpM (st4 x t).1 (st4 x t).2 υ := by
  obtain ⟨M, rfl⟩ : ∃ M, F = M + 1 + 1 + 1 + 1 + 1 := ⟨F - 5, by omega⟩
  unfold c4B at hn
  obtain ⟨σ1, a1, a2, a3⟩ := p_mpu1 (x := x) (k := 24) (M := M + 1 + 1 + 1 + 1) hx (by omega) h (by omega)
  obtain ⟨σ2, b1, b2, b3⟩ := p_mpu1 (x := x) (k := 16) (M := M + 1 + 1 + 1) hx (by omega) a3 (by rw [st1_n]; omega)
  obtain ⟨σ3, c1, c2, c3⟩ := p_mpu1 (x := x) (k := 8) (M := M + 1 + 1) hx (by omega) b3 (by rw [st1_n, st1_n]; omega)
  obtain ⟨σ4, d1, d2, d3⟩ := p_mpu1 (x := x) (k := 0) (M := M + 1) hx (by omega) c3 (by rw [st1_n, st1_n, st1_n]; omega)
  refine ⟨σ4, ?_, fr_tr a2 (fr_tr b2 (fr_tr c2 d2)), d3⟩
  unfold f_X12_put
  have e : f_X12_put_L3 (i32 x) (M + 1 + 1 + 1 + 1 + 1) τ 24 = f_X12_put_L3 (i32 x) (M + 1 + 1 + 1 + 1 + 1) τ (i32 ((24 : Nat) : Int)) := rfl
  rw [e, a1, show ((24 : Nat) : Int) - 8 = ((16 : Nat) : Int) from rfl, b1, show ((16 : Nat) : Int) - 8 = ((8 : Nat) : Int) from rfl, c1, show ((8 : Nat) : Int) - 8 = ((0 : Nat) : Int) from rfl, d1, f_X12_put_L3, if_pos (show i32 (((0 : Nat) : Int) - 8) < 0 by decide)]
theorem q_feed {A : HA} {Z : hZ} {σ τ : hSt} {F : Nat} (hF : 50000 ≤ F) (h : J A Z σ τ) (x1 x2 x3 x4 x5 : Int32) : ∃ v A' σ' τ', f_X11_feed F Z σ x1 x2 x3 x4 x5 = some (v, σ') ∧ f_X12_feed F Z τ x1 x2 x3 x4 x5 = some (v, τ') ∧ J A' Z σ' τ' := by
  obtain ⟨z1, hz1, rfl⟩ := ofx x1
  obtain ⟨z2, hz2, rfl⟩ := ofx x2
  obtain ⟨z3, hz3, rfl⟩ := ofx x3
  obtain ⟨z4, hz4, rfl⟩ := ofx x4
  obtain ⟨z5, hz5, rfl⟩ := ofx x5
  have t0 := J_0 h 0
  have s1 := h.2.2.1.1
  have m1 := h.2.2.2.1.1
  have m1' := t0.2.2.2.1.1
  have hn := s1.1
  have k1 := c4B_le z1
  have k2 := c4B_le z2
  have k3 := c4B_le z3
  have k4 := c4B_le z4
  have k5 := c4B_le z5
  unfold f_X11_feed f_X12_feed
  rw [p_sg (by omega), p_sg (by omega), p_sg (by omega), p_sg (by omega), p_sg (by omega), p_mbi (by omega) hz1, p_mbi (by omega) hz2, p_mbi (by omega) hz3, p_mbi (by omega) hz4, p_mbi (by omega) hz5]
  simp only [obs, s1.2.1, m1.2.1, i32_add]
  by_cases c : (aT A).2 + (c4B z1 + c4B z2 + c4B z3 + c4B z4 + c4B z5) ≤ 200
  · obtain ⟨σ1, a1, a2, a3⟩ := p_ap (Z := Z) (F := F) (x := z1) (t := aT A) (by omega) s1 (by omega)
    obtain ⟨σ2, b1, b2, b3⟩ := p_ap (Z := Z) (F := F) (x := z2) (by omega) a3 (by rw [st4_n]; omega)
    obtain ⟨σ3, c1, c2, c3⟩ := p_ap (Z := Z) (F := F) (x := z3) (by omega) b3 (by rw [st4_n, st4_n]; omega)
    obtain ⟨σ4, d1, d2, d3⟩ := p_ap (Z := Z) (F := F) (x := z4) (by omega) c3 (by rw [st4_n, st4_n, st4_n]; omega)
    obtain ⟨σ5, e1, e2, e3⟩ := p_ap (Z := Z) (F := F) (x := z5) (by omega) d3 (by rw [st4_n, st4_n, st4_n, st4_n]; omega)
    obtain ⟨τ1, a1', a2', a3'⟩ := p_mpu (Z := Z) (F := F) (x := z1) (t := aT A) (by omega) hz1 m1' (by omega)
    obtain ⟨τ2, b1', b2', b3'⟩ := p_mpu (Z := Z) (F := F) (x := z2) (by omega) hz2 a3' (by rw [st4_n]; omega)
    obtain ⟨τ3, c1', c2', c3'⟩ := p_mpu (Z := Z) (F := F) (x := z3) (by omega) hz3 b3' (by rw [st4_n, st4_n]; omega)
    obtain ⟨τ4, d1', d2', d3'⟩ := p_mpu (Z := Z) (F := F) (x := z4) (by omega) hz4 c3' (by rw [st4_n, st4_n, st4_n]; omega)
    obtain ⟨τ5, e1', e2', e3'⟩ := p_mpu (Z := Z) (F := F) (x := z5) (by omega) hz5 d3' (by rw [st4_n, st4_n, st4_n, st4_n]; omega)
    rw [if_pos (show i32 _ ≤ (200 : Int32) from (leI (b := 200) (by omega)).mpr (by omega)), if_pos (show i32 _ ≤ (200 : Int32) from (leI (b := 200) (by omega)).mpr (by omega)), a1, obs, b1, obs, c1, obs, d1, obs, e1, obs, a1', obs, b1', obs, c1', obs, d1', obs, e1', obs]
    dsimp only
    rw [e3.2.1, e3'.2.1]
    exact ⟨_, _, _, _, rfl, rfl, J_T h (fr_tr a2 (fr_tr b2 (fr_tr c2 (fr_tr d2 e2)))) (fr_tr (fr_sI _ _ (by decide)) (fr_mono (fr_tr a2' (fr_tr b2' (fr_tr c2' (fr_tr d2' e2')))) (by decide))) e3 e3'⟩
  · rw [if_neg (show ¬ i32 _ ≤ (200 : Int32) from mt (leI (b := 200) (by omega)).mp (by omega)), if_neg (show ¬ i32 _ ≤ (200 : Int32) from mt (leI (b := 200) (by omega)).mp (by omega))]
    exact ⟨_, A, _, _, rfl, rfl, t0⟩
