/-! calls: draw, value; bytes of an int -/
theorem q_draw {A : HA} {Z : hZ} {σ τ : hSt} (h : J A Z σ τ) (x1 : Int32) : ∃ v τ', f_X11_draw Z σ x1 = some v ∧ f_X12_draw Z τ x1 = some (v, τ') ∧ J A Z σ τ' := by
  obtain ⟨z, hz, rfl⟩ := ofx x1
  have t0 := J_0 h 0
  have hc := h.2.2.1.2.2.2.2.2
  have hm := h.2.2.2.1.2.2.2.2.2.2.2.2
  have ho := h.2.2.2.2
  unfold JLc at hc
  unfold JLm at hm
  unfold JLo at ho
  unfold f_X11_draw f_X12_draw f_X1_drawOf
  cases e : aL A with
  | none =>
    rw [e] at hc hm
    dsimp only at hc hm
    rw [hc.2, hm, if_pos rfl]
    refine ⟨-1, _, ?_, rfl, t0⟩
    by_cases c : z < 0
    · rw [if_pos (show i32 z < (0 : Int32) from (ltI (b := 0) (by omega)).mpr c), obs]
    · rw [if_neg (show ¬ i32 z < (0 : Int32) from mt (ltI (b := 0) (by omega)).mp c), if_pos ((leI (by omega)).mpr (by omega)), obs]
  | some L =>
    rw [e] at hc hm ho
    dsimp only at hc hm ho
    obtain ⟨⟨a1, a2, a3, a4, a5, a6, a7⟩, -⟩ := hc
    obtain ⟨⟨b1, b2, b3, b4, b5, b6, b7, b8⟩, -⟩ := hm
    have hG := ho.2.1
    rw [b1, if_neg n10, a4, b5, show i32 (L.2.2.2.1 : Int) - (1 : Int32) = i32 ((L.2.2.2.1 : Int) - 1) by rw [show (1 : Int32) = i32 1 from rfl, i32_sub], i32_l hz, i32_l (by omega), show f_X12_isIn (i64 z) 0 (i64 ((L.2.2.2.1 : Int) - 1)) = _ from p_isIn (a := 0) (by omega) (by omega) (by omega), obs]
    rcases ixc z L.2.2.2.1 with ⟨q, hq, rfl⟩ | c
    · have hx := ix_ok (show q < 6 by omega) (show q ≤ 100000 by omega)
      rw [if_neg (i0 (by omega)), if_neg (mt (leI (by omega)).mp (by omega)), if_pos (show i32 (q : Int) < (6 : Int32) from (ltI (b := 6) (by omega)).mpr (by omega)), i32_cn (by omega), if_neg hx, obs, decide_eq_true (by omega), b01t, if_neg n10, if_neg hx, show 14 + 4 = 18 from rfl, a7 q hq, b8 q hq]
      exact ⟨_, _, rfl, rfl, t0⟩
    · rw [decide_eq_false (by omega), b01f, if_pos rfl]
      refine ⟨-1, _, ?_, rfl, t0⟩
      by_cases d : z < 0
      · rw [if_pos (show i32 z < (0 : Int32) from (ltI (b := 0) (by omega)).mpr d), obs]
      · rw [if_neg (show ¬ i32 z < (0 : Int32) from mt (ltI (b := 0) (by omega)).mp d), if_pos ((leI (by omega)).mpr (by omega)), obs]
/-- value: told on both sides, or refused on both -/
theorem q_value {A : HA} {Z : hZ} {σ τ : hSt} (h : J A Z σ τ) (x1 x2 : Int32) : ∃ τ', ((f_X1_hasSaid Z σ 14 x1 x2 = some 1 ∧ ∃ w : Int64, f_X1_saidAt Z σ 14 x1 x2 = some w ∧ f_X12_value Z τ x1 x2 = some (w.toInt32, τ') ∧ τ'.1 200 0 = 0) ∨ (f_X1_hasSaid Z σ 14 x1 x2 = some 0 ∧ f_X12_value Z τ x1 x2 = some (0, τ') ∧ τ'.1 200 0 = 1)) ∧ J A Z σ τ' := by
  obtain ⟨z1, hz1, rfl⟩ := ofx x1
  obtain ⟨z2, hz2, rfl⟩ := ofx x2
  have t0 := J_0 h 0
  have t1 := J_0 h 1
  have e0 : (sI τ 200 0 0).1 200 0 = 0 := sI_t _ _ ⟨rfl, rfl⟩
  have e1 : (sI τ 200 0 1).1 200 0 = 1 := sI_t _ _ ⟨rfl, rfl⟩
  have hc := h.2.2.1.2.2.2.2.2
  have hm := h.2.2.2.1.2.2.2.2.2.2.2.2
  have ho := h.2.2.2.2
  unfold JLc at hc
  unfold JLm at hm
  unfold JLo at ho
  unfold f_X12_value f_X1_hasSaid
  cases e : aL A with
  | none =>
    rw [e] at hc hm
    dsimp only at hc hm
    rw [hc.1, hm, if_pos rfl, if_neg (show ¬ (1 : Int32) ≤ 0 by decide)]
    exact ⟨_, Or.inr ⟨rfl, rfl, e1⟩, t1⟩
  | some L =>
    rw [e] at hc hm ho
    dsimp only at hc hm ho
    obtain ⟨⟨a1, a2, a3, a4, a5, a6, a7⟩, a8⟩ := hc
    obtain ⟨⟨b1, b2, b3, b4, b5, b6, b7, b8⟩, b9⟩ := hm
    have hx := ho.1
    have hT := tkA_ok h.1 hx
    have hz := tkZ_of h.1 h.2.1 hx
    rw [tf_e] at hz
    have hN : nmL (fS A (fK A L.1).1) ≤ 6 := hT.1
    have hn := ho.2.2.1
    have hK := h.1.2.2.2.2.2.2.1
    have hb := h.1.2.2.2.2.2.2.2.1 L.1 hx
    have hS := h.1.1
    have m5 := h.2.2.2.1.2.2.2.2.1.2 L.1 hx
    have ms := h.2.2.2.1.2.1.2 _ hb.1
    have cz := h.2.1.1.2 _ hb.1
    have hCC := h.1.2.1 _ hb.1
    have hta := hz.2.2.2.2.2.2.1
    rw [a1, oc_1, if_pos hta, a6, oc_1, if_pos hta, hz.1, oc_1, if_pos hz.2.1, b1, if_neg n10, b7, b2, show i32 (L.2.2.2.2.2.1 : Int) - (1 : Int32) = i32 ((L.2.2.2.2.2.1 : Int) - 1) by rw [show (1 : Int32) = i32 1 from rfl, i32_sub], i32_l hz1, i32_l (by omega), show f_X12_isIn (i64 z1) 0 (i64 ((L.2.2.2.2.2.1 : Int) - 1)) = _ from p_isIn (a := 0) (by omega) (by omega) (by omega), obs]
    rcases ixc z1 L.2.2.2.2.2.1 with ⟨r, hr, rfl⟩ | c
    · have hcn := cn_100 (C := fS A (fK A L.1).1) (k := r) (by omega) hCC.2
      have hcl : (if (0 : Int32) < (if (5 : Int32) < i32 (r : Int) then 5 else i32 (r : Int)) then (if (5 : Int32) < i32 (r : Int) then 5 else i32 (r : Int)) else 0) = i32 (r : Int) := by
        rw [if_neg (show ¬ (5 : Int32) < i32 (r : Int) from mt (ltI (a := 5) (by omega)).mp (by omega))]
        by_cases q : r = 0
        · rw [q]; rfl
        · rw [if_pos (show (0 : Int32) < i32 (r : Int) from (ltI (a := 0) (by omega)).mpr (by omega))]
      have q2 : (6 : Int32) * i32 ((fK A L.1).1 : Int) + i32 (r : Int) = i32 ((6 * (fK A L.1).1 + r : Nat) : Int) := by rw [show (6 : Int32) = i32 6 from rfl, i32_mul, i32_add]; rfl
      rw [if_neg (i0 (by omega)), if_neg (mt (leI (by omega)).mp (by omega)), p_stC cz (by omega), obs, decide_eq_true (by omega), b01t, if_neg n10, i32_cn (show L.1 ≤ 2147483647 by omega), if_neg (ix_ok (show L.1 < 12 by omega) (by omega)), m5.1, hcl, q2, i32_cn (show 6 * (fK A L.1).1 + r ≤ 2147483647 by omega), if_neg (ix_ok (show 6 * (fK A L.1).1 + r < 126 by omega) (by omega)), ms.2.2.2.2.2.1 r (by omega), i32_l hz2, i32_l (by omega), show f_X12_isIn (i64 z2) 0 (i64 (cnL r (fS A (fK A L.1).1) : Int)) = _ from p_isIn (a := 0) (by omega) (by omega) (by omega), obs]
      by_cases d : 0 ≤ z2 ∧ z2 ≤ (cnL r (fS A (fK A L.1).1) : Int)
      · obtain ⟨j, rfl⟩ : ∃ j : Nat, z2 = (j : Int) := ⟨z2.toNat, by omega⟩
        have q3 : (201 : Int32) * i32 (r : Int) + i32 (j : Int) = i32 ((201 * r + j : Nat) : Int) := by rw [show (201 : Int32) = i32 201 from rfl, i32_mul, i32_add]; rfl
        have v1 := a8 r hr j (by omega)
        have v2 := b9 r hr j (by omega)
        dsimp only at v1 v2
        have s1 := p_saidAt (Z := Z) (σ := σ) (r0 := 14) (i := r) (j := j) (Or.inl rfl) (by omega) (by omega)
        rw [show 24 + 6 * (14 - 14) + r = 24 + r by omega, v1] at s1
        rw [if_neg (i0 (by omega)), if_neg (mt (ltI (by omega)).mp (by omega)), decide_eq_true d, b01t, if_neg n10, if_pos (show (0 : Int32) ≤ 0 by decide), q3, i32_cn (show 201 * r + j ≤ 2147483647 by omega), if_neg (ix_ok (show 201 * r + j < 1206 by omega) (by omega)), v2]
        exact ⟨_, Or.inl ⟨rfl, _, s1, rfl, e0⟩, t0⟩
      · rw [decide_eq_false d, b01f, if_pos rfl, if_neg (show ¬ (1 : Int32) ≤ 0 by decide)]
        refine ⟨_, Or.inr ⟨?_, rfl, e1⟩, t1⟩
        by_cases g : z2 < 0
        · rw [if_pos (show i32 z2 < (0 : Int32) from (ltI (b := 0) (by omega)).mpr g)]
        · rw [if_neg (show ¬ i32 z2 < (0 : Int32) from mt (ltI (b := 0) (by omega)).mp g), if_pos ((ltI (by omega)).mpr (by omega))]
    · rw [decide_eq_false (by omega), b01f, if_pos rfl, if_neg (show ¬ (1 : Int32) ≤ 0 by decide)]
      refine ⟨_, Or.inr ⟨?_, rfl, e1⟩, t1⟩
      by_cases g : z1 < 0
      · rw [if_pos (show i32 z1 < (0 : Int32) from (ltI (b := 0) (by omega)).mpr g)]
      · rw [if_neg (show ¬ i32 z1 < (0 : Int32) from mt (ltI (b := 0) (by omega)).mp g), if_pos ((leI (by omega)).mpr (by omega))]
theorem i32_and255 (a : Int) : i32 a &&& 255 = i32 (a % 256) := by
  apply Int32.toBitVec_inj.1
  apply BitVec.eq_of_toNat_eq
  have h1 : (255 : Int32).toBitVec = 255#32 := rfl
  simp only [i32, Int32.toBitVec_and, Int32.toBitVec_ofInt, BitVec.toNat_and, BitVec.toNat_ofInt, h1, BitVec.toNat_ofNat]
  rw [show (255 % 2 ^ 32 : Nat) = 2 ^ 8 - 1 from rfl, Nat.and_two_pow_sub_one_eq_mod]
  omega
def byK (x : Int) (k : Nat) : Nat := (x / 2 ^ k % 256).toNat
theorem byK_le (x : Int) (k : Nat) : byK x k ≤ 255 := by
  unfold byK
  have := mod_rg (x / 2 ^ k) (show (0 : Int) < 256 by decide)
  omega
theorem by_m {x : Int} {k : Nat} (hk : k < 32) (hx : -2147483648 ≤ x ∧ x ≤ 2147483647) : (i32 x >>> (i32 (k : Int) &&& 31)) &&& 255 = i32 (byK x k : Int) := by
  have := mod_rg (x / 2 ^ k) (show (0 : Int) < 256 by decide)
  rw [i32_shr hk hx, i32_and255]
  unfold byK
  congr 1
  omega
theorem by_u {x : Int} {k : Nat} (hk : k < 32) : ((i32 x).toUInt32 >>> ((i32 (k : Int)).toUInt32 &&& Int32.toUInt32 31)).toInt32 = i32 ((x % 4294967296) / 2 ^ k) := by
  apply Int32.toBitVec_inj.1
  apply BitVec.eq_of_toNat_eq
  have h1 : ∀ k : Nat, k < 32 → ((i32 (k : Int)).toUInt32 &&& Int32.toUInt32 31).toNat % 32 = k := by decide
  show ((i32 x).toUInt32 >>> ((i32 (k : Int)).toUInt32 &&& Int32.toUInt32 31)).toNat = _
  rw [UInt32.toNat_shiftRight, h1 k hk, Nat.shiftRight_eq_div_pow]
  show (i32 x).toBitVec.toNat / 2 ^ k = _
  simp only [i32, Int32.toBitVec_ofInt, BitVec.toNat_ofInt]
  have hpos : (0 : Int) < 2 ^ k := Int.pow_pos (by decide)
  have h9 : ((2 ^ 32 : Nat) : Int) = 4294967296 := rfl
  rw [h9]
  have hx := mod_rg x (show (0 : Int) < 4294967296 by decide)
  have h2 : 0 ≤ x % 4294967296 / 2 ^ k := Int.ediv_nonneg hx.1 (by omega)
  have h3 : x % 4294967296 / 2 ^ k ≤ x % 4294967296 := Int.ediv_le_self _ hx.1
  rw [Int.emod_eq_of_lt h2 (by omega)]
  have h4 : (((x % 4294967296).toNat / 2 ^ k : Nat) : Int) = x % 4294967296 / 2 ^ k := by
    rw [Int.natCast_ediv, Int.toNat_of_nonneg hx.1, Int.natCast_pow]
    rfl
  omega
theorem by_c {x : Int} {k : Nat} (hk : k = 24 ∨ k = 16 ∨ k = 8 ∨ k = 0) : ((i32 x).toUInt32 >>> ((i32 (k : Int)).toUInt32 &&& Int32.toUInt32 31)).toInt32 &&& 255 = i32 (byK x k : Int) := by
  rw [by_u (by omega), i32_and255]
  unfold byK
  congr 1
  rcases hk with rfl | rfl | rfl | rfl
  · show x % 4294967296 / 16777216 % 256 = ((x / 16777216 % 256).toNat : Int); omega
  · show x % 4294967296 / 65536 % 256 = ((x / 65536 % 256).toNat : Int); omega
  · show x % 4294967296 / 256 % 256 = ((x / 256 % 256).toNat : Int); omega
  · show x % 4294967296 / 1 % 256 = ((x / 1 % 256).toNat : Int); omega
theorem by_s {x : Int} {k : Nat} (hk : k < 32) (hx : -2147483648 ≤ x ∧ x ≤ 2147483647) : vp_nar .byte ((i32 x >>> (i32 (k : Int) &&& 31)) : Int32).toInt8.toInt32 = i32 (sgB (byK x k)) := by
  rw [i32_shr hk hx]
  have h1 : (i32 (x / 2 ^ k)).toInt8 = Int8.ofInt ((byK x k : Nat) : Int) := by
    apply Int8.toBitVec_inj.1
    apply BitVec.eq_of_toNat_eq
    show ((i32 (x / 2 ^ k)).toBitVec.signExtend 8).toNat = _
    rw [BitVec.signExtend_eq_setWidth_of_le _ (by decide)]
    simp only [i32, Int32.toBitVec_ofInt, BitVec.toNat_setWidth, BitVec.toNat_ofInt, Int8.toBitVec_ofInt]
    unfold byK
    have := mod_rg (x / 2 ^ k) (show (0 : Int) < 256 by decide)
    omega
  rw [h1]
  have h2 : ∀ b : Fin 256, vp_nar .byte (Int8.ofInt ((b.val : Nat) : Int)).toInt32 = i32 (sgB b.val) := by decide +kernel
  have := byK_le x k
  exact h2 ⟨byK x k, by omega⟩
