/-! LAWS and GIANTS kept by the model; any letters -/
def chs : List Nat := [116, 99, 119, 108, 105, 106, 110, 112, 121, 107]
def lT (τ : hSt) : Nat → Int64 := fun q => τ.2.1 213 (chs.getD q 0)
theorem ltM_any {g : Nat} {τ : hSt} (hg : g ≤ 1) (h : bdR τ) : ltM g (lT τ) τ := by
  intro c hc hi
  have key : ∀ g : Fin 2, ∀ c : Fin 128, 0 ≤ ixS (2 * g.val + 1) c.val → chs.getD (ixS 4 c.val).toNat 0 = c.val := by decide +kernel
  have e := key ⟨g, by omega⟩ ⟨c, by omega⟩ hi
  refine ⟨?_, h _⟩
  show τ.2.1 213 c = τ.2.1 213 (chs.getD (ixS 4 c).toNat 0)
  have e2 : chs.getD (ixS 4 c).toNat 0 = c := e
  rw [e2]
theorem clL_PG {B : Nat → Nat} {n g : Nat} (hg : g ≤ 1) : ∀ k p acc, p ≤ n → (clL B n g k p acc).2.1 ≤ n ∧ ((clL B n g k p acc).1 = true → p ≤ (clL B n g k p acc).2.1 ∧ (clL B n g k p acc).2.2.length + p ≤ acc.length + (clL B n g k p acc).2.1)
  | 0, p, acc, hp => ⟨hp, fun _ => ⟨Nat.le_refl _, Nat.le_refl _⟩⟩
  | k + 1, p, acc, hp => by
    have hs := sk_rg (B := B) hp
    rw [clL]
    by_cases c : pk B n (sk B n p) = 59
    · have hlt := pkp_lt (B := B) (n := n) (q := sk B n p) (by omega)
      have h1 := tK_PG (B := B) (n := n) (g := g) (p := sk B n p + 1) hg (by omega)
      rw [if_pos c]
      by_cases d : (tK B n g (sk B n p + 1)).1 = true
      · have h2 := h1.2 d
        have h3 := clL_PG (B := B) (n := n) hg k (tK B n g (sk B n p + 1)).2.1 (acc ++ (tK B n g (sk B n p + 1)).2.2) h1.1
        rw [if_pos d]
        refine ⟨h3.1, fun z => ?_⟩
        have h4 := h3.2 z
        rw [List.length_append] at h4
        exact ⟨by omega, by omega⟩
      · rw [if_neg d]
        exact ⟨h1.1, fun z => Bool.noConfusion z⟩
    · rw [if_neg c]
      exact ⟨hs.2, fun _ => ⟨hs.1, by show acc.length + p ≤ acc.length + sk B n p; omega⟩⟩
theorem tZ_len {B : Nat → Nat} {n g : Nat} (hg : g ≤ 1) : (tZ B n g).2.1 ≤ n ∧ ((tZ B n g).1 = true → (tZ B n g).2.2.length ≤ n + 1) := by
  have h1 := tK_PG (B := B) (n := n) (g := g) (p := 0) hg (Nat.zero_le _)
  unfold tZ
  by_cases d : (tK B n g 0).1 = true
  · have h2 := h1.2 d
    have h3 := clL_PG (B := B) (n := n) hg 200 (tK B n g 0).2.1 (tK B n g 0).2.2 h1.1
    rw [if_pos d]
    refine ⟨h3.1, fun z => ?_⟩
    have h4 := h3.2 z
    omega
  · rw [if_neg d]
    exact ⟨h1.1, fun z => Bool.noConfusion z⟩
theorem txF_ok {B : Nat → Nat} {n g : Nat} (h : txF B n g = none) : (tZ B n g).1 = true := by
  unfold txF at h
  by_cases c : (tZ B n g).1 = true
  · exact c
  · rw [if_neg c] at h; cases h
theorem txF_le {B : Nat → Nat} {n g p : Nat} (hg : g ≤ 1) (h : txF B n g = some p) : p ≤ n := by
  have h1 := (tZ_len (B := B) (n := n) hg).1
  unfold txF at h
  by_cases c : (tZ B n g).1 = true
  · rw [if_pos c] at h
    by_cases d : sk B n (tZ B n g).2.1 < n
    · rw [if_pos d] at h
      have := Option.some.inj h
      omega
    · rw [if_neg d] at h; cases h
  · rw [if_neg c] at h
    have := Option.some.inj h
    omega
theorem sayF_le {B : Nat → Nat} {n p : Nat} (h : sayF B n = some p) : p ≤ n := by
  have h1 := ((sayO_PG B n 8) 0 (Nat.zero_le _)).1
  unfold sayF at h
  by_cases c : (sayO B n 8 0).1 = true
  · rw [if_pos c] at h
    by_cases d : sk B n (sayO B n 8 0).2.1 < n
    · rw [if_pos d] at h
      have := Option.some.inj h
      omega
    · rw [if_neg d] at h; cases h
  · rw [if_neg c] at h
    have := Option.some.inj h
    omega
theorem tZ_flat {B : Nat → Nat} {n g : Nat} (hg : g ≤ 1) (hn : n ≤ 200) (hB : ∀ j, j < n → 1 ≤ B j ∧ B j ≤ 255) (h : txF B n g = none) : (tZ B n g).2.2 = flat (tZc B n g) ∧ (∀ c ∈ tZc B n g, clO c) ∧ (flat (tZc B n g)).length ≤ 400 ∧ (tZ B n g).2.2.length ≤ 400 := by
  have h1 := txF_ok h
  obtain ⟨a, b⟩ := tZ_cl hg hB h1
  have h2 := (tZ_len (B := B) (n := n) hg).2 h1
  exact ⟨a, b, by rw [← a]; omega, by omega⟩
theorem nar_sg {b : Nat} (h : b ≤ 255) : vp_nar .byte (i32 (sgB b)) = i32 (sgB b) := by
  have : ∀ b : Fin 256, vp_nar .byte (i32 (sgB b.val)) = i32 (sgB b.val) := by decide +kernel
  exact this ⟨b, by omega⟩
theorem p_keepL {B : Nat → Nat} {n k : Nat} {K : hSt → Option (Int32 × hSt)} (hk : k < 24) (hn : n ≤ 200) (hB : ∀ j, j < n → 1 ≤ B j ∧ B j ≤ 255) : ∀ (m z M : Nat) (τ : hSt), z + m = n → m < M → τ.1 200 3 = i32 (n : Int) → (∀ j, j < n → τ.1 201 j = i32 (sgB (B j))) → (∀ j, j < z → τ.1 211 (200 * k + j) = i32 (sgB (B j))) → ∃ υ, fr [211] τ υ ∧ (∀ j, j < n → υ.1 211 (200 * k + j) = i32 (sgB (B j))) ∧ (∀ p, (p < 200 * k ∨ 200 * k + 200 ≤ p) → υ.1 211 p = τ.1 211 p) ∧ f_X12_keeps_L27 (i32 (k : Int)) K M τ (i32 (z : Int)) = K υ := by
  intro m
  induction m with
  | zero =>
    intro z M τ hz hM h3 h1 h2
    obtain ⟨M, rfl⟩ : ∃ q, M = q + 1 := ⟨M - 1, by omega⟩
    obtain rfl : z = n := by omega
    refine ⟨τ, fr_rf _ _, h2, fun _ _ => rfl, ?_⟩
    rw [f_X12_keeps_L27, h3, if_pos (Int32.le_refl _)]
  | succ m ih =>
    intro z M τ hz hM h3 h1 h2
    obtain ⟨M, rfl⟩ : ∃ q, M = q + 1 := ⟨M - 1, by omega⟩
    have hq : (200 : Int32) * i32 (k : Int) + i32 (z : Int) = i32 ((200 * k + z : Nat) : Int) := by rw [show (200 : Int32) = i32 200 from rfl, i32_mul, i32_add]; rfl
    have f0 : fr [211] τ (sI τ 211 (200 * k + z) (i32 (sgB (B z)))) := fr_sI _ _ (by rw [cd_a rfl]; decide)
    obtain ⟨υ, e1, e2, e3, e4⟩ := ih (z + 1) M (sI τ 211 (200 * k + z) (i32 (sgB (B z)))) (by omega) (by omega) (by rw [sI_r _ _ (by omega)]; exact h3) (fun j hj => by rw [sI_r _ _ (by omega)]; exact h1 j hj) (fun j hj => by
      by_cases e : j = z
      · rw [sI_t _ _ ⟨rfl, by omega⟩, e]
      · rw [sI_j _ _ (by omega)]; exact h2 j (by omega))
    refine ⟨υ, fr_tr f0 e1, e2, fun p hp => by rw [e3 p hp, sI_j _ _ (by omega)], ?_⟩
    rw [f_X12_keeps_L27, h3, if_neg (show ¬ i32 (n : Int) ≤ i32 (z : Int) by rw [i32_le (by omega)]; omega), i32_cn (show z ≤ 2147483647 by omega), if_neg (ix_ok (show z < 200 by omega) (by omega)), hq, i32_cn (show 200 * k + z ≤ 2147483647 by omega), if_neg (ix_ok (show 200 * k + z < 4800 by omega) (by omega)), h1 z (by omega), nar_sg (hB z (by omega)).2, ip1]
    exact e4
theorem p_mkeeps {B : Nat → Nat} {n g k F : Nat} {Z : hZ} {τ : hSt} (hF : 300 ≤ F) (hg : g ≤ 1) (hk : k < 24) (h : tpM B n τ) (hb : bdR τ) : (¬ txF B n g = none → ∃ υ, f_X12_keeps F Z τ (i32 (k : Int)) (i32 (g : Int)) = some (0, υ) ∧ fr WG τ υ) ∧ (txF B n g = none → ∃ υ, f_X12_keeps F Z τ (i32 (k : Int)) (i32 (g : Int)) = some (1, υ) ∧ fr (211 :: 212 :: 30003 :: WG) τ υ ∧ kpM B n k υ ∧ υ.1 200 3 = i32 0 ∧ (∀ p, (p < 200 * k ∨ 200 * k + 200 ≤ p) → υ.1 211 p = τ.1 211 p) ∧ ∀ j, j ≠ k → υ.1 212 j = τ.1 212 j) := by
  obtain ⟨a1, a2, a3⟩ := h
  have hB : ∀ j, j < n → 1 ≤ B j ∧ B j ≤ 255 := fun j hj => (a3 j hj).2
  obtain ⟨υ1, e1, e2, e3, e4⟩ := p_goThrough (Z := Z) (r := 201) (bs := 0) (n := n) (lab := 0) hF hg (by decide) ⟨a1, rfl, by unfold blen; rw [if_pos rfl]; omega, fun j hj => by rw [Nat.zero_add]; exact a3 j hj⟩ (ltM_any hg hb)
  have e0 : f_X12_goThrough F Z τ 201 0 (τ.1 200 3) (i32 (g : Int)) 0 = some ((), υ1) := by rw [a2]; exact e1
  constructor
  · intro c
    cases d : txF B n g with
    | none => exact absurd d c
    | some p =>
      have := txF_le hg d
      rw [d] at e3
      refine ⟨υ1, ?_, e2⟩
      unfold f_X12_keeps
      rw [e0, obs]
      dsimp only
      rw [e3, if_neg (show ¬ i32 (oF (some p)) = -1 by
        show ¬ i32 (p : Int) = -1
        rw [show (-1 : Int32) = i32 (-1) from rfl, i32_eq (by omega)]; omega)]
  · intro c
    rw [c] at e3
    obtain ⟨υ2, b1, b2, b3, b4⟩ := p_keepL (K := (fun σ1 => if i32 (k : Int) < 0 ∨ 24 ≤ k then none else some ((1 : Int32), (sI (sI σ1 212 k (σ1.1 200 3)) 200 3 0)))) hk a1 hB n 0 F υ1 (by omega) (by omega) (by rw [e2.1 200 3 (by decide)]; exact a2) (fun j hj => by rw [fr_I e2 201 rfl (by decide)]; exact (a3 j hj).1) (fun j hj => absurd hj (Nat.not_lt_zero j))
    have l3 : υ2.1 200 3 = i32 (n : Int) := by rw [b1.1 200 3 (by decide), e2.1 200 3 (by decide)]; exact a2
    refine ⟨sI (sI υ2 212 k (υ2.1 200 3)) 200 3 0, ?_, fr_tr (fr_mono e2 (by decide)) (fr_tr (fr_mono b1 (by decide)) (fr_tr (fr_sI _ _ (by rw [cd_a rfl]; decide)) (fr_sI _ _ (by decide)))), ⟨hk, a1, ?_, fun j hj => ⟨?_, hB j hj⟩⟩, ?_, fun p hp => ?_, fun j hj => ?_⟩
    · unfold f_X12_keeps
      rw [e0, obs]
      dsimp only
      rw [e3, if_pos (show i32 (oF none) = -1 from rfl), i32_cn (show k ≤ 2147483647 by omega)]
      refine Eq.trans b4 ?_
      rw [if_neg (ix_ok (show k < 24 by omega) (by omega))]
    · rw [sI_r _ _ (by omega), sI_t _ _ ⟨rfl, rfl⟩]; exact l3
    · rw [sI_r _ _ (by omega), sI_r _ _ (by omega)]; exact b2 j hj
    · rw [sI_t _ _ ⟨rfl, rfl⟩]; rfl
    · rw [sI_r _ _ (by omega), sI_r _ _ (by omega), b3 p hp, fr_I e2 211 rfl (by decide)]
    · rw [sI_r _ _ (by omega), sI_j _ _ (by omega), fr_I b1 212 rfl (by decide), fr_I e2 212 rfl (by decide)]
