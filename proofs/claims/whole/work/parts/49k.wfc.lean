/-! codes of SUMS and CONDITIONS leave one number and never wait deep -/
def WC (m : Nat) (l : List Int) : Prop := (∀ c ∈ l, cOk c) ∧ ∀ L, ∃ v, VL L l v m
theorem WC_up {m m' : Nat} {l : List Int} (h : WC m l) (hm : m ≤ m') : WC m' l := ⟨h.1, fun L => by obtain ⟨v, q⟩ := h.2 L; exact ⟨v, VL_up q hm⟩⟩
theorem WC_1 {c : Int} (h : cOk c) (hc : c < 20000) : WC 1 [c] := by
  refine ⟨fun d hd => by rw [List.mem_singleton.1 hd]; exact h, fun L => ?_⟩
  by_cases q : c < 10000
  · exact ⟨i64 c, VL_1 fun s => by unfold eop; rw [if_pos q]⟩
  · exact ⟨L (c - 10000).toNat, VL_1 fun s => by unfold eop; rw [if_neg q, if_pos hc]⟩
theorem WC_bin {a b : List Int} {m1 m2 m : Nat} {c : Int} (ha : WC m1 a) (hb : WC m2 b) (hc : 20000 ≤ c ∧ c ≠ 20033 ∧ c ≤ 20255) (h1 : m1 ≤ m) (h2 : m2 + 1 ≤ m) : WC m (a ++ (b ++ [c])) := by
  refine ⟨fun d hd => ?_, fun L => ?_⟩
  · rw [List.mem_append, List.mem_append, List.mem_singleton] at hd
    rcases hd with hd | hd | hd
    · exact ha.1 d hd
    · exact hb.1 d hd
    · subst hd
      exact ⟨by omega, Or.inr hc.1, hc.2.2⟩
  · obtain ⟨x, qx⟩ := ha.2 L
    obtain ⟨y, qy⟩ := hb.2 L
    exact ⟨_, VL_up (VL_bin qx qy ⟨hc.1, hc.2.1⟩) (by split <;> omega)⟩
theorem WC_not {a : List Int} {m : Nat} (ha : WC m a) : WC m (a ++ [20033]) := by
  refine ⟨fun d hd => ?_, fun L => ?_⟩
  · rw [List.mem_append, List.mem_singleton] at hd
    rcases hd with hd | hd
    · exact ha.1 d hd
    · subst hd
      exact ⟨by omega, Or.inr (by omega), by omega⟩
  · obtain ⟨x, qx⟩ := ha.2 L
    exact ⟨_, VL_not qx⟩
theorem chL_WC {B : Nat → Nat} {n m : Nat} {ops : Nat → Bool} {em : Nat → Int} {it : Nat → PR} (he : ∀ c, ops c = true → 20000 ≤ em c ∧ em c ≠ 20033 ∧ em c ≤ 20255) (hi : ∀ p, (it p).1 = true → WC m (it p).2.2) : ∀ k p acc, WC (m + 1) acc → (chL B n ops em it k p acc).1 = true → WC (m + 1) (chL B n ops em it k p acc).2.2
  | 0, p, acc, ha => by
    rw [chL]
    exact fun _ => ha
  | k + 1, p, acc, ha => by
    rw [chL]
    by_cases c : ops (pk B n (sk B n p)) = true
    · rw [if_pos c]
      by_cases d : (it (sk B n p + 1)).1 = true
      · rw [if_pos d]
        exact chL_WC he hi k _ _ (WC_bin ha (hi _ d) (he _ c) (Nat.le_refl _) (Nat.le_refl _))
      · rw [if_neg d]
        intro z; cases z
    · rw [if_neg c]
      exact fun _ => ha
theorem chF_WC {B : Nat → Nat} {n m : Nat} {ops : Nat → Bool} {em : Nat → Int} {it : Nat → PR} {r : PR} (he : ∀ c, ops c = true → 20000 ≤ em c ∧ em c ≠ 20033 ∧ em c ≤ 20255) (hi : ∀ p, (it p).1 = true → WC m (it p).2.2) (hr : r.1 = true → WC (m + 1) r.2.2) (h : (chF B n ops em it r).1 = true) : WC (m + 1) (chF B n ops em it r).2.2 := by
  unfold chF at h ⊢
  by_cases c : r.1 = true
  · rw [if_pos c] at h ⊢
    exact chL_WC he hi 200 _ _ (hr c) h
  · rw [if_neg c] at h
    cases h
theorem chn_WC {B : Nat → Nat} {n m : Nat} {ops : Nat → Bool} {em : Nat → Int} {it : Nat → PR} (he : ∀ c, ops c = true → 20000 ≤ em c ∧ em c ≠ 20033 ∧ em c ≤ 20255) (hi : ∀ p, (it p).1 = true → WC m (it p).2.2) (p : Nat) (h : (chn B n ops em it p).1 = true) : WC (m + 1) (chn B n ops em it p).2.2 :=
  chF_WC he hi (r := it p) (fun z => WC_up (hi p z) (Nat.le_succ _)) h
theorem isC2_em {a b : Nat} (ha : a ≤ 255 ∧ a ≠ 33) (hb : b ≤ 255 ∧ b ≠ 33) : ∀ c, isC2 a b c = true → 20000 ≤ emC c ∧ emC c ≠ 20033 ∧ emC c ≤ 20255 := by
  intro c h
  unfold isC2 at h
  simp only [Bool.or_eq_true, beq_iff_eq] at h
  unfold emC
  omega
theorem nuN_val {B : Nat → Nat} {n : Nat} : ∀ k i p v, i + k = 4 → 0 ≤ v → v < (10 : Int) ^ i → (nuN B n k p v).1 = true → ∃ w : Int, (nuN B n k p v).2.2 = [w] ∧ 0 ≤ w ∧ w < 10000
  | 0, i, p, v, hi, h0, h1 => by
    obtain rfl : i = 4 := by omega
    rw [nuN]
    split
    · intro h; cases h
    · exact fun _ => ⟨v, rfl, h0, h1⟩
  | k + 1, i, p, v, hi, h0, h1 => by
    have h10 : (10 : Int) ^ (i + 1) = 10 ^ i * 10 := Int.pow_succ 10 i
    have hle : (10 : Int) ^ i ≤ 1000 := by
      have : i = 0 ∨ i = 1 ∨ i = 2 ∨ i = 3 := by omega
      rcases this with rfl | rfl | rfl | rfl <;> decide
    rw [nuN]
    split
    · rename_i c
      have := dg_b c
      exact nuN_val k (i + 1) _ _ (by omega) (by omega) (by rw [h10]; omega)
    · exact fun _ => ⟨v, rfl, h0, by omega⟩
theorem ix4 {g c : Nat} (hg : g ≤ 1) (hc : c ≤ 255) (h : 0 ≤ ixS (2 * g + 1) c) : 0 ≤ ixS 4 c ∧ c < 128 := by
  have h1 : ∀ c : Fin 256, 0 ≤ ixS 1 c.val → 0 ≤ ixS 4 c.val ∧ c.val < 128 := by decide +kernel
  have h3 : ∀ c : Fin 256, 0 ≤ ixS 3 c.val → 0 ≤ ixS 4 c.val ∧ c.val < 128 := by decide +kernel
  have : g = 0 ∨ g = 1 := by omega
  rcases this with rfl | rfl
  · exact h1 ⟨c, by omega⟩ h
  · exact h3 ⟨c, by omega⟩ h
theorem pkB_le {B : Nat → Nat} {n q : Nat} (hB : ∀ j, j < n → 1 ≤ B j ∧ B j ≤ 255) : pk B n q ≤ 255 := by
  unfold pk
  by_cases c : q < n
  · rw [if_pos c]; exact (hB q c).2
  · rw [if_neg c]; omega
theorem lfA_WC {B : Nat → Nat} {n g q : Nat} (hg : g ≤ 1) (hB : ∀ j, j < n → 1 ≤ B j ∧ B j ≤ 255) (h : (lfA B n g q).1 = true) : WC 1 (lfA B n g q).2.2 := by
  unfold lfA at h ⊢
  by_cases c : dg B n q = true
  · rw [if_pos c] at h ⊢
    obtain ⟨w, w1, w2, w3⟩ := nuN_val 4 0 q 0 rfl (Int.le_refl _) (by decide) h
    rw [w1]
    exact WC_1 ⟨w2, Or.inl (by omega), by omega⟩ (by omega)
  · rw [if_neg c] at h ⊢
    by_cases c2 : 0 ≤ ixS (2 * g + 1) (pk B n q)
    · rw [if_pos c2] at h ⊢
      have h4 := ix4 hg (pkB_le hB) c2
      have h5 := ixS_rg (k := 4) (by omega) (pk B n q)
      exact WC_1 ⟨by omega, Or.inl (by omega), by omega⟩ (by omega)
    · rw [if_neg c2] at h
      cases h
theorem clo_WC {B : Nat → Nat} {n c m : Nat} {r : PR} (hr : r.1 = true → WC m r.2.2) (h : (clo B n c r).1 = true) : WC m (clo B n c r).2.2 := by
  unfold clo at h ⊢
  by_cases d : r.1 = true
  · rw [if_pos d] at h ⊢
    by_cases e : pk B n (sk B n r.2.1) = c
    · rw [if_pos e]; exact hr d
    · rw [if_neg e] at h; cases h
  · rw [if_neg d] at h; cases h
theorem tA_WC {B : Nat → Nat} {n g : Nat} (hg : g ≤ 1) (hB : ∀ j, j < n → 1 ≤ B j ∧ B j ≤ 255) : ∀ d p, (tA B n g d p).1 = true → WC (2 * d + 1) (tA B n g d p).2.2
  | 0, p => by
    rw [tA]
    by_cases c : pk B n (sk B n p) = 91
    · rw [if_pos c]; intro h; cases h
    · rw [if_neg c]; exact lfA_WC hg hB
  | d + 1, p => by
    rw [tA_s]
    by_cases c : pk B n (sk B n p) = 91
    · rw [if_pos c]
      exact clo_WC (m := 2 * (d + 1) + 1) (fun z => chn_WC (isC2_em (by omega) (by omega)) (fun p q => chn_WC (isC2_em (by omega) (by omega)) (tA_WC hg hB d) p q) _ z)
    · rw [if_neg c]; exact fun z => WC_up (lfA_WC hg hB z) (by omega)
theorem tT_WC {B : Nat → Nat} {n g : Nat} (hg : g ≤ 1) (hB : ∀ j, j < n → 1 ≤ B j ∧ B j ≤ 255) (d p : Nat) (h : (tT B n g d p).1 = true) : WC (2 * d + 3) (tT B n g d p).2.2 :=
  chn_WC (isC2_em (by omega) (by omega)) (fun p q => chn_WC (isC2_em (by omega) (by omega)) (tA_WC hg hB d) p q) _ h
theorem isCm_cs {c : Nat} (h : isCm c = true) : c = 61 ∨ c = 60 ∨ c = 62 := by
  unfold isCm at h
  simp only [Bool.or_eq_true, beq_iff_eq] at h
  omega
theorem cmp_WC {B : Nat → Nat} {n g d p : Nat} {acc : List Int} (hg : g ≤ 1) (hB : ∀ j, j < n → 1 ≤ B j ∧ B j ≤ 255) (ha : WC (2 * d + 3) acc) (h : (cmp B n g d p acc).1 = true) : WC (2 * d + 4) (cmp B n g d p acc).2.2 := by
  unfold cmp at h ⊢
  by_cases c : isCm (pk B n (sk B n p)) = true
  · have hc := isCm_cs c
    rw [if_pos c] at h ⊢
    by_cases e : (tT B n g d (sk B n p + 1)).1 = true
    · rw [if_pos e]
      exact WC_bin ha (tT_WC hg hB d _ e) (by omega) (by omega) (Nat.le_refl _)
    · rw [if_neg e] at h; cases h
  · rw [if_neg c] at h; cases h
theorem sCm_WC {B : Nat → Nat} {n g d p : Nat} (hg : g ≤ 1) (hB : ∀ j, j < n → 1 ≤ B j ∧ B j ≤ 255) (h : (sCm B n g d p).1 = true) : WC (2 * d + 4) (sCm B n g d p).2.2 := by
  unfold sCm at h ⊢
  by_cases e : (tT B n g d p).1 = true
  · rw [if_pos e] at h ⊢
    exact cmp_WC hg hB (tT_WC hg hB d _ e) h
  · rw [if_neg e] at h; cases h
theorem em38 : ∀ c, isC 38 c = true → 20000 ≤ e38 c ∧ e38 c ≠ 20033 ∧ e38 c ≤ 20255 := fun c _ => by unfold e38; omega
theorem em124 : ∀ c, isC 124 c = true → 20000 ≤ e124 c ∧ e124 c ≠ 20033 ∧ e124 c ≤ 20255 := fun c _ => by unfold e124; omega
theorem tU_WC {B : Nat → Nat} {n g : Nat} (hg : g ≤ 1) (hB : ∀ j, j < n → 1 ≤ B j ∧ B j ≤ 255) : ∀ d p, (tU B n g d p).1 = true → WC (2 * d + 4) (tU B n g d p).2.2
  | 0, p => by
    rw [tU]
    by_cases c : pk B n (sk B n p) = 33 ∨ pk B n (sk B n p) = 40
    · rw [if_pos c]; intro h; cases h
    · rw [if_neg c]; exact sCm_WC hg hB
  | d + 1, p => by
    rw [tU_s]
    by_cases c : pk B n (sk B n p) = 33
    · rw [if_pos c]
      unfold add1
      by_cases e : (tU B n g d (sk B n p + 1)).1 = true
      · rw [if_pos e]
        exact fun _ => WC_up (WC_not (tU_WC hg hB d _ e)) (by omega)
      · rw [if_neg e]; intro h; cases h
    · rw [if_neg c]
      by_cases c2 : pk B n (sk B n p) = 40
      · rw [if_pos c2]
        exact clo_WC (m := 2 * (d + 1) + 4) (fun z => chn_WC em124 (fun p q => chn_WC em38 (tU_WC hg hB d) p q) _ z)
      · rw [if_neg c2]; exact sCm_WC hg hB
theorem tP_WC {B : Nat → Nat} {n g : Nat} (hg : g ≤ 1) (hB : ∀ j, j < n → 1 ≤ B j ∧ B j ≤ 255) (d p : Nat) (h : (tP B n g d p).1 = true) : WC (2 * d + 5) (tP B n g d p).2.2 := chn_WC em38 (tU_WC hg hB d) p h
theorem tC_WC {B : Nat → Nat} {n g : Nat} (hg : g ≤ 1) (hB : ∀ j, j < n → 1 ≤ B j ∧ B j ≤ 255) (d p : Nat) (h : (tC B n g d p).1 = true) : WC (2 * d + 6) (tC B n g d p).2.2 := chn_WC em124 (tP_WC hg hB d) p h
theorem tB_WC {B : Nat → Nat} {n g p : Nat} {acc : List Int} (hg : g ≤ 1) (hB : ∀ j, j < n → 1 ≤ B j ∧ B j ≤ 255) (ha : WC 15 acc) (h : (tB B n g p acc).1 = true) : WC 18 (tB B n g p acc).2.2 :=
  chF_WC (m := 17) em124 (tP_WC hg hB 6) (fun z => WC_up (chF_WC (m := 16) em38 (tU_WC hg hB 6) (fun y => WC_up (cmp_WC (d := 6) hg hB ha y) (by omega)) z) (by omega)) h
