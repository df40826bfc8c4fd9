/-! BOOKS -/
theorem obs {α β : Type} (x : α) (f : α → Option β) : (some x).bind f = f x := Eq.trans rfl rfl
def bcV (x : Int32) : Int32 := (f_J6_bitCount_0f7a4 x).getD 0
theorem p_bc (x : Int32) : f_J6_bitCount_0f7a4 x = some (bcV x) := rfl
theorem and63 (y : Int32) : ∃ k : Nat, k ≤ 63 ∧ y &&& (63 : Int32) = i32 (k : Int) := by
  refine ⟨(y.toBitVec.toNat &&& 63), Nat.and_le_right, ?_⟩
  apply Int32.toBitVec_inj.1
  rw [← i32_nat]
  apply BitVec.eq_of_toNat_eq
  show (y.toBitVec &&& 63#32).toNat = (BitVec.ofNat 32 (y.toBitVec.toNat &&& 63)).toNat
  have h : y.toBitVec.toNat &&& 63 ≤ 63 := Nat.and_le_right
  have e : (63#32).toNat = 63 := rfl
  rw [BitVec.toNat_and, e, BitVec.toNat_ofNat, Nat.mod_eq_of_lt (by omega)]
theorem bcV_rg (x : Int32) : ∃ k : Nat, k ≤ 63 ∧ bcV x = i32 (k : Int) := and63 _
noncomputable def bcN (x : Int32) : Nat := Classical.choose (bcV_rg x)
theorem bcN_le (x : Int32) : bcN x ≤ 63 := (Classical.choose_spec (bcV_rg x)).1
theorem bcN_eq (x : Int32) : bcV x = i32 (bcN x : Int) := (Classical.choose_spec (bcV_rg x)).2
theorem p_bcN (x : Int32) : f_J6_bitCount_0f7a4 x = some (i32 (bcN x : Int)) := by rw [p_bc, bcN_eq]
theorem shN {b u : Nat} (hb : b < 65536) (hu : u < 32) : i32 (b : Int) >>> (i32 (u : Int) &&& 31) = i32 ((b / 2 ^ u : Nat) : Int) := by
  rw [i32_shr hu (by omega)]
  congr 1
theorem and1N (a : Nat) : i32 (a : Int) &&& 1 = i32 ((a % 2 : Nat) : Int) := by
  rw [i32_and1]; congr 1
theorem xor16 {u v : Nat} (hu : u < 16) (hv : v < 16) : u ^^^ v < 16 := Nat.xor_lt_two_pow (n := 4) hu hv
def cc (b u v : Nat) : Nat := (b / 2 ^ (u ^^^ v) + b / 2 ^ u + b / 2 ^ v) % 2
theorem cc_le (b u v : Nat) : cc b u v ≤ 1 := by unfold cc; omega
theorem xor2 (a b : Nat) : (a ^^^ b) % 2 = (a + b) % 2 := by
  have h := Nat.testBit_xor a b 0
  simp only [Nat.testBit_zero] at h
  have h1 : a % 2 = 0 ∨ a % 2 = 1 := by omega
  have h2 : b % 2 = 0 ∨ b % 2 = 1 := by omega
  have h3 : (a ^^^ b) % 2 = 0 ∨ (a ^^^ b) % 2 = 1 := by omega
  rcases h1 with h1 | h1 <;> rcases h2 with h2 | h2 <;> rcases h3 with h3 | h3 <;> simp [h1, h2, h3] at h <;> omega
theorem cc_c {b u v : Nat} (hb : b < 65536) (hu : u < 16) (hv : v < 16) : (((i32 (b : Int) >>> ((i32 (u : Int) ^^^ i32 (v : Int)) &&& 31)) ^^^ (i32 (b : Int) >>> (i32 (u : Int) &&& 31))) ^^^ (i32 (b : Int) >>> (i32 (v : Int) &&& 31))) &&& 1 = i32 (cc b u v : Int) := by
  have := xor16 hu hv
  rw [i32_xor, shN hb (by omega), shN hb (by omega), shN hb (by omega), i32_xor, i32_xor, and1N, xor2]
  unfold cc
  congr 2
  rw [Nat.add_mod, xor2, ← Nat.add_mod]
def CBi (b u m : Nat) : Nat := nS (fun v => cc b u v) m
def CB (b k : Nat) : Nat := nS (fun u => CBi b u (2 ^ k)) (2 ^ k)
theorem nS_le {f : Nat → Nat} {c : Nat} (h : ∀ i, f i ≤ c) : ∀ n, nS f n ≤ n * c
  | 0 => by simp [nS]
  | n + 1 => by
    have := nS_le h n
    have := h n
    rw [nS, Nat.add_mul]; omega
theorem CBi_le (b u m : Nat) : CBi b u m ≤ m := by
  have := nS_le (f := fun v => cc b u v) (c := 1) (fun v => cc_le b u v) m
  unfold CBi; omega
theorem pw4 {k : Nat} (hk : k ≤ 4) : 2 ^ k ≤ 16 := by
  have : 2 ^ k ≤ 2 ^ 4 := Nat.pow_le_pow_right (by decide) hk
  simpa using this
theorem sh1k {k : Nat} (hk : k ≤ 4) : (1 : Int32) <<< (i32 (k : Int) &&& 31) = i32 ((2 ^ k : Nat) : Int) := sh1 (by omega)
theorem p_pc_in {b k u : Nat} (hb : b < 65536) (hk : k ≤ 4) (hu : u < 2 ^ k) (K : Int32 → Option Int32) : ∀ (n v N a : Nat), v + n = 2 ^ k → n < N → a ≤ 1000 → f_X6_pairsCaught_L14 (i32 (k : Int)) (i32 (b : Int)) (i32 (u : Int)) K N (i32 ((a + CBi b u v : Nat) : Int)) (i32 (v : Int)) = K (i32 ((a + CBi b u (2 ^ k) : Nat) : Int))
  | 0, v, N, a, hv, hN, ha => by
    obtain ⟨N, rfl⟩ : ∃ q, N = q + 1 := ⟨N - 1, by omega⟩
    obtain rfl : v = 2 ^ k := by omega
    rw [f_X6_pairsCaught_L14, sh1k hk, if_pos (Int32.le_refl _)]
  | n + 1, v, N, a, hv, hN, ha => by
    obtain ⟨N, rfl⟩ : ∃ q, N = q + 1 := ⟨N - 1, by omega⟩
    have h16 := pw4 hk
    have ih := p_pc_in hb hk hu K n (v + 1) N a (by omega) (by omega) ha
    rw [← ih, f_X6_pairsCaught_L14, sh1k hk, cc_c hb (by omega) (by omega), i32_add, if_neg (by rw [i32_le (by omega)]; omega)]
    congr 1
    · exact congrArg i32 (by show _ = ((a + (CBi b u v + cc b u v) : Nat) : Int); omega)
    · show _ = i32 (((v : Int) + 1))
      rw [i32_lit, i32_add]
theorem p_pc_L {F b k : Nat} (hF : 300 ≤ F) (hb : b < 65536) (hk : k ≤ 4) : ∀ (n u N : Nat), u + n = 2 ^ k → n < N → f_X6_pairsCaught_L4 F (i32 (k : Int)) (i32 (b : Int)) N (i32 ((nS (fun u => CBi b u (2 ^ k)) u : Nat) : Int)) (i32 (u : Int)) = some (i32 (CB b k : Int))
  | 0, u, N, hu, hN => by
    obtain ⟨N, rfl⟩ : ∃ q, N = q + 1 := ⟨N - 1, by omega⟩
    obtain rfl : u = 2 ^ k := by omega
    rw [f_X6_pairsCaught_L4, sh1k hk, if_pos (Int32.le_refl _)]
    rfl
  | n + 1, u, N, hu, hN => by
    obtain ⟨N, rfl⟩ : ∃ q, N = q + 1 := ⟨N - 1, by omega⟩
    have h16 := pw4 hk
    have hS := nS_le (f := fun u => CBi b u (2 ^ k)) (c := 2 ^ k) (fun v => CBi_le b v _) u
    have hS2 : u * 2 ^ k ≤ 16 * 16 := Nat.mul_le_mul (by omega) h16
    have ih := p_pc_L hF hb hk n (u + 1) N (by omega) (by omega)
    rw [← ih, f_X6_pairsCaught_L4, sh1k hk, if_neg (by rw [i32_le (by omega)]; omega)]
    have := p_pc_in hb hk (show u < 2 ^ k by omega) (fun z2 => f_X6_pairsCaught_L4 F (i32 (k : Int)) (i32 (b : Int)) N z2 (i32 (u : Int) + 1)) (2 ^ k) 0 F (nS (fun u => CBi b u (2 ^ k)) u) (by omega) (by omega) (by omega)
    refine this.trans ?_
    rw [i32_lit, i32_add]
    rfl
theorem p_pc {F b k : Nat} (hF : 300 ≤ F) (hb : b < 65536) (hk : k ≤ 4) : f_X6_pairsCaught F (i32 (k : Int)) (i32 (b : Int)) = some (i32 (CB b k : Int)) := by
  have := pw4 hk
  exact p_pc_L hF hb hk (2 ^ k) 0 F (by omega) (by omega)
/-! the model's way -/
theorem p_cell {b u : Nat} (hb : b < 65536) (hu : u < 32) : f_X12_cell (i32 (b : Int)) (i32 (u : Int)) = some (i32 ((b / 2 ^ u % 2 : Nat) : Int)) := by
  unfold f_X12_cell
  rw [shN hb hu, and1N]
theorem x01 {p q : Nat} (hp : p ≤ 1) (hq : q ≤ 1) : i32 (p : Int) ^^^ i32 (q : Int) = i32 (((p + q) % 2 : Nat) : Int) := by
  rw [i32_xor]
  congr 2
  have h1 : p = 0 ∨ p = 1 := by omega
  have h2 : q = 0 ∨ q = 1 := by omega
  rcases h1 with rfl | rfl <;> rcases h2 with rfl | rfl <;> rfl
theorem p_cb_in {b k u : Nat} (hb : b < 65536) (hk : k ≤ 4) (hu : u < 2 ^ k) (K : Int32 → Option Int32) : ∀ (n v N a : Nat), v + n = 2 ^ k → n < N → a ≤ 1000 → f_X12_caughtBy_L14 (i32 (k : Int)) (i32 (b : Int)) (i32 (u : Int)) K N (i32 ((a + CBi b u v : Nat) : Int)) (i32 (v : Int)) = K (i32 ((a + CBi b u (2 ^ k) : Nat) : Int))
  | 0, v, N, a, hv, hN, ha => by
    obtain ⟨N, rfl⟩ : ∃ q, N = q + 1 := ⟨N - 1, by omega⟩
    obtain rfl : v = 2 ^ k := by omega
    rw [f_X12_caughtBy_L14, sh1k hk, if_pos (Int32.le_refl _)]
  | n + 1, v, N, a, hv, hN, ha => by
    obtain ⟨N, rfl⟩ : ∃ q, N = q + 1 := ⟨N - 1, by omega⟩
    have h16 := pw4 hk
    have hx := xor16 (show u < 16 by omega) (show v < 16 by omega)
    have ih := p_cb_in hb hk hu K n (v + 1) N a (by omega) (by omega) ha
    have e2 : (i32 (v : Int) + 1) = i32 ((v + 1 : Nat) : Int) := by rw [i32_lit, i32_add]; rfl
    rw [← ih, f_X12_caughtBy_L14, sh1k hk, i32_xor, p_cell hb (by omega), p_cell hb (by omega), p_cell hb (by omega), if_neg (by rw [i32_le (by omega)]; omega), e2]
    simp only [Option.bind_some]
    rw [x01 (by omega) (by omega)]
    have hC : CBi b u (v + 1) = CBi b u v + cc b u v := rfl
    have hcc : cc b u v = if b / 2 ^ (u ^^^ v) % 2 = (b / 2 ^ u % 2 + b / 2 ^ v % 2) % 2 then 0 else 1 := by
      unfold cc; split <;> omega
    rw [hC]
    by_cases c : b / 2 ^ (u ^^^ v) % 2 = (b / 2 ^ u % 2 + b / 2 ^ v % 2) % 2
    · rw [if_pos c] at hcc
      rw [hcc, if_pos (by rw [c]), i32_lit, i32_add]
      rfl
    · rw [if_neg c] at hcc
      rw [hcc, if_neg (by rw [i32_eq (by omega)]; omega), i32_lit, i32_add]
      rfl
theorem p_cb_L {F b k : Nat} (hF : 300 ≤ F) (hb : b < 65536) (hk : k ≤ 4) : ∀ (n u N : Nat), u + n = 2 ^ k → n < N → f_X12_caughtBy_L4 F (i32 (k : Int)) (i32 (b : Int)) N (i32 ((nS (fun u => CBi b u (2 ^ k)) u : Nat) : Int)) (i32 (u : Int)) = some (i32 (CB b k : Int))
  | 0, u, N, hu, hN => by
    obtain ⟨N, rfl⟩ : ∃ q, N = q + 1 := ⟨N - 1, by omega⟩
    obtain rfl : u = 2 ^ k := by omega
    rw [f_X12_caughtBy_L4, sh1k hk, if_pos (Int32.le_refl _)]
    rfl
  | n + 1, u, N, hu, hN => by
    obtain ⟨N, rfl⟩ : ∃ q, N = q + 1 := ⟨N - 1, by omega⟩
    have h16 := pw4 hk
    have hS := nS_le (f := fun u => CBi b u (2 ^ k)) (c := 2 ^ k) (fun v => CBi_le b v _) u
    have hS2 : u * 2 ^ k ≤ 16 * 16 := Nat.mul_le_mul (by omega) h16
    have ih := p_cb_L hF hb hk n (u + 1) N (by omega) (by omega)
    rw [← ih, f_X12_caughtBy_L4, sh1k hk, if_neg (by rw [i32_le (by omega)]; omega)]
    have := p_cb_in hb hk (show u < 2 ^ k by omega) (fun z2 => f_X12_caughtBy_L4 F (i32 (k : Int)) (i32 (b : Int)) N z2 (i32 (u : Int) + 1)) (2 ^ k) 0 F (nS (fun u => CBi b u (2 ^ k)) u) (by omega) (by omega) (by omega)
    refine this.trans ?_
    rw [i32_lit, i32_add]
    rfl
theorem p_cb {F b k : Nat} (hF : 300 ≤ F) (hb : b < 65536) (hk : k ≤ 4) : f_X12_caughtBy F (i32 (k : Int)) (i32 (b : Int)) = some (i32 (CB b k : Int)) := by
  have := pw4 hk
  exact p_cb_L hF hb hk (2 ^ k) 0 F (by omega) (by omega)
theorem CB_le (b k : Nat) : CB b k ≤ 2 ^ k * 2 ^ k := nS_le (f := fun u => CBi b u (2 ^ k)) (c := 2 ^ k) (fun v => CBi_le b v _) (2 ^ k)
/-! LINEAR books -/
noncomputable def lbN (m : Nat) : Nat → Nat
  | 0 => 0
  | u + 1 => lbN m u ||| (bcN (i32 ((u &&& m : Nat) : Int)) % 2 * 2 ^ u)
theorem lbN_lt (m : Nat) : ∀ u, lbN m u < 2 ^ u
  | 0 => by simp [lbN]
  | u + 1 => by
    refine Nat.or_lt_two_pow (Nat.lt_of_lt_of_le (lbN_lt m u) (Nat.pow_le_pow_right (by decide) (by omega))) ?_
    have : bcN (i32 ((u &&& m : Nat) : Int)) % 2 * 2 ^ u ≤ 1 * 2 ^ u := Nat.mul_le_mul_right _ (by omega)
    have : 0 < 2 ^ u := Nat.pow_pos (by decide)
    rw [Nat.pow_succ]; omega
theorem lb_step {m u : Nat} (hu : u < 16) (hm : m < 16) : i32 (lbN m u : Int) ||| ((i32 (bcN (i32 ((u &&& m : Nat) : Int)) : Int) &&& 1) <<< (i32 (u : Int) &&& 31)) = i32 (lbN m (u + 1) : Int) := by
  rw [and1N, i32_shl _ (by omega)]
  have e : ((bcN (i32 ((u &&& m : Nat) : Int)) % 2 : Nat) : Int) * 2 ^ u = ((bcN (i32 ((u &&& m : Nat) : Int)) % 2 * 2 ^ u : Nat) : Int) := by
    rw [Int.natCast_mul, Int.natCast_pow]; rfl
  rw [e, i32_or]
  rfl
theorem p_lb_L {k m : Nat} (hk : k ≤ 4) (hm : m < 16) : ∀ (n u N : Nat), u + n = 2 ^ k → n < N → f_X6_linearBook_L4 (i32 (k : Int)) (i32 (m : Int)) N (i32 (lbN m u : Int)) (i32 (u : Int)) = some (i32 (lbN m (2 ^ k) : Int))
  | 0, u, N, hu, hN => by
    obtain ⟨N, rfl⟩ : ∃ q, N = q + 1 := ⟨N - 1, by omega⟩
    obtain rfl : u = 2 ^ k := by omega
    rw [f_X6_linearBook_L4, sh1k hk, if_pos (Int32.le_refl _)]
  | n + 1, u, N, hu, hN => by
    obtain ⟨N, rfl⟩ : ∃ q, N = q + 1 := ⟨N - 1, by omega⟩
    have h16 := pw4 hk
    have ih := p_lb_L hk hm n (u + 1) N (by omega) (by omega)
    have e2 : (i32 (u : Int) + 1) = i32 ((u + 1 : Nat) : Int) := by rw [i32_lit, i32_add]; rfl
    rw [← ih, f_X6_linearBook_L4, sh1k hk, i32_and, p_bcN, if_neg (by rw [i32_le (by omega)]; omega), e2]
    simp only [Option.bind_some]
    rw [lb_step (by omega) hm]
theorem p_lb {F k m : Nat} (hF : 300 ≤ F) (hk : k ≤ 4) (hm : m < 16) : f_X6_linearBook F (i32 (k : Int)) (i32 (m : Int)) = some (i32 (lbN m (2 ^ k) : Int)) := by
  have := pw4 hk
  exact p_lb_L hk hm (2 ^ k) 0 F (by omega) (by omega)
theorem p_mlb {k m : Nat} {y2 y3 y4 y5 : Int32} (hk : k ≤ 4) (hm : m < 16) (K : Int32 → Option (Int32 × hSt)) : ∀ (n u N : Nat), u + n = 2 ^ k → n < N → f_X12_book_L82 (i32 (k : Int)) y2 y3 y4 y5 (i32 (m : Int)) K N (i32 (lbN m u : Int)) (i32 (u : Int)) = K (i32 (lbN m (2 ^ k) : Int))
  | 0, u, N, hu, hN => by
    obtain ⟨N, rfl⟩ : ∃ q, N = q + 1 := ⟨N - 1, by omega⟩
    obtain rfl : u = 2 ^ k := by omega
    rw [f_X12_book_L82, sh1k hk, if_pos (Int32.le_refl _)]
  | n + 1, u, N, hu, hN => by
    obtain ⟨N, rfl⟩ : ∃ q, N = q + 1 := ⟨N - 1, by omega⟩
    have h16 := pw4 hk
    have ih := p_mlb (y2 := y2) (y3 := y3) (y4 := y4) (y5 := y5) hk hm K n (u + 1) N (by omega) (by omega)
    have e2 : (i32 (u : Int) + 1) = i32 ((u + 1 : Nat) : Int) := by rw [i32_lit, i32_add]; rfl
    rw [← ih, f_X12_book_L82, sh1k hk, i32_and, p_bcN, if_neg (by rw [i32_le (by omega)]; omega), e2]
    simp only [Option.bind_some]
    rw [lb_step (by omega) hm]
/-- how far a book is from another -/
noncomputable def dsB (a b : Nat) : Nat := bcN (i32 ((a ^^^ b : Nat) : Int))
noncomputable def nrB (k b : Nat) : Nat → Nat
  | 0 => 0
  | p + 1 => let l := lbN p (2 ^ k); let z := nrB k b p; if dsB l b < dsB z b ∨ (dsB l b = dsB z b ∧ l < z) then l else z
theorem lb16 {k : Nat} (hk : k ≤ 4) (m : Nat) : lbN m (2 ^ k) < 65536 := by
  have h1 := lbN_lt m (2 ^ k)
  have h2 : 2 ^ (2 ^ k) ≤ 2 ^ 16 := Nat.pow_le_pow_right (by decide) (pw4 hk)
  have : (2 : Nat) ^ 16 = 65536 := rfl
  omega
theorem nr16 {k : Nat} (hk : k ≤ 4) (b : Nat) : ∀ p, nrB k b p < 65536
  | 0 => by simp [nrB]
  | p + 1 => by
    have := lb16 hk p
    have := nr16 hk b p
    simp only [nrB]
    split <;> omega
theorem dsB_le (a b : Nat) : dsB a b ≤ 63 := bcN_le _
theorem p_ds (a b : Nat) : f_J6_bitCount_0f7a4 (i32 (a : Int) ^^^ i32 (b : Int)) = some (i32 (dsB a b : Int)) := by
  rw [i32_xor]; exact p_bcN _
theorem nrB_succ (k b p : Nat) : nrB k b (p + 1) = if dsB (lbN p (2 ^ k)) b < dsB (nrB k b p) b ∨ (dsB (lbN p (2 ^ k)) b = dsB (nrB k b p) b ∧ lbN p (2 ^ k) < nrB k b p) then lbN p (2 ^ k) else nrB k b p := by
  simp only [nrB]
theorem p_nr_L {F k b : Nat} (hF : 300 ≤ F) (hk : k ≤ 4) : ∀ (n p N : Nat), p + n = 2 ^ k → n < N → f_X6_nearestLinear_L4 F (i32 (k : Int)) (i32 (b : Int)) N (i32 (nrB k b p : Int)) (i32 (p : Int)) = some (i32 (nrB k b (2 ^ k) : Int)) := by
  intro n
  induction n with
  | zero =>
    intro p N hu hN
    obtain ⟨N, rfl⟩ : ∃ q, N = q + 1 := ⟨N - 1, by omega⟩
    obtain rfl : p = 2 ^ k := by omega
    rw [f_X6_nearestLinear_L4, sh1k hk, if_pos (Int32.le_refl _)]
  | succ n ihn =>
    intro p N hu hN
    obtain ⟨N, rfl⟩ : ∃ q, N = q + 1 := ⟨N - 1, by omega⟩
    have h16 := pw4 hk
    have ih := ihn (p + 1) N (by omega) (by omega)
    have e2 : (i32 (p : Int) + 1) = i32 ((p + 1 : Nat) : Int) := by rw [i32_lit, i32_add]; rfl
    have hl := lb16 hk p
    have hz := nr16 hk b p
    have d1 := dsB_le (lbN p (2 ^ k)) b
    have d2 := dsB_le (nrB k b p) b
    rw [← ih, f_X6_nearestLinear_L4, sh1k hk, p_lb hF hk (show p < 16 by omega), if_neg (by rw [i32_le (by omega)]; omega), e2]
    rw [obs, p_ds, obs, p_ds, obs]
    rw [nrB_succ]
    generalize dsB (lbN p (2 ^ k)) b = A at d1 ⊢
    generalize dsB (nrB k b p) b = B at d2 ⊢
    by_cases c1 : A < B
    · rw [if_pos (Or.inl c1)]
      simp (disch := omega) only [↓reduceIte, iT_lt, iF_lt, iT_le, iF_le, iT_eq, iF_eq, nT_lt, nF_lt, nT_le, nF_le, nT_eq, nF_eq, and_self, and_true, true_and, and_false, false_and, not_true_eq_false, not_false_eq_true, ne_eq, or_self, or_false, false_or, or_true, true_or, Option.bind_some, i32_lit, i64_lit, i32_add, i32_sub, i32_mul, i32_neg, i64_add, i64_sub, i64_neg, i32_lt, i32_le, i32_eq, i64_lt, i64_le, i64_eq, i32_cn, i32_cl, i32_l, i64_i, i32_nat, Int.toNat_natCast, sI_2, sJ_1, sJ_22, sR_1, sR_21, sI_t, sI_r, sI_j, sJ_t, sJ_r, sJ_j, sR_t, sR_r, sR_j]
    · by_cases c2 : A = B
      · subst c2
        by_cases c3 : lbN p (2 ^ k) < nrB k b p
        · rw [if_pos (Or.inr ⟨rfl, c3⟩)]
          simp (disch := omega) only [↓reduceIte, iT_lt, iF_lt, iT_le, iF_le, iT_eq, iF_eq, nT_lt, nF_lt, nT_le, nF_le, nT_eq, nF_eq, and_self, and_true, true_and, and_false, false_and, not_true_eq_false, not_false_eq_true, ne_eq, or_self, or_false, false_or, or_true, true_or, Option.bind_some, i32_lit, i64_lit, i32_add, i32_sub, i32_mul, i32_neg, i64_add, i64_sub, i64_neg, i32_lt, i32_le, i32_eq, i64_lt, i64_le, i64_eq, i32_cn, i32_cl, i32_l, i64_i, i32_nat, Int.toNat_natCast, sI_2, sJ_1, sJ_22, sR_1, sR_21, sI_t, sI_r, sI_j, sJ_t, sJ_r, sJ_j, sR_t, sR_r, sR_j]
        · rw [if_neg (show ¬ (A < A ∨ (A = A ∧ lbN p (2 ^ k) < nrB k b p)) by omega)]
          simp (disch := omega) only [↓reduceIte, iT_lt, iF_lt, iT_le, iF_le, iT_eq, iF_eq, nT_lt, nF_lt, nT_le, nF_le, nT_eq, nF_eq, and_self, and_true, true_and, and_false, false_and, not_true_eq_false, not_false_eq_true, ne_eq, or_self, or_false, false_or, or_true, true_or, Option.bind_some, i32_lit, i64_lit, i32_add, i32_sub, i32_mul, i32_neg, i64_add, i64_sub, i64_neg, i32_lt, i32_le, i32_eq, i64_lt, i64_le, i64_eq, i32_cn, i32_cl, i32_l, i64_i, i32_nat, Int.toNat_natCast, sI_2, sJ_1, sJ_22, sR_1, sR_21, sI_t, sI_r, sI_j, sJ_t, sJ_r, sJ_j, sR_t, sR_r, sR_j]
      · rw [if_neg (show ¬ (A < B ∨ (A = B ∧ lbN p (2 ^ k) < nrB k b p)) by omega)]
        simp (disch := omega) only [↓reduceIte, iT_lt, iF_lt, iT_le, iF_le, iT_eq, iF_eq, nT_lt, nF_lt, nT_le, nF_le, nT_eq, nF_eq, and_self, and_true, true_and, and_false, false_and, not_true_eq_false, not_false_eq_true, ne_eq, or_self, or_false, false_or, or_true, true_or, Option.bind_some, i32_lit, i64_lit, i32_add, i32_sub, i32_mul, i32_neg, i64_add, i64_sub, i64_neg, i32_lt, i32_le, i32_eq, i64_lt, i64_le, i64_eq, i32_cn, i32_cl, i32_l, i64_i, i32_nat, Int.toNat_natCast, sI_2, sJ_1, sJ_22, sR_1, sR_21, sI_t, sI_r, sI_j, sJ_t, sJ_r, sJ_j, sR_t, sR_r, sR_j]
theorem p_nr {F k b : Nat} (hF : 300 ≤ F) (hk : k ≤ 4) : f_X6_nearestLinear F (i32 (k : Int)) (i32 (b : Int)) = some (i32 (nrB k b (2 ^ k) : Int)) := by
  have := pw4 hk
  exact p_nr_L hF hk (2 ^ k) 0 F (by omega) (by omega)
theorem lb0 : ∀ u, u ≤ 16 → lbN 0 u = 0
  | 0, _ => rfl
  | u + 1, h => by
    rw [lbN, lb0 u (by omega), Nat.and_zero]
    have e : bcN (i32 ((0 : Nat) : Int)) = 0 := by
      have h1 := bcN_eq (i32 ((0 : Nat) : Int))
      have h2 := bcN_le (i32 ((0 : Nat) : Int))
      have h3 : bcV (i32 ((0 : Nat) : Int)) = i32 0 := by decide +kernel
      rw [h3, i32_eq (by omega)] at h1
      omega
    rw [e]
    simp
theorem p_mbook_L {F k b w : Nat} {τ : hSt} (hF : 300 ≤ F) (hk : k ≤ 4) (hw : w = 2 ∨ w = 3) : ∀ (n p N : Nat), p + n = 2 ^ k → n < N → 1 ≤ p → f_X12_book_L68 F τ (i32 (k : Int)) (i32 (b : Int)) (i32 (w : Int)) N (i32 (nrB k b p : Int)) (i32 (dsB (nrB k b p) b : Int)) (i32 (p : Int)) = some (if w = 2 then i32 (dsB (nrB k b (2 ^ k)) b : Int) else i32 (nrB k b (2 ^ k) : Int), τ) := by
  intro n
  induction n with
  | zero =>
    intro p N hu hN hp
    obtain ⟨N, rfl⟩ : ∃ q, N = q + 1 := ⟨N - 1, by omega⟩
    obtain rfl : p = 2 ^ k := by omega
    rw [f_X12_book_L68, sh1k hk, if_pos (Int32.le_refl _)]
    rcases hw with rfl | rfl
    · simp (disch := omega) only [↓reduceIte, iT_lt, iF_lt, iT_le, iF_le, iT_eq, iF_eq, nT_lt, nF_lt, nT_le, nF_le, nT_eq, nF_eq, and_self, and_true, true_and, and_false, false_and, not_true_eq_false, not_false_eq_true, ne_eq, or_self, or_false, false_or, or_true, true_or, Option.bind_some, i32_lit, i64_lit, i32_add, i32_sub, i32_mul, i32_neg, i64_add, i64_sub, i64_neg, i32_lt, i32_le, i32_eq, i64_lt, i64_le, i64_eq, i32_cn, i32_cl, i32_l, i64_i, i32_nat, Int.toNat_natCast, sI_2, sJ_1, sJ_22, sR_1, sR_21, sI_t, sI_r, sI_j, sJ_t, sJ_r, sJ_j, sR_t, sR_r, sR_j]
    · simp (disch := omega) only [↓reduceIte, iT_lt, iF_lt, iT_le, iF_le, iT_eq, iF_eq, nT_lt, nF_lt, nT_le, nF_le, nT_eq, nF_eq, and_self, and_true, true_and, and_false, false_and, not_true_eq_false, not_false_eq_true, ne_eq, or_self, or_false, false_or, or_true, true_or, Option.bind_some, i32_lit, i64_lit, i32_add, i32_sub, i32_mul, i32_neg, i64_add, i64_sub, i64_neg, i32_lt, i32_le, i32_eq, i64_lt, i64_le, i64_eq, i32_cn, i32_cl, i32_l, i64_i, i32_nat, Int.toNat_natCast, sI_2, sJ_1, sJ_22, sR_1, sR_21, sI_t, sI_r, sI_j, sJ_t, sJ_r, sJ_j, sR_t, sR_r, sR_j]
  | succ n ihn =>
    intro p N hu hN hp
    obtain ⟨N, rfl⟩ : ∃ q, N = q + 1 := ⟨N - 1, by omega⟩
    have h16 := pw4 hk
    have ih := ihn (p + 1) N (by omega) (by omega) (by omega)
    have e2 : (i32 (p : Int) + 1) = i32 ((p + 1 : Nat) : Int) := by rw [i32_lit, i32_add]; rfl
    have hl := lb16 hk p
    have hz := nr16 hk b p
    have d1 := dsB_le (lbN p (2 ^ k)) b
    have d2 := dsB_le (nrB k b p) b
    rw [← ih, f_X12_book_L68, sh1k hk, if_neg (by rw [i32_le (by omega)]; omega), e2]
    refine (p_mlb hk (show p < 16 by omega) _ (2 ^ k) 0 F (by omega) (by omega)).trans ?_
    rw [i32_xor, p_bcN]
    simp only [Option.bind_some]
    rw [show bcN (i32 ((lbN p (2 ^ k) ^^^ b : Nat) : Int)) = dsB (lbN p (2 ^ k)) b from rfl]
    simp only [nrB]
    by_cases c1 : dsB (lbN p (2 ^ k)) b < dsB (nrB k b p) b
    · rw [if_pos (Or.inl c1)]
      simp (disch := omega) only [↓reduceIte, iT_lt, iF_lt, iT_le, iF_le, iT_eq, iF_eq, nT_lt, nF_lt, nT_le, nF_le, nT_eq, nF_eq, and_self, and_true, true_and, and_false, false_and, not_true_eq_false, not_false_eq_true, ne_eq, or_self, or_false, false_or, or_true, true_or, Option.bind_some, i32_lit, i64_lit, i32_add, i32_sub, i32_mul, i32_neg, i64_add, i64_sub, i64_neg, i32_lt, i32_le, i32_eq, i64_lt, i64_le, i64_eq, i32_cn, i32_cl, i32_l, i64_i, i32_nat, Int.toNat_natCast, sI_2, sJ_1, sJ_22, sR_1, sR_21, sI_t, sI_r, sI_j, sJ_t, sJ_r, sJ_j, sR_t, sR_r, sR_j]
    · by_cases c2 : dsB (lbN p (2 ^ k)) b = dsB (nrB k b p) b
      · by_cases c3 : lbN p (2 ^ k) < nrB k b p
        · rw [if_pos (Or.inr ⟨c2, c3⟩)]
          simp (disch := omega) only [↓reduceIte, iT_lt, iF_lt, iT_le, iF_le, iT_eq, iF_eq, nT_lt, nF_lt, nT_le, nF_le, nT_eq, nF_eq, and_self, and_true, true_and, and_false, false_and, not_true_eq_false, not_false_eq_true, ne_eq, or_self, or_false, false_or, or_true, true_or, Option.bind_some, i32_lit, i64_lit, i32_add, i32_sub, i32_mul, i32_neg, i64_add, i64_sub, i64_neg, i32_lt, i32_le, i32_eq, i64_lt, i64_le, i64_eq, i32_cn, i32_cl, i32_l, i64_i, i32_nat, Int.toNat_natCast, sI_2, sJ_1, sJ_22, sR_1, sR_21, sI_t, sI_r, sI_j, sJ_t, sJ_r, sJ_j, sR_t, sR_r, sR_j]
        · rw [if_neg (show ¬ (dsB (lbN p (2 ^ k)) b < dsB (nrB k b p) b ∨ (dsB (lbN p (2 ^ k)) b = dsB (nrB k b p) b ∧ lbN p (2 ^ k) < nrB k b p)) by omega)]
          simp (disch := omega) only [↓reduceIte, iT_lt, iF_lt, iT_le, iF_le, iT_eq, iF_eq, nT_lt, nF_lt, nT_le, nF_le, nT_eq, nF_eq, and_self, and_true, true_and, and_false, false_and, not_true_eq_false, not_false_eq_true, ne_eq, or_self, or_false, false_or, or_true, true_or, Option.bind_some, i32_lit, i64_lit, i32_add, i32_sub, i32_mul, i32_neg, i64_add, i64_sub, i64_neg, i32_lt, i32_le, i32_eq, i64_lt, i64_le, i64_eq, i32_cn, i32_cl, i32_l, i64_i, i32_nat, Int.toNat_natCast, sI_2, sJ_1, sJ_22, sR_1, sR_21, sI_t, sI_r, sI_j, sJ_t, sJ_r, sJ_j, sR_t, sR_r, sR_j]
      · rw [if_neg (show ¬ (dsB (lbN p (2 ^ k)) b < dsB (nrB k b p) b ∨ (dsB (lbN p (2 ^ k)) b = dsB (nrB k b p) b ∧ lbN p (2 ^ k) < nrB k b p)) by omega)]
        simp (disch := omega) only [↓reduceIte, iT_lt, iF_lt, iT_le, iF_le, iT_eq, iF_eq, nT_lt, nF_lt, nT_le, nF_le, nT_eq, nF_eq, and_self, and_true, true_and, and_false, false_and, not_true_eq_false, not_false_eq_true, ne_eq, or_self, or_false, false_or, or_true, true_or, Option.bind_some, i32_lit, i64_lit, i32_add, i32_sub, i32_mul, i32_neg, i64_add, i64_sub, i64_neg, i32_lt, i32_le, i32_eq, i64_lt, i64_le, i64_eq, i32_cn, i32_cl, i32_l, i64_i, i32_nat, Int.toNat_natCast, sI_2, sJ_1, sJ_22, sR_1, sR_21, sI_t, sI_r, sI_j, sJ_t, sJ_r, sJ_j, sR_t, sR_r, sR_j]
theorem p_mbook {F k b w : Nat} {τ : hSt} (hF : 300 ≤ F) (hk : k ≤ 4) (hw : w = 2 ∨ w = 3) : f_X12_book_L68 F τ (i32 (k : Int)) (i32 (b : Int)) (i32 (w : Int)) F (-1) (-1) 0 = some (if w = 2 then i32 (dsB (nrB k b (2 ^ k)) b : Int) else i32 (nrB k b (2 ^ k) : Int), τ) := by
  obtain ⟨N, hN⟩ : ∃ q, F = q + 1 := ⟨F - 1, by omega⟩
  have h16 := pw4 hk
  have hpos : 0 < 2 ^ k := Nat.pow_pos (by decide)
  have h1 : nrB k b 1 = 0 := by
    simp only [nrB]
    rw [lb0 _ h16]
    simp
  have ih := p_mbook_L (b := b) (τ := τ) hF hk hw (2 ^ k - 1) 1 N (by omega) (by omega) (by omega)
  rw [h1] at ih
  rw [← ih]
  conv => lhs; rw [hN]
  rw [f_X12_book_L68, sh1k hk, show (0 : Int32) = i32 ((0 : Nat) : Int) from rfl, if_neg (by rw [i32_le (by omega)]; omega)]
  rw [← hN]
  refine (p_mlb hk (show 0 < 16 by omega) _ (2 ^ k) 0 F (by omega) (by omega)).trans ?_
  rw [lb0 _ h16, i32_xor, p_bcN]
  rfl
