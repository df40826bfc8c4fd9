/-! agreeing, moving on, the end; class -/
theorem sitH_W {W : List Nat} {Z : hZ} {σ τ : hSt} {s t : Nat} {N P : Int} {sp : Nat → Int} {cs : Cls} (h : sitH Z σ s t N P sp cs) (f : fr W σ τ) (n2 : 11202 ∉ W) (n3 : 11203 ∉ W) (n4 : 11204 ∉ W) (n5 : 13 ∉ W) : sitH Z τ s t N P sp cs := by
  obtain ⟨a1, a2, a3, a4, a5, a6, a7, a8, a9, a10, a11, a12, a13, a14⟩ := h
  refine ⟨by rw [f.2.2.1 12 2 n2]; exact a1, a2, by rw [f.2.2.1 12 3 n3]; exact a3, a4, by rw [f.1 12 4 n4]; exact a5, a6, a7, a8, a9, a10, a11, a12, a13, fun j hj x4 x6 x7 x9 => ?_⟩
  rw [f.2.1 13 j (by rw [cd_a rfl]; exact n5)]
  exact a14 j hj x4 x6 x7 x9
theorem p_agr {F : Nat} {Z : hZ} {σ : hSt} {r0 r1 s tl tg i : Nat} {T : TK} {y cl : Int} {ds : Nat → Int} (hF : 1000 ≤ F) (hr : r0 = 14 ∨ r0 = 15) (hz : tkZ Z r1 s tl tg T) (hT : okT T) (hi : i < kN T) (h : sitH Z σ s tl (kN T) (kP T) (kS T) (kA T)) (hcr : 0 ≤ cl ∧ cl < kP T) (hcl : σ.2.1 r0 10 = i64 cl) (hs : ∀ q : Nat, q ≤ (kS T i).toNat → σ.2.1 (24 + 6 * (r0 - 14) + i) q = i64 (sdI T y ds i cl (q : Int))) : ∃ σ', f_X1_agrees F Z σ r0 r1 (i32 (i : Int)) = some (b01 (agI T y ds i cl), σ') ∧ fr [8, 13] σ σ' ∧ sitH Z σ' s tl (kN T) (kP T) (kS T) (kA T) := by
  have hN := hT.1
  have hP := hT.2.2.1
  have hS := hT.2.2.2.2.2.1 i (by omega)
  obtain ⟨σ1, a1, a2, a3⟩ := p_asks (i := i) hF (by omega) h
  refine ⟨σ1, ?_, a2, a3⟩
  have hmn : (if i32 (kS T i) < (1 : Int32) then i32 (kS T i) else 1) = i32 (((if kS T i < 1 then kS T i else 1).toNat : Nat) : Int) := by
    by_cases c : kS T i < 1
    · rw [if_pos (show i32 (kS T i) < (1 : Int32) by rw [show (1 : Int32) = i32 1 from rfl, i32_lt (by omega)]; exact c), if_pos c]; congr 1; omega
    · rw [if_neg (show ¬ i32 (kS T i) < (1 : Int32) by rw [show (1 : Int32) = i32 1 from rfl, i32_lt (by omega)]; exact c), if_neg c]; rfl
  have hmb : (if kS T i < 1 then kS T i else 1).toNat ≤ (kS T i).toNat ∧ (((if kS T i < 1 then kS T i else 1).toNat : Nat) : Int) = if kS T i < 1 then kS T i else 1 := by split <;> omega
  have g0 := hs 0 (Nat.zero_le _)
  have g1 := hs _ hmb.1
  rw [hmb.2] at g1
  unfold f_X1_agrees
  rw [hz.1, oc_1, if_pos hz.2.1, p_stp hz.2.2.2.2.2.2.2.2.2.2.2.1 hz.2.2.2.2.2.2.2.2.2.2.2.2.1 (by omega), obs, hmn, p_saidAt hr (by omega) (by omega), obs, a1, obs, g1]
  dsimp only
  have k10 : σ1.2.1 r0 10 = i64 cl := by rw [a2.2.1 r0 10 (by simp (disch := omega) only [cd_n, cd_p, List.mem_cons, List.mem_singleton, List.not_mem_nil, or_false, false_or, or_true, true_or, not_or, not_false_eq_true, not_true_eq_false, and_true, true_and, and_self] <;> omega)]; exact hcl
  have kg : σ1.2.1 (24 + 6 * (r0 - 14) + i) 0 = i64 (sdI T y ds i cl 0) := by rw [fr_J a2 _ (ob_n (by omega)) (by simp (disch := omega) only [cd_n, cd_p, List.mem_cons, List.mem_singleton, List.not_mem_nil, or_false, false_or, or_true, true_or, not_or, not_false_eq_true, not_true_eq_false, and_true, true_and, and_self] <;> omega)]; exact g0
  have q0 := sd_rg (y := y) (ds := ds) (i := i) (cl := cl) (j := 0) hT
  have q1 := sd_rg (y := y) (ds := ds) (i := i) (cl := cl) (j := if kS T i < 1 then kS T i else 1) hT
  unfold agI
  cases d : asI (kN T) (kP T) (kS T) (kA T) 99 i with
  | false => rw [b01f, if_pos rfl]; rfl
  | true =>
    rw [b01t, if_neg n10, show (0 : Int32) = i32 ((0 : Nat) : Int) from rfl, p_saidAt hr (by omega) (by omega), obs, kg, hz.2.2.2.2.2.2.2.1, i32_l (by omega), p_plus q0 q1 (by omega), obs, k10]
    have q2 := mod_rg (sdI T y ds i cl 0 + sdI T y ds i cl (if kS T i < 1 then kS T i else 1)) (show 0 < kP T by omega)
    by_cases e : (sdI T y ds i cl 0 + sdI T y ds i cl (if kS T i < 1 then kS T i else 1)) % kP T = cl
    · rw [if_pos (by rw [e]), decide_eq_true e]; rfl
    · rw [if_neg (by rw [i64_eq (by omega)]; exact e), decide_eq_false e]; rfl
theorem p_move {F : Nat} {Z : hZ} {σ : hSt} {r0 r1 s tl tg i : Nat} {T : TK} {y cl d : Int} {ds : Nat → Int} (hF : 1000 ≤ F) (hr : r0 = 14 ∨ r0 = 15) (hz : tkZ Z r1 s tl tg T) (hT : okT T) (hi : i < kN T) (hd : 0 ≤ d ∧ d < kP T) (hs : ∀ q : Nat, q ≤ (kS T i).toNat → σ.2.1 (24 + 6 * (r0 - 14) + i) q = i64 (sdI T y ds i cl (q : Int))) : ∃ σ', f_X1_moveOn F Z σ r0 r1 (i32 (i : Int)) (i32 d) = some ((), σ') ∧ fr [10, 11, r0 + 4, 10000 + 100 * r0 + 10, 10000 + 100 * r0 + 12] σ σ' ∧ σ'.2.1 (r0 + 4) i = i64 d ∧ (∀ q, q ≠ i → σ'.2.1 (r0 + 4) q = σ.2.1 (r0 + 4) q) ∧ σ'.1 r0 12 = i32 ((i + 1 : Nat) : Int) ∧ σ'.2.1 r0 10 = i64 (nxI T y ds i cl d) := by
  have hN := hT.1
  have hP := hT.2.2.1
  have hS := hT.2.2.2.2.2.1 i (by omega)
  obtain ⟨a, b, c, e⟩ := i6 (show i < 6 by omega)
  obtain ⟨σ0, hσ0⟩ : ∃ σ0, σ0 = sI (sJ σ (r0 + 4) i (i64 d)) r0 12 (i32 ((i + 1 : Nat) : Int)) := ⟨_, rfl⟩
  have hp : ((kP T).toNat : Int) = kP T := by omega
  have hjg := jl_g hr (show i < 6 by omega)
  obtain ⟨σ1, u1, u2⟩ := p_nwS (F := F) (Z := Z) (p := (kP T).toNat) (m := (kS T i).toNat + 1) (r := 24 + 6 * (r0 - 14) + i) (x := d) (f := fun j => sdI T y ds i cl j) (by omega) hT.2.1 (by omega) (by omega) (by omega) (by omega) (by omega) σ0 (fun q hq => by rw [hσ0, sI_2, sJ_r _ _ (by omega)]; exact hs q (by omega)) (fun q _ => by rw [hp]; exact sd_rg hT)
  rw [hp] at u1
  have f0 : fr [10, 11, r0 + 4, 10000 + 100 * r0 + 10, 10000 + 100 * r0 + 12] σ σ0 := by
    rw [hσ0]
    exact fr_tr (fr_sJ _ _ (by simp (disch := omega) only [cd_n, cd_p, List.mem_cons, List.mem_singleton, List.not_mem_nil, or_false, false_or, or_true, true_or, not_or, not_false_eq_true, not_true_eq_false, and_true, true_and, and_self] <;> omega)) (fr_sI _ _ (by simp (disch := omega) only [cd_n, cd_p, List.mem_cons, List.mem_singleton, List.not_mem_nil, or_false, false_or, or_true, true_or, not_or, not_false_eq_true, not_true_eq_false, and_true, true_and, and_self] <;> omega))
  have hx4 : ∀ q, (sJ σ1 r0 10 (i64 (nxI T y ds i cl d))).2.1 (r0 + 4) q = (sJ σ (r0 + 4) i (i64 d)).2.1 (r0 + 4) q := fun q => by
    rw [sJ_r _ _ (by omega), fr_J u2 (r0 + 4) (ob_n (by omega)) (by simp (disch := omega) only [cd_n, cd_p, List.mem_cons, List.mem_singleton, List.not_mem_nil, or_false, false_or, or_true, true_or, not_or, not_false_eq_true, not_true_eq_false, and_true, true_and, and_self] <;> omega), hσ0, sI_2]
  refine ⟨sJ σ1 r0 10 (i64 (nxI T y ds i cl d)), ?_, fr_tr f0 (fr_tr (fr_mono u2 (fun x hx => by simp only [List.mem_cons, List.not_mem_nil, or_false] at hx ⊢; omega)) (fr_sJ _ _ (by simp (disch := omega) only [cd_n, cd_p, List.mem_cons, List.mem_singleton, List.not_mem_nil, or_false, false_or, or_true, true_or, not_or, not_false_eq_true, not_true_eq_false, and_true, true_and, and_self] <;> omega))), ?_, fun q hq => ?_, ?_, sJ_t _ _ ⟨rfl, rfl⟩⟩
  · unfold f_X1_moveOn
    rw [if_neg a, if_neg b, if_neg b, e, if_neg c, if_neg c, hz.1, oc_1, if_pos hz.2.1, i32_l (by omega), ip1, p_stp hz.2.2.2.2.2.2.2.2.2.2.2.1 hz.2.2.2.2.2.2.2.2.2.2.2.2.1 (by omega), obs, hz.2.2.2.2.2.2.2.1, i32_l (by omega), ← hσ0, show i32 (kS T i) + (1 : Int32) = i32 (((kS T i).toNat + 1 : Nat) : Int) by rw [show (1 : Int32) = i32 1 from rfl, i32_add]; congr 1; omega, u1, obs]
    rfl
  · rw [hx4, sJ_t _ _ ⟨rfl, rfl⟩]
  · rw [hx4, sJ_j _ _ (by omega)]
  · rw [sJ_1, u2.1 r0 12 (by simp (disch := omega) only [cd_n, cd_p, List.mem_cons, List.mem_singleton, List.not_mem_nil, or_false, false_or, or_true, true_or, not_or, not_false_eq_true, not_true_eq_false, and_true, true_and, and_self] <;> omega), hσ0, sI_t _ _ ⟨rfl, rfl⟩]
theorem p_endL {Z : hZ} {r0 : Nat} {K : hSt → Option (Int32 × hSt)} (hr : r0 = 14 ∨ r0 = 15) : ∀ (k x M : Nat) (σ : hSt), x + k = 6 → k < M → (∀ q, q < x → σ.2.1 9 q = σ.2.1 (r0 + 4) q) → ∃ σ', fr [9] σ σ' ∧ (∀ q, q < 6 → σ'.2.1 9 q = σ.2.1 (r0 + 4) q) ∧ f_X1_believesAtEnd_L14 Z r0 K M σ (i32 (x : Int)) = K σ' := by
  intro k
  induction k with
  | zero =>
    intro x M σ hx hM h9
    obtain ⟨M, rfl⟩ : ∃ q, M = q + 1 := ⟨M - 1, by omega⟩
    obtain rfl : x = 6 := by omega
    refine ⟨σ, fr_rf _ _, h9, ?_⟩
    rw [f_X1_believesAtEnd_L14, if_pos (show (6 : Int32) ≤ i32 ((6 : Nat) : Int) by decide)]
  | succ k ih =>
    intro x M σ hx hM h9
    obtain ⟨M, rfl⟩ : ∃ q, M = q + 1 := ⟨M - 1, by omega⟩
    obtain ⟨a, b, c, e⟩ := i6 (show x < 6 by omega)
    have f0 : fr [9] σ (sJ σ 9 x (σ.2.1 (r0 + 4) x)) := fr_sJ _ _ (by simp (disch := omega) only [cd_n, cd_p, List.mem_cons, List.mem_singleton, List.not_mem_nil, or_false, false_or, or_true, true_or, not_or, not_false_eq_true, not_true_eq_false, and_true, true_and, and_self] <;> omega)
    obtain ⟨σ', e1, e2, e3⟩ := ih (x + 1) M (sJ σ 9 x (σ.2.1 (r0 + 4) x)) (by omega) (by omega) (fun q hq => by
      rw [sJ_r _ _ (show r0 + 4 < 9 ∨ 9 < r0 + 4 by omega)]
      by_cases e : q = x
      · rw [sJ_t _ _ ⟨rfl, e⟩, e]
      · rw [sJ_j _ _ (by omega)]; exact h9 q (by omega))
    refine ⟨σ', fr_tr f0 e1, fun q hq => by rw [e2 q hq, sJ_r _ _ (by omega)], ?_⟩
    have hv : σ.2.1 (r0 + 4) x = i64 (σ.2.1 (r0 + 4) x).toInt := (i64_all _).1
    rw [f_X1_believesAtEnd_L14, if_neg b, e, if_neg c, hv, p_put σ _ (by omega), obs, ip1, ← hv]
    exact e3
theorem p_end {F : Nat} {Z : hZ} {σ : hSt} {r0 r1 s tl tg : Nat} {T : TK} {cl : Int} {ds : Nat → Int} (hF : 1000 ≤ F) (hr : r0 = 14 ∨ r0 = 15) (hz : tkZ Z r1 s tl tg T) (hT : okT T) (h : sitH Z σ s tl (kN T) (kP T) (kS T) (kA T)) (hcr : 0 ≤ cl ∧ cl < kP T) (hcl : σ.2.1 r0 10 = i64 cl) (hd : ∀ x, 0 ≤ ds x ∧ ds x < kP T) (h4 : ∀ q, q < kN T → σ.2.1 (r0 + 4) q = i64 (ds q)) : ∃ σ', f_X1_believesAtEnd F Z σ r0 r1 = some (b01 (enI T ds cl), σ') ∧ fr [8, 9, 13, 10000 + 100 * r0 + 11] σ σ' ∧ σ'.1 r0 11 = (if enI T ds cl = true then σ.1 r0 11 else i32 (kN T : Int)) ∧ sitH Z σ' s tl (kN T) (kP T) (kS T) (kA T) := by
  have hN := hT.1
  have hP := hT.2.2.1
  obtain ⟨σ1, a1, a2, a3⟩ := p_asksEnd hF h
  rw [Int.toNat_natCast] at a1
  unfold f_X1_believesAtEnd enI
  rw [a1, obs]
  dsimp only
  cases d : asI (kN T) (kP T) (kS T) (kA T) 101 (kN T) with
  | false =>
    rw [b01f, if_pos rfl]
    exact ⟨σ1, rfl, fr_mono a2 (by simp), by rw [a2.1 r0 11 (by simp (disch := omega) only [cd_n, cd_p, List.mem_cons, List.mem_singleton, List.not_mem_nil, or_false, false_or, or_true, true_or, not_or, not_false_eq_true, not_true_eq_false, and_true, true_and, and_self] <;> omega)]; rfl, a3⟩
  | true =>
    obtain ⟨σ2, b1, b2, b3⟩ := p_endL (Z := Z) (K := (fun σ1 => (oc (Z.2.2.2 r1 0) (none) (fun r7 => if isSa Z r7 = true then (f_X3_worthOf F Z σ1 r7 (((Z.2.2.1 r1 1) : Int32).toInt64)).bind fun q10 => (if q10.1 = (q10.2.2.1 r0 10) then some ((1 : Int32), q10.2) else (oc (Z.2.2.2 r1 0) (none) (fun r13 => if isSa Z r13 = true then some ((0 : Int32), (sI q10.2 r0 11 (Z.2.2.1 r13 2))) else none))) else none)))) hr 6 0 F σ1 (by omega) (by omega) (fun q hq => absurd hq (Nat.not_lt_zero q))
    obtain ⟨σ3, c1, c2⟩ := pg_worthOf (Z := Z) (r := s) (F := F) (nm := kN T) (pt := ds) (by omega) hz.2.2.2.2.2.2.2.2.1 hT.2.2.2.1 hT.2.2.2.2.1 (show 1 < kP T ∧ kP T ≤ 1000000007 by omega) (fun x _ => hd x) σ2 (fun q hq => by
      rw [b2 q (by omega), fr_J a2 (r0 + 4) (ob_n (by omega)) (by simp (disch := omega) only [cd_n, cd_p, List.mem_cons, List.mem_singleton, List.not_mem_nil, or_false, false_or, or_true, true_or, not_or, not_false_eq_true, not_true_eq_false, and_true, true_and, and_self] <;> omega)]
      exact h4 q hq)
    have f3 : fr [8, 9, 13, 10000 + 100 * r0 + 11] σ σ3 := fr_tr (fr_mono a2 (by simp)) (fr_tr (fr_mono b1 (by simp)) (fr_mono c2 (by simp)))
    have h3 : sitH Z σ3 s tl (kN T) (kP T) (kS T) (kA T) := sitH_W (sitH_W a3 b1 (by decide) (by decide) (by decide) (by decide)) c2 (by decide) (by decide) (by decide) (by decide)
    have k10 : σ3.2.1 r0 10 = i64 cl := by rw [f3.2.1 r0 10 (by simp (disch := omega) only [cd_n, cd_p, List.mem_cons, List.mem_singleton, List.not_mem_nil, or_false, false_or, or_true, true_or, not_or, not_false_eq_true, not_true_eq_false, and_true, true_and, and_self] <;> omega)]; exact hcl
    have hw := Wv_rg (pt := ds) (show 0 < kP T by omega) hT.2.2.2.1 (fun x _ => hd x)
    rw [b01t, if_neg n10]
    have e0 : ∀ v : Int32 × hSt, (if i64 (Wv (kP T) ds (kC T) (kL T)) = (σ3.2.1 r0 10) then some ((1 : Int32), σ3) else (oc (some s) (none) (fun r13 => if isSa Z r13 = true then some ((0 : Int32), (sI σ3 r0 11 (Z.2.2.1 r13 2))) else none))) = some v → f_X1_believesAtEnd_L14 Z r0 (fun σ1 => (oc (Z.2.2.2 r1 0) (none) (fun r7 => if isSa Z r7 = true then (f_X3_worthOf F Z σ1 r7 (((Z.2.2.1 r1 1) : Int32).toInt64)).bind fun q10 => (if q10.1 = (q10.2.2.1 r0 10) then some ((1 : Int32), q10.2) else (oc (Z.2.2.2 r1 0) (none) (fun r13 => if isSa Z r13 = true then some ((0 : Int32), (sI q10.2 r0 11 (Z.2.2.1 r13 2))) else none))) else none))) F σ1 0 = some v := by
      intro v hv
      refine Eq.trans b3 ?_
      rw [hz.1, oc_1, if_pos hz.2.1, hz.2.2.2.2.2.2.2.1, i32_l (by omega), c1, obs]
      exact hv
    rw [k10, oc_1, if_pos hz.2.1, hz.2.2.2.2.2.2.2.2.2.1] at e0
    by_cases e : Wv (kP T) ds (kC T) (kL T) = cl
    · rw [if_pos (by rw [e])] at e0
      rw [decide_eq_true e]
      refine ⟨σ3, e0 _ rfl, f3, ?_⟩
      have k11 : σ3.1 r0 11 = σ.1 r0 11 := by rw [c2.1 r0 11 (by simp (disch := omega) only [cd_n, cd_p, List.mem_cons, List.mem_singleton, List.not_mem_nil, or_false, false_or, or_true, true_or, not_or, not_false_eq_true, not_true_eq_false, and_true, true_and, and_self] <;> omega), b1.1 r0 11 (by simp (disch := omega) only [cd_n, cd_p, List.mem_cons, List.mem_singleton, List.not_mem_nil, or_false, false_or, or_true, true_or, not_or, not_false_eq_true, not_true_eq_false, and_true, true_and, and_self] <;> omega), a2.1 r0 11 (by simp (disch := omega) only [cd_n, cd_p, List.mem_cons, List.mem_singleton, List.not_mem_nil, or_false, false_or, or_true, true_or, not_or, not_false_eq_true, not_true_eq_false, and_true, true_and, and_self] <;> omega)]
      exact ⟨by rw [k11]; rfl, h3⟩
    · rw [if_neg (by rw [i64_eq (by omega)]; exact e)] at e0
      rw [decide_eq_false e]
      exact ⟨_, e0 _ rfl, fr_tr f3 (fr_sI _ _ (by simp (disch := omega) only [cd_n, cd_p, List.mem_cons, List.mem_singleton, List.not_mem_nil, or_false, false_or, or_true, true_or, not_or, not_false_eq_true, not_true_eq_false, and_true, true_and, and_self] <;> omega)), by rw [sI_t _ _ ⟨rfl, rfl⟩]; rfl, sitH_W h3 (fr_sI (W := [10000 + 100 * r0 + 11]) _ _ (by simp (disch := omega) only [cd_n, cd_p, List.mem_cons, List.mem_singleton, List.not_mem_nil, or_false, false_or, or_true, true_or, not_or, not_false_eq_true, not_true_eq_false, and_true, true_and, and_self] <;> omega)) (by simp (disch := omega) only [cd_n, cd_p, List.mem_cons, List.mem_singleton, List.not_mem_nil, or_false, false_or, or_true, true_or, not_or, not_false_eq_true, not_true_eq_false, and_true, true_and, and_self] <;> omega) (by simp (disch := omega) only [cd_n, cd_p, List.mem_cons, List.mem_singleton, List.not_mem_nil, or_false, false_or, or_true, true_or, not_or, not_false_eq_true, not_true_eq_false, and_true, true_and, and_self] <;> omega) (by simp (disch := omega) only [cd_n, cd_p, List.mem_cons, List.mem_singleton, List.not_mem_nil, or_false, false_or, or_true, true_or, not_or, not_false_eq_true, not_true_eq_false, and_true, true_and, and_self] <;> omega) (by simp (disch := omega) only [cd_n, cd_p, List.mem_cons, List.mem_singleton, List.not_mem_nil, or_false, false_or, or_true, true_or, not_or, not_false_eq_true, not_true_eq_false, and_true, true_and, and_self] <;> omega)⟩
