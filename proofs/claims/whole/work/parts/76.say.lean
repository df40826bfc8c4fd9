/-! LiarHall.saying, where one is told -/
theorem yin {G : hG} {Z : hZ} {Y : va_W} {σ : hSt} {x : Nat × va_E} : (x :: hW G Z Y σ).Perm (hW G Z (x :: Y) σ) := by
  unfold hW
  have h1 : (x :: (hfix G Z σ ++ (hdyn G Z ++ Y))).Perm (hfix G Z σ ++ (x :: (hdyn G Z ++ Y))) := List.perm_middle.symm
  exact h1.trans (List.perm_middle.symm.append_left _)
theorem zT_sz {Z : hZ} {news : List Nat} {ln : Nat → Nat} {ii : Nat → Nat → Int32} {rr : Nat → Nat → Option Nat} {lr er base c n' : Nat} : (zT Z news ln ii rr lr er base c n').2.2.1 lr 2 = i32 ((c + 1 : Nat) : Int) := by
  show (if lr = lr then (if 2 = 0 then _ else if 2 = 2 then _ else _) else _) = _
  rw [if_pos rfl, if_neg (by decide), if_pos rfl]
theorem hd_sa {G : hG} {Z : hZ} {r : Nat} (h : r / 1000 = 1) : hd G Z r = .inr (5, [.ref (G.2.1 (r + 1000)), .ref (G.2.1 (r + 2000)), .int (Z.2.2.1 r 2), .int (Z.2.2.1 r 3), .int (Z.2.2.1 r 4)]) := by
  unfold hd
  rw [if_pos h]
theorem hd_te {G : hG} {Z : hZ} {r : Nat} (h : r / 1000 = 4 ∨ r / 1000 = 5) : hd G Z r = .inr (9, [.ref (G.2.1 (r + 2000))]) := by
  unfold hd
  rw [if_neg (by omega), if_neg (by omega), if_pos h]
theorem hd_ta {G : hG} {Z : hZ} {r : Nat} (h : r / 1000 = 8) : hd G Z r = .inr (7, [va_rf ((Z.2.2.2 r 0).map G.2.1), .int (Z.2.2.1 r 1), va_rf ((Z.2.2.2 r 2).map G.2.1), va_rf ((Z.2.2.2 r 3).map G.2.1)]) := by
  unfold hd
  rw [if_neg (by omega), if_neg (by omega), if_neg (by omega), if_pos h]
theorem hd_ne {G : hG} {Z : hZ} {r : Nat} (h : r / 1000 = 9) : hd G Z r = .inr (3, [.int (Z.2.2.1 r 0), .int (Z.2.2.1 r 1)]) := by
  unfold hd
  rw [if_neg (by omega), if_neg (by omega), if_neg (by omega), if_neg (by omega), if_pos h]
theorem hd_co {G : hG} {Z : hZ} {r : Nat} (h : r / 1000 = 2 ∨ r / 1000 = 3 ∨ r / 1000 = 6 ∨ r / 1000 = 7) : hd G Z r = .inl (G.1 0, Z.2.1 r, .inl (Z.2.2.1 r)) := by
  unfold hd
  rw [if_neg (by omega), if_pos h]
theorem l_new {A : HA} {G : hG} {g : Nat → Nat} {Z Z1 : hZ} {Y : va_W} {σ : hSt} {news : List Nat} {er : Nat} {Nw : va_W} (hA : okA A) (hJ : JZ A Z) (hX : JX A G Z) (hn : nwG A G g news er) (he : 10000 ≤ er) (hge : g er = G.2.1 er) (hr : RF A σ) (hZ1 : Z1.1 = news ++ Z.1) (hag : ∀ r, r ∉ news → Z1.2.1 r = Z.2.1 r ∧ Z1.2.2.1 r = Z.2.2.1 r ∧ Z1.2.2.2 r = Z.2.2.2 r) (hN : Nw = news.map (fun r => (g r, hd (wG G g) Z1 r))) : (Nw ++ hW G Z Y σ).Perm (hW (wG G g) Z1 Y σ) := by
  have hlow : ∀ r, r < 1000 → r ∉ news := fun r h1 h2 => by have := (hn.1 r h2).1; omega
  have hn' : nwG A G g news 20000 := ⟨hn.1, fun r h1 _ => by
    by_cases c : r = er
    · rw [c]; exact hge
    · exact hn.2 r h1 c⟩
  have hl : ∀ q ∈ liL A, liE (wG G g) Z1 q.1 = liE G Z q.1 := fun q hq => by
    have ht := liL_told q hq
    have h3 := hag q.1 (hlow _ (by omega))
    exact liE_T hX hn' q hq (by omega) h3.2.1 h3.2.2
  have e38 := hl (38, 10000, 1000, nS_ A) (by simp [liL])
  have e39 := hl (39, 10001, 4000, nL_ A) (by simp [liL])
  have e40 := hl (40, 10002, 5000, nG_ A) (by simp [liL])
  have e41 := hl (41, 10003, 8000, nK_ A) (by simp [liL])
  have e42 := hl (42, 10004, 9000, nN_ A) (by simp [liL])
  dsimp only at e38 e39 e40 e41 e42
  have hgl : ∀ r, r < 900 → g r = G.2.1 r := fun r h1 => hn.low he (by omega)
  have g38 : (wG G g).2.1 38 = G.2.1 38 := hgl 38 (by decide)
  have g39 : (wG G g).2.1 39 = G.2.1 39 := hgl 39 (by decide)
  have g40 : (wG G g).2.1 40 = G.2.1 40 := hgl 40 (by decide)
  have g41 : (wG G g).2.1 41 = G.2.1 41 := hgl 41 (by decide)
  have g42 : (wG G g).2.1 42 = G.2.1 42 := hgl 42 (by decide)
  have hf : hfix (wG G g) Z1 σ = hfix G Z σ := by
    rw [hfix_eq, hfix_eq, hfA_g hgl (RF_g hn he hr), hfB_g hgl, e38, e39, e40, e41, e42, g38, g39, g40, g41, g42]
  have hd1 : hdyn (wG G g) Z1 = Nw ++ hdyn G Z := by
    unfold hdyn
    rw [hZ1, List.map_append, hN]
    congr 1
    refine List.map_congr_left (fun r hr' => ?_)
    have htd := hX.1 r hr'
    have h3 := hag r (fun h2 => (hn.1 r h2).2.2 htd)
    obtain ⟨a1, a2⟩ := hd_T hA hJ hX hn' (by decide) hr' (by
      rcases htd with ⟨s, hs, h2⟩ | ⟨k, hk, h2⟩ | ⟨k, hk, h2⟩ | ⟨x, hx, h2⟩ | ⟨i, hi, h2⟩ | h2
      · have := hA.1; omega
      · have := hA.2.2.1; omega
      · have := hA.2.2.2.2.1; omega
      · have := hA.2.2.2.2.2.2.1; omega
      · have := hA.2.2.2.2.2.2.2.2.1; omega
      · omega) h3.1 h3.2.1 h3.2.2
    show (g r, hd (wG G g) Z1 r) = _
    rw [a1, a2]
  unfold hW
  rw [hf, hd1, List.append_assoc]
  have h1 : ∀ (a b d : va_W), (a ++ (b ++ d)).Perm (b ++ (a ++ d)) := fun a b d => by
    rw [← List.append_assoc, ← List.append_assoc]
    exact List.perm_append_comm.append_right d
  exact h1 _ _ _
def gS (G : hG) (s a b d e : Nat) : Nat → Nat := fun r => if r = 1000 + s then a else if r = 2000 + s then b else if r = 3000 + s then d else if r = 10000 then e else G.2.1 r
theorem gS_n {A : HA} {G : hG} {a b d e : Nat} (hs : nS_ A < 20) : nwG A G (gS G (nS_ A) a b d e) (nwS (nS_ A)) 10000 := ⟨nwS_nt hs, fun r h1 h2 => by
  have h3 : r ≠ 1000 + nS_ A ∧ r ≠ 2000 + nS_ A ∧ r ≠ 3000 + nS_ A := by
    simpa only [nwS, List.mem_cons, List.not_mem_nil, or_false, not_or] using h1
  unfold gS
  rw [if_neg h3.1, if_neg h3.2.1, if_neg h3.2.2, if_neg h2]⟩
theorem gS_0 {G : hG} {s a b d e : Nat} (hs : s < 20) : gS G s a b d e (1000 + s) = a ∧ gS G s a b d e (2000 + s) = b ∧ gS G s a b d e (3000 + s) = d ∧ gS G s a b d e 10000 = e := by
  unfold gS
  refine ⟨if_pos rfl, ?_, ?_, ?_⟩
  · rw [if_neg (by omega), if_pos rfl]
  · rw [if_neg (by omega), if_neg (by omega), if_pos rfl]
  · rw [if_neg (by omega), if_neg (by omega), if_neg (by omega), if_pos rfl]
/-- the cells of the new SAYING by the roles -/
theorem nw_S {G : hG} {Z : hZ} {s len a b d e : Nat} {nm wk v : Int32} {f st : Nat → Int32} {Z' : hZ} (hs : s < 20) (h1 : ∀ r ∈ nwS s, Z'.2.1 r = zSl Z s len r ∧ Z'.2.2.1 r = zSi Z s nm wk v f st r) : [(a, .inr (5, [.ref b, .ref d, .int nm, .int wk, .int v])), (b, .inl (G.1 0, len, .inl f)), (d, .inl (G.1 0, 6, .inl st))] = (nwS s).map (fun r => (gS G s a b d e r, hd (wG G (gS G s a b d e)) Z' r)) := by
  obtain ⟨g0, g1, g2, -⟩ := gS_0 (G := G) (a := a) (b := b) (d := d) (e := e) hs
  have k0 := h1 (1000 + s) (by simp [nwS])
  have k1 := h1 (2000 + s) (by simp [nwS])
  have k2 := h1 (3000 + s) (by simp [nwS])
  have l1 : zSl Z s len (2000 + s) = len := by unfold zSl; rw [if_pos rfl]
  have l2 : zSl Z s len (3000 + s) = 6 := by unfold zSl; rw [if_neg (by omega), if_pos rfl]
  have i0 : zSi Z s nm wk v f st (1000 + s) = fun j => if j = 2 then nm else if j = 3 then wk else if j = 4 then v else 0 := by
    funext j; unfold zSi; rw [if_pos rfl]
  have i1 : zSi Z s nm wk v f st (2000 + s) = f := by
    funext j; unfold zSi; rw [if_neg (by omega), if_pos rfl]
  have i2 : zSi Z s nm wk v f st (3000 + s) = st := by
    funext j; unfold zSi; rw [if_neg (by omega), if_neg (by omega), if_pos rfl]
  have d0 : hd (wG G (gS G s a b d e)) Z' (1000 + s) = .inr (5, [.ref b, .ref d, .int nm, .int wk, .int v]) := by
    unfold hd
    rw [if_pos (by omega), k0.2, i0]
    show (Sum.inr (5, [.ref (gS G s a b d e (1000 + s + 1000)), .ref (gS G s a b d e (1000 + s + 2000)), .int nm, .int wk, .int v]) : va_E) = _
    rw [show 1000 + s + 1000 = 2000 + s by omega, show 1000 + s + 2000 = 3000 + s by omega, g1, g2]
  have d1 : hd (wG G (gS G s a b d e)) Z' (2000 + s) = .inl (G.1 0, len, .inl f) := by
    unfold hd
    rw [if_neg (by omega), if_pos (by omega), k1.1, k1.2, i1, l1]
  have d2 : hd (wG G (gS G s a b d e)) Z' (3000 + s) = .inl (G.1 0, 6, .inl st) := by
    unfold hd
    rw [if_neg (by omega), if_pos (by omega), k2.1, k2.2, i2, l2]
  show _ = [(gS G s a b d e (1000 + s), hd (wG G (gS G s a b d e)) Z' (1000 + s)), (gS G s a b d e (2000 + s), hd (wG G (gS G s a b d e)) Z' (2000 + s)), (gS G s a b d e (3000 + s), hd (wG G (gS G s a b d e)) Z' (3000 + s))]
  rw [g0, g1, g2, d0, d1, d2]
theorem RF_f {W : List Nat} {A : HA} {σ υ : hSt} (h : RF A σ) (f : fr W σ υ) (hn : ∀ q ∈ rfP, cd q.1 q.2 ∉ W) : RF A υ := fun q hq r e => h q hq r (by rw [← f.2.2.1 q.1 q.2 (hn q hq)]; exact e)
abbrev rm_X11s : Room := { frames := 60, cells := 4, slots := 700, locals := 1400 }
set_option maxRecDepth 100000 in
set_option maxHeartbeats 8000000 in
theorem e_X11_saying (l : Launch) (D : va_G) (G : hG) (Z : hZ) (Y : va_W) (σ τ : hSt) (A : HA) (F : Nat) (hF : 50000 ≤ F) (hJ : J A Z σ τ) (hX : JX A G Z) (hR : RF A σ) (hs : nS_ A < 20) (hd0 : sayF (aT A).1 (aT A).2 = none) : ∃ (C : List Int) (σ1 σ2 : hSt), C = (sayO (aT A).1 (aT A).2 8 0).2.2 ∧ okC C ∧ (∀ j, j < C.length → σ1.1 3 j = i32 (C.getD j 0)) ∧ fr [3, 8, 9, 10103, 10104, 10105] σ σ2 ∧
    CE l yX11_saying cX11_saying 2 (some .int) rm_X11s D G 4 700 [.ref (G.2.1 0)] (hW G Z Y σ) (fun q => hW (wG G (gS G (nS_ A) (q 0) (q 1) (q 2) (q 3))) (zS2 Z (nS_ A) C.length (i32 (nmL C : Int)) (i32 (wkL C : Int)) (i32 (coL C)) (cpI 400 C.length (σ1.1 3)) (stpF C C.length) (capN (Z.2.1 10000) (nS_ A))) Y (sI σ2 1 2 0)) (fun _ => some (.int (i32 (nS_ A : Int)))) := by
  obtain ⟨C, σ1, eC, hC, hread, hwr, hcode, hf1, hov⟩ := p_csay hF hJ hs hd0
  have hlen : C.length ≤ 200 := hC.1
  have hcf : ∀ j, j < C.length → cpI 400 C.length (σ1.1 3) j = i32 (C.getD j 0) := fun j hj => by rw [cpI_at hj]; exact hcode j hj
  obtain ⟨σ2, hov, hf2⟩ := hov (cpI 400 C.length (σ1.1 3)) (stpF C C.length) hcf
  refine ⟨C, σ1, σ2, eC, hC, hcode, fr_tr (fr_mono hf1 (by decide)) (fr_mono hf2 (by decide)), ?_⟩
  have hR1 : RF A σ1 := RF_f hR hf1 (by decide)
  have hR2 : RF A σ2 := RF_f hR1 hf2 (by decide)
  have hsz : f_Jx4a65c_size_8abf5 Z σ 38 = some (i32 (nS_ A : Int)) := by
    unfold f_Jx4a65c_size_8abf5
    rw [hX.2.2.1.1]
  refine CE.mk (cc := cX11_saying) (maxL := 2) (ret := some .int) (own := RX11) (plainFor_of_name (by decide)) rfl (Nat.le_of_ble_eq_true rfl) ?_
  intro p e s m args below meth c A0 ls C0 _ hA hP hD hl
  obtain ⟨hx, hb, hr, hml, hown, hts, hlocks, hK, hE⟩ := id C0
  have hS : va_S A0 s.heap s.heap [] := va_S.rf
  have hl : lv_has ls 2 [(0, .ref (G.2.1 0))] := hl
  refine lv_aload_n hx hb dX11_saying_0 rfl (lv_at hl 0 rfl) ?_
  refine va_get (D := D) (ci := 11) (v := .ref (G.2.1 38)) (C := RX11) (T := TX11) (N := 16) hx hb hts inU_X11 hown hK hP _ (hg_0 G Z Y σ) rfl 8 (by decide) (hts _ wd_243) (fun _ h9 => h9) rfl dX11_saying_1 ?_
  refine cl_V (G := G) (w := (hW G Z Y σ)) (w' := (hW G Z Y σ)) (rv := some (.int (i32 (nS_ A : Int)))) (bytes := cJx4a65c_size_8abf5) (maxL := 1) (ret := (some .int)) (C := RJx4a65c) (As := []) (rest := []) (stk := [.int (i32 (nS_ A : Int))]) ⟨hx, hb, hml, hown, hts⟩ hK hE hA hP hD hS (c_Jx4a65c_size_8abf5 l D G Z Y σ 38 (rfl : isLi 38 = true) _ hsz) (cwV 0 hts (gwV wd_523 wd_524 wd_525 wd_10 wd_526) rfl rfl rfl hd_Jx4a65c_size_8abf5 ⟨Nat.le_of_ble_eq_true rfl, Nat.le_of_ble_eq_true rfl⟩) (hg_38 G Z Y σ) rfl rfl rfl hl.1 rfl (Nat.le_of_ble_eq_true rfl) dX11_saying_4 ⟨Nat.le_of_ble_eq_true rfl, Nat.le_of_ble_eq_true rfl⟩ rfl (fun H locs hP hD hS => ?_)
  refine lv_bipush (v := 20) hx hb dX11_saying_7 (by decide) ?_
  refine lv_icmp_ge (tgt := 23) hx hb dX11_saying_9 (by decide) (fun c1 => absurd c1 (fun h => by have := (leI (a := 20) (by omega)).mp h; omega)) (fun _ => ?_)
  refine lv_aload_n hx hb dX11_saying_12 rfl (lv_at hl 0 rfl) ?_
  refine va_get (D := D) (ci := 11) (v := .ref (G.2.1 4)) (C := RX11) (T := TX11) (N := 16) hx hb hts inU_X11 hown hK hP _ (hg_0 G Z Y σ) rfl 1 (by decide) (hts _ wd_236) (fun _ h9 => h9) rfl dX11_saying_13 ?_
  refine cl_V (G := G) (w := (hW G Z Y σ)) (w' := (hW G Z Y σ1)) (rv := some (.int (-1))) (bytes := cX5_read) (maxL := 1) (ret := (some .int)) (C := RX5) (As := []) (rest := []) (stk := [.int (-1)]) ⟨hx, hb, hml, hown, hts⟩ hK hE hA hP hD hS (c_X5_read l D G Z Y σ F _ hread) (cwV 0 hts (gwV wd_303 wd_304 wd_305 wd_3 wd_306) rfl rfl rfl hd_X5_read ⟨Nat.le_of_ble_eq_true rfl, Nat.le_of_ble_eq_true rfl⟩) (hg_4 G Z Y σ) rfl rfl rfl hl.1 rfl (Nat.le_of_ble_eq_true rfl) dX11_saying_16 ⟨Nat.le_of_ble_eq_true rfl, Nat.le_of_ble_eq_true rfl⟩ rfl (fun H locs hP hD hS => ?_)
  refine lv_iconst (v := (-1 : Int32)) hx hb dX11_saying_19 (by decide) ?_
  refine lv_icmp_eq (tgt := 25) hx hb dX11_saying_20 (by decide) (fun _ => ?_) (fun c1 => absurd rfl c1)
  refine va_new (ci := 5) (fs := [.null, .null, .int (0 : Int32), .int (0 : Int32), .int (0 : Int32)]) (C := RX4) (T := TX4) (N := 5) hx hb hts inU_X4 tyX4 tyX4_ok hown (hts _ wd_527) (hts _ wd_528) (hts _ wd_18) hK hP hD hS hA rfl (fun j hj => by rcases (show j = 0 ∨ j = 1 ∨ j = 2 ∨ j = 3 ∨ j = 4 by omega) with rfl | rfl | rfl | rfl | rfl <;> rfl) (Nat.le_of_ble_eq_true rfl) (Nat.le_of_ble_eq_true rfl) dX11_saying_25 (fun q1 H hP hD hS => ?_)
  have hP := pperm yin (pfront hP)
  have hD := dperm yin (dfront hD)
  refine lv_dup hx hb dX11_saying_28 rfl ?_
  refine lv_aload_n hx hb dX11_saying_29 rfl (lv_at hl 0 rfl) ?_
  refine va_get (D := D) (ci := 11) (v := .ref (G.2.1 1)) (C := RX11) (T := TX11) (N := 16) hx hb hts inU_X11 hown hK hP _ (hg_0 G Z _ σ1) rfl 0 (by decide) (hts _ wd_235) (fun _ h9 => h9) rfl dX11_saying_30 ?_
  refine cl_VE (C := RX8) (w := hW G Z ((q1, .inr (5, [.null, .null, .int (0 : Int32), .int (0 : Int32), .int (0 : Int32)])) :: Y) σ1) (As := []) (rest := [.ref q1, .ref q1]) (stk := fun q => [.ref (q 0), .ref q1, .ref q1]) ⟨hx, hb, hml, hown, hts⟩ hK hE hA hP hD hS (e_X8_writtenCode l D G Z _ σ1 C.length (by omega) hwr) (cwV 0 hts (gwV wd_529 wd_530 wd_531 wd_2 wd_532) rfl rfl rfl hd_X8_writtenCode ⟨Nat.le_of_ble_eq_true rfl, Nat.le_of_ble_eq_true rfl⟩) (hg_1 G Z _ σ1) rfl rfl rfl hl.1 rfl (Nat.le_of_ble_eq_true rfl) dX11_saying_33 ⟨Nat.le_of_ble_eq_true rfl, Nat.le_of_ble_eq_true rfl⟩ (fun _ => rfl) (fun qq H locs hP hD hS => ?_)
  generalize qq 0 = q2 at hP hD
  have hpa := (yin (G := G) (Z := Z) (Y := Y) (σ := σ1) (x := (q1, .inr (5, [.null, .null, .int (0 : Int32), .int (0 : Int32), .int (0 : Int32)])))).symm.cons (q2, .inl (G.1 0, C.length, .inl (cpI 400 C.length (σ1.1 3))))
  have hP := pperm (hpa.trans (List.Perm.swap _ _ _)) hP
  have hD := dperm (hpa.trans (List.Perm.swap _ _ _)) hD
  refine cl_IE (w := (q1, .inr (5, [.null, .null, .int (0 : Int32), .int (0 : Int32), .int (0 : Int32)])) :: (q2, .inl (G.1 0, C.length, .inl (cpI 400 C.length (σ1.1 3)))) :: hW G Z Y σ1) (rv := fun _ => none) (bytes := cX4_init) (maxL := 8) (As := [.ref q2]) (rest := [.ref q1]) (stk := fun _ => [.ref q1]) ⟨hx, hb, hml, hown, hts⟩ hK hE hA hP hD hS (e_X4_init l D G (hW G Z Y σ1) q1 q2 C _ (by omega) hcf (fun j hj => ⟨(hC.2.2.1 j hj).1, Int.le_trans (hC.2.2.1 j hj).2.1 (by decide)⟩)) (mkI hts wd_548 wd_549 wd_18 wd_550 rfl rfl rfl hd_X4_init ⟨Nat.le_of_ble_eq_true rfl, Nat.le_of_ble_eq_true rfl⟩) rfl hl.1 rfl (Nat.le_of_ble_eq_true rfl) dX11_saying_36 ⟨Nat.le_of_ble_eq_true rfl, Nat.le_of_ble_eq_true rfl⟩ (fun _ => rfl) (fun qq H locs hP hD hS => ?_)
  generalize qq 0 = q3 at hP hD
  have hp3 : ((q3, .inl (G.1 0, 6, .inl (stpF C C.length))) :: (q1, .inr (5, [.ref q2, .ref q3, .int (i32 (nmL C : Int)), .int (i32 (wkL C : Int)), .int 0])) :: (q2, .inl (G.1 0, C.length, .inl (cpI 400 C.length (σ1.1 3)))) :: hW G Z Y σ1).Perm ([(q1, .inr (5, [.ref q2, .ref q3, .int (i32 (nmL C : Int)), .int (i32 (wkL C : Int)), .int 0])), (q2, .inl (G.1 0, C.length, .inl (cpI 400 C.length (σ1.1 3)))), (q3, .inl (G.1 0, 6, .inl (stpF C C.length)))] ++ hW G Z Y σ1) :=
    (List.Perm.swap _ _ _).trans ((List.Perm.swap _ _ _).cons _)
  have hoff1 := zS_off Z (nS_ A) C.length (i32 (nmL C : Int)) (i32 (wkL C : Int)) 0 (cpI 400 C.length (σ1.1 3)) (stpF C C.length)
  have hn1 := gS_n (G := G) (a := q1) (b := q2) (d := q3) (e := G.2.1 10000) hs
  have hN1 := nw_S (G := G) (Z := Z) (Z' := (zS1 Z (nS_ A) C.length (i32 (nmL C : Int)) (i32 (wkL C : Int)) 0 (cpI 400 C.length (σ1.1 3)) (stpF C C.length))) (a := q1) (b := q2) (d := q3) (e := G.2.1 10000) hs (fun r _ => ⟨rfl, rfl⟩)
  have hnew : ∀ υ, RF A υ → (([(q1, .inr (5, [.ref q2, .ref q3, .int (i32 (nmL C : Int)), .int (i32 (wkL C : Int)), .int 0])), (q2, .inl (G.1 0, C.length, .inl (cpI 400 C.length (σ1.1 3)))), (q3, .inl (G.1 0, 6, .inl (stpF C C.length)))] : va_W) ++ hW G Z Y υ).Perm (hW (wG G (gS G (nS_ A) q1 q2 q3 (G.2.1 10000))) (zS1 Z (nS_ A) C.length (i32 (nmL C : Int)) (i32 (wkL C : Int)) 0 (cpI 400 C.length (σ1.1 3)) (stpF C C.length)) Y υ) := fun υ hυ => l_new hJ.1 hJ.2.1 hX hn1 (by decide) (gS_0 hs).2.2.2 hυ rfl hoff1 hN1
  have hP := pperm (hp3.trans (hnew σ1 hR1)) hP
  have hD := dperm (hp3.trans (hnew σ1 hR1)) hD
  have hsa : isSa (zS1 Z (nS_ A) C.length (i32 (nmL C : Int)) (i32 (wkL C : Int)) 0 (cpI 400 C.length (σ1.1 3)) (stpF C C.length)) (1000 + nS_ A) = true := sa_iff.mpr ⟨List.mem_append_left _ (by simp [nwS]), by omega, List.mem_append_left _ (by rw [show 1000 + nS_ A + 1000 = 2000 + nS_ A by omega]; simp [nwS]), List.mem_append_left _ (by rw [show 1000 + nS_ A + 2000 = 3000 + nS_ A by omega]; simp [nwS])⟩
  refine lv_astore_n (lv' := [(1, .ref q1), (0, .ref (G.2.1 0))]) hx hb dX11_saying_39 rfl hl (by decide) rfl (fun ls hl => ?_)
  refine lv_aload_n hx hb dX11_saying_40 rfl (lv_at hl 0 rfl) ?_
  refine lv_aload_n hx hb dX11_saying_41 rfl (lv_at hl 1 rfl) ?_
  have g00 : (wG G (gS G (nS_ A) q1 q2 q3 (G.2.1 10000))).2.1 0 = G.2.1 0 := hn1.low (by decide) (by decide)
  have g07 : (wG G (gS G (nS_ A) q1 q2 q3 (G.2.1 10000))).2.1 7 = G.2.1 7 := hn1.low (by decide) (by decide)
  have h0 := hg_0 (wG G (gS G (nS_ A) q1 q2 q3 (G.2.1 10000))) (zS1 Z (nS_ A) C.length (i32 (nmL C : Int)) (i32 (wkL C : Int)) 0 (cpI 400 C.length (σ1.1 3)) (stpF C C.length)) Y σ1
  have h7 := hg_7 (wG G (gS G (nS_ A) q1 q2 q3 (G.2.1 10000))) (zS1 Z (nS_ A) C.length (i32 (nmL C : Int)) (i32 (wkL C : Int)) 0 (cpI 400 C.length (σ1.1 3)) (stpF C C.length)) Y σ1
  rw [g00] at h0
  refine va_get (D := D) (ci := 11) (v := .ref ((wG G (gS G (nS_ A) q1 q2 q3 (G.2.1 10000))).2.1 7)) (C := RX11) (T := TX11) (N := 16) hx hb hts inU_X11 hown hK hP _ h0 rfl 4 (by decide) (hts _ wd_239) (fun _ h9 => h9) rfl dX11_saying_42 ?_
  refine lv_aload_n hx hb dX11_saying_45 rfl (lv_at hl 0 rfl) ?_
  refine lv_iconst (v := (0 : Int32)) hx hb dX11_saying_46 (by decide) ?_
  refine lv_ldc2 (v := 1000000007) hx hb hown (hts _ wd_576) dX11_saying_47 ?_
  have hov1 : f_X3_overCorners F (zS1 Z (nS_ A) C.length (i32 (nmL C : Int)) (i32 (wkL C : Int)) 0 (cpI 400 C.length (σ1.1 3)) (stpF C C.length)) σ1 (1000 + nS_ A) (0 : Int32) (1000000007 : Int64) = some (i64 (coL C), σ2) := hov
  have hcon := c_X3_overCorners l D (wG G (gS G (nS_ A) q1 q2 q3 (G.2.1 10000))) (zS1 Z (nS_ A) C.length (i32 (nmL C : Int)) (i32 (wkL C : Int)) 0 (cpI 400 C.length (σ1.1 3)) (stpF C C.length)) Y σ1 F (1000 + nS_ A) hsa 0 1000000007 _ hov1
  rw [show (wG G (gS G (nS_ A) q1 q2 q3 (G.2.1 10000))).2.1 (1000 + nS_ A) = q1 from (gS_0 hs).1] at hcon
  refine cl_V (G := wG G (gS G (nS_ A) q1 q2 q3 (G.2.1 10000))) (w := (hW (wG G (gS G (nS_ A) q1 q2 q3 (G.2.1 10000))) (zS1 Z (nS_ A) C.length (i32 (nmL C : Int)) (i32 (wkL C : Int)) 0 (cpI 400 C.length (σ1.1 3)) (stpF C C.length)) Y σ1)) (w' := (hW (wG G (gS G (nS_ A) q1 q2 q3 (G.2.1 10000))) (zS1 Z (nS_ A) C.length (i32 (nmL C : Int)) (i32 (wkL C : Int)) 0 (cpI 400 C.length (σ1.1 3)) (stpF C C.length)) Y σ2)) (rv := some (.long (i64 (coL C)))) (bytes := cX3_overCorners) (maxL := 10) (ret := (some .long)) (C := RX3) (As := [.ref q1, .int 0, .long 1000000007]) (rest := [.ref q1]) (stk := [.long (i64 (coL C)), .ref q1]) ⟨hx, hb, hml, hown, hts⟩ hK hE hA hP hD hS hcon (cwV 3 hts (gwV wd_577 wd_578 wd_579 wd_5 wd_580) rfl rfl rfl hd_X3_overCorners ⟨Nat.le_of_ble_eq_true rfl, Nat.le_of_ble_eq_true rfl⟩) h7 rfl rfl rfl hl.1 rfl (Nat.le_of_ble_eq_true rfl) dX11_saying_50 ⟨Nat.le_of_ble_eq_true rfl, Nat.le_of_ble_eq_true rfl⟩ rfl (fun H locs hP hD hS => ?_)
  refine lv_l2i (v := i32 (coL C)) hx hb dX11_saying_53 (i64_i _) ?_
  have hP := pperm (hnew σ2 hR2).symm hP
  have hD := dperm (hnew σ2 hR2).symm hD
  refine va_putN (D := D) (ci := 5) (v := .int (i32 (coL C))) (ty := .int) (C := RX4) (T := TX4) (N := 5) hx hb hts inU_X4 tyX4 tyX4_ok nmX4 hown hK hP hD hS 0 rfl rfl 4 (by decide) (nF_use 17 hE rfl) (fun _ h9 => h9) rfl (by decide +kernel) rfl rfl (Nat.le_of_ble_eq_true rfl) dX11_saying_54 (fun H locs hP hD hS => ?_)
  have hP : va_P D vwCl ([(q1, .inr (5, [.ref q2, .ref q3, .int (i32 (nmL C : Int)), .int (i32 (wkL C : Int)), .int (i32 (coL C))])), (q2, .inl (G.1 0, C.length, .inl (cpI 400 C.length (σ1.1 3)))), (q3, .inl (G.1 0, 6, .inl (stpF C C.length)))] ++ hW G Z Y σ2) H := hP
  have hD : va_D A0 ([(q1, .inr (5, [.ref q2, .ref q3, .int (i32 (nmL C : Int)), .int (i32 (wkL C : Int)), .int (i32 (coL C))])), (q2, .inl (G.1 0, C.length, .inl (cpI 400 C.length (σ1.1 3)))), (q3, .inl (G.1 0, 6, .inl (stpF C C.length)))] ++ hW G Z Y σ2) := hD
  refine lv_aload_n hx hb dX11_saying_57 rfl (lv_at hl 1 rfl) ?_
  refine va_get (D := D) (ci := 11) (v := .ref (G.2.1 38)) (C := RX11) (T := TX11) (N := 16) hx hb hts inU_X11 hown hK hP 3 (hg_0 G Z Y σ2) rfl 8 (by decide) (hts _ wd_243) (fun _ h9 => h9) rfl dX11_saying_58 ?_
  refine lv_aload_n hx hb dX11_saying_61 rfl (lv_at hl 0 rfl) ?_
  refine cl_add (Nw := [(q1, .inr (5, [.ref q2, .ref q3, .int (i32 (nmL C : Int)), .int (i32 (wkL C : Int)), .int (i32 (coL C))])), (q2, .inl (G.1 0, C.length, .inl (cpI 400 C.length (σ1.1 3)))), (q3, .inl (G.1 0, 6, .inl (stpF C C.length)))]) (lr := 38) (er := 10000) (base := 1000) (c := nS_ A) (qv := q1) (ci := 5) (cj := 1) (kv := 0) ⟨hx, hb, hml, hown, hts⟩ hts hK hE hA hP hD hS (by decide) (by decide) hX.2.2.1 (by omega) rfl rfl (fun i hi => ?_) rfl hl.1 (Nat.le_of_ble_eq_true rfl) dX11_saying_62 ⟨Nat.le_of_ble_eq_true rfl, Nat.le_of_ble_eq_true rfl⟩ ⟨Nat.le_of_ble_eq_true rfl, Nat.le_of_ble_eq_true rfl⟩ (fun E' H locs hP hD hS => ?_)
  · obtain ⟨a1, -⟩ := hJ.2.1.1.2 i hi
    have a1 := sa_iff.mp a1
    exact ⟨a1.1, by omega, _, hd_sa (by omega)⟩
  have hn2 := gS_n (G := G) (a := q1) (b := q2) (d := q3) (e := E') hs
  have hN2 := nw_S (G := G) (Z := Z) (Z' := (zS2 Z (nS_ A) C.length (i32 (nmL C : Int)) (i32 (wkL C : Int)) (i32 (coL C)) (cpI 400 C.length (σ1.1 3)) (stpF C C.length) (capN (Z.2.1 10000) (nS_ A)))) (a := q1) (b := q2) (d := q3) (e := E') (len := C.length) (nm := i32 (nmL C : Int)) (wk := i32 (wkL C : Int)) (v := i32 (coL C)) (f := cpI 400 C.length (σ1.1 3)) (st := stpF C C.length) hs (fun r hr => by
    have h3 := nwS_nt hs r hr
    refine ⟨?_, ?_⟩
    · show (if r = 10000 then _ else _) = _
      rw [if_neg (by omega)]
    · funext j
      show (if r = 38 then _ else _) = _
      rw [if_neg (by omega)])
  have hoff2 := zS_off Z (nS_ A) C.length (i32 (nmL C : Int)) (i32 (wkL C : Int)) (i32 (coL C)) (cpI 400 C.length (σ1.1 3)) (stpF C C.length)
  have hj := T_join (Y := Y) (38, 10000, 1000, nS_ A) (by simp [liL]) hJ.1 hJ.2.1 hX hn2 hR2 hoff2 (n' := capN (Z.2.1 10000) (nS_ A)) hN2 (gS_0 hs).2.2.2.symm (gS_0 hs).1.symm
  have hP : va_P D vwCl (hW (wG G (gS G (nS_ A) q1 q2 q3 E')) (zS2 Z (nS_ A) C.length (i32 (nmL C : Int)) (i32 (wkL C : Int)) (i32 (coL C)) (cpI 400 C.length (σ1.1 3)) (stpF C C.length) (capN (Z.2.1 10000) (nS_ A))) Y σ2) H := pperm hj hP
  have hD : va_D A0 (hW (wG G (gS G (nS_ A) q1 q2 q3 E')) (zS2 Z (nS_ A) C.length (i32 (nmL C : Int)) (i32 (wkL C : Int)) (i32 (coL C)) (cpI 400 C.length (σ1.1 3)) (stpF C C.length) (capN (Z.2.1 10000) (nS_ A))) Y σ2) := dperm hj hD
  refine lv_pop hx hb dX11_saying_65 rfl ?_
  refine lv_aload_n hx hb dX11_saying_66 rfl (lv_at hl 1 rfl) ?_
  have g00 : (wG G (gS G (nS_ A) q1 q2 q3 E')).2.1 0 = G.2.1 0 := hn2.low (by decide) (by decide)
  have h0 := hg_0 (wG G (gS G (nS_ A) q1 q2 q3 E')) (zS2 Z (nS_ A) C.length (i32 (nmL C : Int)) (i32 (wkL C : Int)) (i32 (coL C)) (cpI 400 C.length (σ1.1 3)) (stpF C C.length) (capN (Z.2.1 10000) (nS_ A))) Y σ2
  rw [g00] at h0
  refine va_get (D := D) (ci := 11) (v := .ref ((wG G (gS G (nS_ A) q1 q2 q3 E')).2.1 1)) (C := RX11) (T := TX11) (N := 16) hx hb hts inU_X11 hown hK hP _ h0 rfl 0 (by decide) (hts _ wd_235) (fun _ h9 => h9) rfl dX11_saying_67 ?_
  refine lv_iconst (v := (0 : Int32)) hx hb dX11_saying_70 (by decide) ?_
  refine va_putN (D := D) (ci := 8) (v := .int 0) (ty := .int) (C := RX8) (T := TX8) (N := 6) hx hb hts inU_X8 tyX8 tyX8_ok nmX8 hown hK hP hD hS _ (hg_1 (wG G (gS G (nS_ A) q1 q2 q3 E')) (zS2 Z (nS_ A) C.length (i32 (nmL C : Int)) (i32 (wkL C : Int)) (i32 (coL C)) (cpI 400 C.length (σ1.1 3)) (stpF C C.length) (capN (Z.2.1 10000) (nS_ A))) Y σ2) rfl 2 (by decide) (nF_use 0 hE rfl) (fun _ h9 => h9) rfl (by decide +kernel) rfl rfl (Nat.le_of_ble_eq_true rfl) dX11_saying_71 (fun H locs hP hD hS => ?_)
  have hP : va_P D vwCl (hW (wG G (gS G (nS_ A) q1 q2 q3 E')) (zS2 Z (nS_ A) C.length (i32 (nmL C : Int)) (i32 (wkL C : Int)) (i32 (coL C)) (cpI 400 C.length (σ1.1 3)) (stpF C C.length) (capN (Z.2.1 10000) (nS_ A))) Y (sI σ2 1 2 0)) H := hP
  have hD : va_D A0 (hW (wG G (gS G (nS_ A) q1 q2 q3 E')) (zS2 Z (nS_ A) C.length (i32 (nmL C : Int)) (i32 (wkL C : Int)) (i32 (coL C)) (cpI 400 C.length (σ1.1 3)) (stpF C C.length) (capN (Z.2.1 10000) (nS_ A))) Y (sI σ2 1 2 0)) := hD
  refine lv_aload_n hx hb dX11_saying_74 rfl (lv_at hl 1 rfl) ?_
  have h0 := hg_0 (wG G (gS G (nS_ A) q1 q2 q3 E')) (zS2 Z (nS_ A) C.length (i32 (nmL C : Int)) (i32 (wkL C : Int)) (i32 (coL C)) (cpI 400 C.length (σ1.1 3)) (stpF C C.length) (capN (Z.2.1 10000) (nS_ A))) Y (sI σ2 1 2 0)
  rw [g00] at h0
  refine va_get (D := D) (ci := 11) (v := .ref ((wG G (gS G (nS_ A) q1 q2 q3 E')).2.1 38)) (C := RX11) (T := TX11) (N := 16) hx hb hts inU_X11 hown hK hP _ h0 rfl 8 (by decide) (hts _ wd_243) (fun _ h9 => h9) rfl dX11_saying_75 ?_
  have hsz2 : f_Jx4a65c_size_8abf5 (zS2 Z (nS_ A) C.length (i32 (nmL C : Int)) (i32 (wkL C : Int)) (i32 (coL C)) (cpI 400 C.length (σ1.1 3)) (stpF C C.length) (capN (Z.2.1 10000) (nS_ A))) (sI σ2 1 2 0) 38 = some (i32 ((nS_ A + 1 : Nat) : Int)) := by
    unfold f_Jx4a65c_size_8abf5
    exact congrArg some zT_sz
  refine cl_V (G := wG G (gS G (nS_ A) q1 q2 q3 E')) (w := (hW (wG G (gS G (nS_ A) q1 q2 q3 E')) (zS2 Z (nS_ A) C.length (i32 (nmL C : Int)) (i32 (wkL C : Int)) (i32 (coL C)) (cpI 400 C.length (σ1.1 3)) (stpF C C.length) (capN (Z.2.1 10000) (nS_ A))) Y (sI σ2 1 2 0))) (w' := (hW (wG G (gS G (nS_ A) q1 q2 q3 E')) (zS2 Z (nS_ A) C.length (i32 (nmL C : Int)) (i32 (wkL C : Int)) (i32 (coL C)) (cpI 400 C.length (σ1.1 3)) (stpF C C.length) (capN (Z.2.1 10000) (nS_ A))) Y (sI σ2 1 2 0))) (rv := some (.int (i32 ((nS_ A + 1 : Nat) : Int)))) (bytes := cJx4a65c_size_8abf5) (maxL := 1) (ret := (some .int)) (C := RJx4a65c) (As := []) (rest := []) (stk := [.int (i32 ((nS_ A + 1 : Nat) : Int))]) ⟨hx, hb, hml, hown, hts⟩ hK hE hA hP hD hS (c_Jx4a65c_size_8abf5 l D (wG G (gS G (nS_ A) q1 q2 q3 E')) (zS2 Z (nS_ A) C.length (i32 (nmL C : Int)) (i32 (wkL C : Int)) (i32 (coL C)) (cpI 400 C.length (σ1.1 3)) (stpF C C.length) (capN (Z.2.1 10000) (nS_ A))) Y _ 38 (rfl : isLi 38 = true) _ hsz2) (cwV 0 hts (gwV wd_523 wd_524 wd_525 wd_10 wd_526) rfl rfl rfl hd_Jx4a65c_size_8abf5 ⟨Nat.le_of_ble_eq_true rfl, Nat.le_of_ble_eq_true rfl⟩) (hg_38 (wG G (gS G (nS_ A) q1 q2 q3 E')) (zS2 Z (nS_ A) C.length (i32 (nmL C : Int)) (i32 (wkL C : Int)) (i32 (coL C)) (cpI 400 C.length (σ1.1 3)) (stpF C C.length) (capN (Z.2.1 10000) (nS_ A))) Y (sI σ2 1 2 0)) rfl rfl rfl hl.1 rfl (Nat.le_of_ble_eq_true rfl) dX11_saying_78 ⟨Nat.le_of_ble_eq_true rfl, Nat.le_of_ble_eq_true rfl⟩ rfl (fun H locs hP hD hS => ?_)
  refine lv_iconst (v := (1 : Int32)) hx hb dX11_saying_81 (by decide) ?_
  refine lv_isub hx hb dX11_saying_82 ?_
  have ev : i32 ((nS_ A + 1 : Nat) : Int) - 1 = i32 (nS_ A : Int) := by rw [show (1 : Int32) = i32 1 from rfl, i32_sub]; congr 1; omega
  rw [ev]
  refine W.widen (k := 4) (n := 700) (Nat.le_of_ble_eq_true rfl) (Nat.le_of_ble_eq_true rfl) ?_
  exact W.iret (v := i32 (nS_ A : Int)) hx hb hr (q_endE (W' := fun q => hW (wG G (gS G (nS_ A) (q 0) (q 1) (q 2) (q 3))) (zS2 Z (nS_ A) C.length (i32 (nmL C : Int)) (i32 (wkL C : Int)) (i32 (coL C)) (cpI 400 C.length (σ1.1 3)) (stpF C C.length) (capN (Z.2.1 10000) (nS_ A))) Y (sI σ2 1 2 0)) (rv := fun _ => some (.int (i32 (nS_ A : Int)))) (fun k => [q1, q2, q3, E'].getD k 0) hK hP hD hS) hS.2.2 dX11_saying_83
