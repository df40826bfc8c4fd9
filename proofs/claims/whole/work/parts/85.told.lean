/-! told by both: the call's contract, the model's answer, and what stands then -/
theorem t_saying (l : Launch) (D : va_G) (G : hG) (Z : hZ) (Y : va_W) (σ τ : hSt) (A : HA) (F : Nat) (hF : 50000 ≤ F) (hJ : J A Z σ τ) (hX : JX A G Z) (hR : RF A σ) (hs : nS_ A < 20) (hd0 : sayF (aT A).1 (aT A).2 = none) : ∃ (C : List Int) (σ1 σ2 τ' : hSt),
    CE l yX11_saying cX11_saying 2 (some .int) rm_X11s D G 4 700 [.ref (G.2.1 0)] (hW G Z Y σ) (fun q => hW (wG G (gS G (nS_ A) (q 0) (q 1) (q 2) (q 3))) (zS2 Z (nS_ A) C.length (i32 (nmL C : Int)) (i32 (wkL C : Int)) (i32 (coL C)) (cpI 400 C.length (σ1.1 3)) (stpF C C.length) (capN (Z.2.1 10000) (nS_ A))) Y (sI σ2 1 2 0)) (fun _ => some (.int (i32 (nS_ A : Int)))) ∧ f_X12_saying F Z τ = some (i32 (nS_ A : Int), τ') ∧ J (upS A C) (zS2 Z (nS_ A) C.length (i32 (nmL C : Int)) (i32 (wkL C : Int)) (i32 (coL C)) (cpI 400 C.length (σ1.1 3)) (stpF C C.length) (capN (Z.2.1 10000) (nS_ A))) (sI σ2 1 2 0) τ' ∧ ∀ a b d e, JX (upS A C) (wG G (gS G (nS_ A) a b d e)) (zS2 Z (nS_ A) C.length (i32 (nmL C : Int)) (i32 (wkL C : Int)) (i32 (coL C)) (cpI 400 C.length (σ1.1 3)) (stpF C C.length) (capN (Z.2.1 10000) (nS_ A))) := by
  obtain ⟨C, σ1, σ2, eC, hC, hcode, hfr, hCE⟩ := e_X11_saying l D G Z Y σ τ A F hF hJ hX hR hs hd0
  obtain ⟨τ', m1, m2⟩ := (q_msay hF hJ).2 ⟨by omega, hd0⟩
  rw [← eC] at m2
  have hcap := capN_ok hX.2.2.1 (by omega)
  have hcf : ∀ j, j < C.length → cpI 400 C.length (σ1.1 3) j = i32 (C.getD j 0) := fun j hj => by rw [cpI_at hj]; exact hcode j hj
  have hz := fun a b d e => JZ_say (G := G) (g := gS G (nS_ A) a b d e) (n' := capN (Z.2.1 10000) (nS_ A)) hJ.2.1 hJ.1 hX hs hC hcf hcap.1 hcap.2 (gS_n hs)
  exact ⟨C, σ1, σ2, τ', hCE, m1, ⟨okA_S hJ.1 hs hC, (hz 0 0 0 0).1, JS_say hJ hX hfr, m2, JLo_S hJ.2.2.2.2 hJ.1⟩, fun a b d e => (hz a b d e).2⟩
theorem t_law (l : Launch) (D : va_G) (G : hG) (Z : hZ) (Y : va_W) (σ τ : hSt) (A : HA) (F : Nat) (hF : 50000 ≤ F) (hJ : J A Z σ τ) (hX : JX A G Z) (hR : RF A σ) (hs : nL_ A < 12) (hd0 : txF (aT A).1 (aT A).2 0 = none) : ∃ (σ1 τ' : hSt),
    CE l yX11_law cX11_law 1 (some .int) rm_X11law D G 3 600 [.ref (G.2.1 0)] (hW G Z Y σ) (fun q => hW (wG G (gW G (nL_ A) (q 0) (q 1) (q 2))) (zW2 Z (nL_ A) (flat (tZc (aT A).1 (aT A).2 0)).length (cpI 400 (flat (tZc (aT A).1 (aT A).2 0)).length (σ1.1 3)) (capN (Z.2.1 10001) (nL_ A))) Y (sI σ1 1 2 0)) (fun _ => some (.int (i32 (nL_ A : Int)))) ∧ f_X12_law F Z τ = some (i32 (nL_ A : Int), τ') ∧ J (upW A (aT A)) (zW2 Z (nL_ A) (flat (tZc (aT A).1 (aT A).2 0)).length (cpI 400 (flat (tZc (aT A).1 (aT A).2 0)).length (σ1.1 3)) (capN (Z.2.1 10001) (nL_ A))) (sI σ1 1 2 0) τ' ∧ ∀ a b e, JX (upW A (aT A)) (wG G (gW G (nL_ A) a b e)) (zW2 Z (nL_ A) (flat (tZc (aT A).1 (aT A).2 0)).length (cpI 400 (flat (tZc (aT A).1 (aT A).2 0)).length (σ1.1 3)) (capN (Z.2.1 10001) (nL_ A))) := by
  obtain ⟨σ1, hcode, hfr, hCE⟩ := e_X11_law l D G Z Y σ τ A F hF hJ hX hR hs hd0
  obtain ⟨τ', m1, m2⟩ := (q_mlaw hF hJ).2 ⟨by omega, hd0⟩
  have hcap := capN_ok hX.2.2.2.1 (by omega)
  have hcf : ∀ j, j < (flat (tZc (aT A).1 (aT A).2 0)).length → cpI 400 (flat (tZc (aT A).1 (aT A).2 0)).length (σ1.1 3) j = i32 ((flat (tZc (aT A).1 (aT A).2 0)).getD j 0) := fun j hj => by rw [cpI_at hj]; exact hcode j hj
  have hz := fun a b e => JZ_W (G := G) (g := gW G (nL_ A) a b e) (t := aT A) (n' := capN (Z.2.1 10001) (nL_ A)) hJ.2.1 hJ.1 hX hs hcf hcap.1 hcap.2 (gW_n hJ.1 hs)
  have ht : okX 0 (aT A) := ⟨hJ.2.2.1.1.1, fun j hj => (hJ.2.2.1.1.2.2 j hj).2, hd0⟩
  exact ⟨σ1, τ', hCE, m1, ⟨okA_W hJ.1 hs ht, (hz 0 0 0).1, JSt_W hJ hX hfr, m2, hJ.2.2.2.2⟩, fun a b e => (hz a b e).2⟩
theorem t_giant (l : Launch) (D : va_G) (G : hG) (Z : hZ) (Y : va_W) (σ τ : hSt) (A : HA) (F : Nat) (hF : 50000 ≤ F) (hJ : J A Z σ τ) (hX : JX A G Z) (hR : RF A σ) (hs : nG_ A < 12) (hd0 : txF (aT A).1 (aT A).2 1 = none) : ∃ (σ1 τ' : hSt),
    CE l yX11_giant cX11_giant 1 (some .int) rm_X11giant D G 3 600 [.ref (G.2.1 0)] (hW G Z Y σ) (fun q => hW (wG G (gH G (nG_ A) (q 0) (q 1) (q 2))) (zH2 Z (nG_ A) (flat (tZc (aT A).1 (aT A).2 1)).length (cpI 400 (flat (tZc (aT A).1 (aT A).2 1)).length (σ1.1 3)) (capN (Z.2.1 10002) (nG_ A))) Y (sI σ1 1 2 0)) (fun _ => some (.int (i32 (nG_ A : Int)))) ∧ f_X12_giant F Z τ = some (i32 (nG_ A : Int), τ') ∧ J (upG A (aT A)) (zH2 Z (nG_ A) (flat (tZc (aT A).1 (aT A).2 1)).length (cpI 400 (flat (tZc (aT A).1 (aT A).2 1)).length (σ1.1 3)) (capN (Z.2.1 10002) (nG_ A))) (sI σ1 1 2 0) τ' ∧ ∀ a b e, JX (upG A (aT A)) (wG G (gH G (nG_ A) a b e)) (zH2 Z (nG_ A) (flat (tZc (aT A).1 (aT A).2 1)).length (cpI 400 (flat (tZc (aT A).1 (aT A).2 1)).length (σ1.1 3)) (capN (Z.2.1 10002) (nG_ A))) := by
  obtain ⟨σ1, hcode, hfr, hCE⟩ := e_X11_giant l D G Z Y σ τ A F hF hJ hX hR hs hd0
  obtain ⟨τ', m1, m2⟩ := (q_mgiant hF hJ).2 ⟨by omega, hd0⟩
  have hcap := capN_ok hX.2.2.2.2.1 (by omega)
  have hcf : ∀ j, j < (flat (tZc (aT A).1 (aT A).2 1)).length → cpI 400 (flat (tZc (aT A).1 (aT A).2 1)).length (σ1.1 3) j = i32 ((flat (tZc (aT A).1 (aT A).2 1)).getD j 0) := fun j hj => by rw [cpI_at hj]; exact hcode j hj
  have hz := fun a b e => JZ_H (G := G) (g := gH G (nG_ A) a b e) (t := aT A) (n' := capN (Z.2.1 10002) (nG_ A)) hJ.2.1 hJ.1 hX hs hcf hcap.1 hcap.2 (gH_n hJ.1 hs)
  have ht : okX 1 (aT A) := ⟨hJ.2.2.1.1.1, fun j hj => (hJ.2.2.1.1.2.2 j hj).2, hd0⟩
  exact ⟨σ1, τ', hCE, m1, ⟨okA_H hJ.1 hs ht, (hz 0 0 0).1, JSt_H hJ hX hfr, m2, hJ.2.2.2.2⟩, fun a b e => (hz a b e).2⟩
theorem t_net (l : Launch) (D : va_G) (G : hG) (Z : hZ) (Y : va_W) (σ τ : hSt) (A : HA) (hJ : J A Z σ τ) (hX : JX A G Z) (hR : RF A σ) (hs : nN_ A < 12) (n ed : Nat) (h : okN (n : Int) (ed : Int)) : ∃ (τ' : hSt),
    CE l yX11_net cX11_net 3 (some .int) rm_X11net D G 2 60 [.ref (G.2.1 0), .int (i32 (n : Int)), .int (i32 (ed : Int))] (hW G Z Y σ) (fun q => hW (wG G (gN G (nN_ A) (q 0) (q 1))) (zN2 Z (nN_ A) (n, ed) (capN (Z.2.1 10004) (nN_ A))) Y σ) (fun _ => some (.int (i32 (nN_ A : Int)))) ∧ f_X12_net Z τ (i32 (n : Int)) (i32 (ed : Int)) = some (i32 (nN_ A : Int), τ') ∧ J (upN A (n, ed)) (zN2 Z (nN_ A) (n, ed) (capN (Z.2.1 10004) (nN_ A))) σ τ' ∧ ∀ a e, JX (upN A (n, ed)) (wG G (gN G (nN_ A) a e)) (zN2 Z (nN_ A) (n, ed) (capN (Z.2.1 10004) (nN_ A))) := by
  obtain ⟨⟨h2, h6⟩, h0, h1⟩ := id h
  have h2 : 2 ≤ n := by omega
  have h6 : n ≤ 6 := by omega
  have npb := (nt_pw n (by omega) h2).2
  have hed : ed < 32768 := Nat.lt_of_lt_of_le (Int.ofNat_lt.mp h1) npb
  obtain ⟨τ', m1, m2⟩ := (q_mnet hJ (z1 := (n : Int)) (z2 := (ed : Int)) (by omega) (by omega)).2 ⟨by omega, h⟩
  have hcap := capN_ok hX.2.2.2.2.2.2 (by omega)
  have hz := fun a e => JZ_N (G := G) (g := gN G (nN_ A) a e) (t := (n, ed)) (n' := capN (Z.2.1 10004) (nN_ A)) hJ.2.1 hJ.1 hX hs ⟨h2, h6, hed⟩ hcap.1 hcap.2 (gN_n hJ.1 hs)
  exact ⟨τ', e_X11_net l D G Z Y σ τ A hJ hX hR hs n ed h2 h6 h1, m1, ⟨okA_N hJ.1 hs ⟨h2, h6, hed⟩, (hz 0 0).1, JSt_N hJ hX, m2, hJ.2.2.2.2⟩, fun a e => (hz a e).2⟩
theorem t_talk (l : Launch) (D : va_G) (G : hG) (Z : hZ) (Y : va_W) (σ τ : hSt) (A : HA) (F : Nat) (hF : 50000 ≤ F) (hJ : J A Z σ τ) (hX : JX A G Z) (hR : RF A σ) (hs : nK_ A < 12) (s k gg : Nat) (p : Int) (h : okK A (s : Int) p (k : Int) (gg : Int)) : ∃ (τ' : hSt),
    CE l yX11_talk cX11_talk 8 (some .int) rm_X11talk D G 2 60 [.ref (G.2.1 0), .int (i32 (s : Int)), .int (i32 p), .int (i32 (k : Int)), .int (i32 (gg : Int))] (hW G Z Y σ) (fun q => hW (wG G (gK G (nK_ A) (q 0) (q 1))) (zK2 Z (nK_ A) (s, p, k, gg) (capN (Z.2.1 10003) (nK_ A))) Y σ) (fun _ => some (.int (i32 (nK_ A : Int)))) ∧ f_X12_talk F Z τ (i32 (s : Int)) (i32 p) (i32 (k : Int)) (i32 (gg : Int)) = some (i32 (nK_ A : Int), τ') ∧ J (upK A (s, p, k, gg)) (zK2 Z (nK_ A) (s, p, k, gg) (capN (Z.2.1 10003) (nK_ A))) σ τ' ∧ ∀ a e, JX (upK A (s, p, k, gg)) (wG G (gK G (nK_ A) a e)) (zK2 Z (nK_ A) (s, p, k, gg) (capN (Z.2.1 10003) (nK_ A))) := by
  have c11 := hJ.1.1
  have c12 := hJ.1.2.2.1
  have c13 := hJ.1.2.2.2.2.1
  obtain ⟨⟨-, h1⟩, ⟨hp1, hp2, hpp⟩, ⟨-, h3⟩, ⟨-, h4⟩, hcn⟩ := id h
  have h1 : s < nS_ A := by omega
  have h3 : k < nL_ A := by omega
  have h4 : gg < nG_ A := by omega
  have hC := hJ.1.2.1 s h1
  have hcn6 : ∀ j, j < 6 → (cnL j (fS A s) : Int) < p := fun j hj => by
    by_cases c : j < nmL (fS A s)
    · exact hcn j c
    · rw [cn_z hj (by omega)]; omega
  obtain ⟨τ', m1, m2⟩ := (q_mtalk hF hJ (z1 := (s : Int)) (z2 := p) (z3 := (k : Int)) (z4 := (gg : Int)) (by omega) (by omega) (by omega) (by omega)).2 ⟨by omega, h⟩
  have hcap := capN_ok hX.2.2.2.2.2.1 (by omega)
  have hok : s < nS_ A ∧ k < nL_ A ∧ gg < nG_ A ∧ (3 ≤ p ∧ p ≤ 1000000007) ∧ nPr p.toNat ∧ ∀ j, j < 6 → (cnL j (fS A s) : Int) < p := ⟨h1, h3, h4, ⟨hp1, hp2⟩, hpp, hcn6⟩
  have hz := fun a e => JZ_K (G := G) (g := gK G (nK_ A) a e) (t := (s, p, k, gg)) (n' := capN (Z.2.1 10003) (nK_ A)) hJ.2.1 hJ.1 hX hs hok hcap.1 hcap.2 (gK_n hJ.1 hs)
  exact ⟨τ', e_X11_talk l D G Z Y σ τ A F hF hJ hX hR hs s k gg p h1 h3 h4 ⟨hp1, hp2⟩ hpp hcn6, m1, ⟨okA_K hJ.1 hs hok, (hz 0 0).1, JSt_K hJ hX, m2, JLo_K hJ.2.2.2.2⟩, fun a e => (hz a e).2⟩
